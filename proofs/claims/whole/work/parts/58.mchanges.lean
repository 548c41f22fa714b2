/-! ===== the reference's: numbers in a range, marks of takes, sounds ===== -/
theorem m_in {x lo hi : Int64} {K : Int32 → Prop} (k : K (if lo ≤ x ∧ x ≤ hi then 1 else 0)) : xp_X5_in x lo hi K := by
  unfold xp_X5_in
  rw [lg_cmp_lt, lg_cmp_gt]
  refine ⟨fun c => ?_, fun c => ⟨fun c1 => ?_, fun c1 => ?_⟩⟩
  · rw [if_neg (fun q => Int64.not_lt.mpr q.1 c)] at k; exact k
  · rw [if_neg (fun q => Int64.not_lt.mpr q.2 c1)] at k; exact k
  · rw [if_pos ⟨Int64.not_lt.mp c, Int64.not_lt.mp c1⟩] at k; exact k
theorem wd_le (a b : Int32) : a.toInt64 ≤ b.toInt64 ↔ a ≤ b := by
  rw [Int64.le_iff_toInt_le, Int32.toInt_toInt64, Int32.toInt_toInt64, Int32.le_iff_toInt_le]
/-- .. of an int -/
theorem m_inI {x lo hi : Int32} {l h : Int64} {K : Int32 → Prop} (hl : l = lo.toInt64) (hh : h = hi.toInt64) (k : K (if lo ≤ x ∧ x ≤ hi then 1 else 0)) : xp_X5_in x.toInt64 l h K := by
  refine m_in ?_
  subst hl hh
  by_cases c : lo ≤ x ∧ x ≤ hi
  · rw [if_pos c] at k; rw [if_pos ⟨(wd_le _ _).mpr c.1, (wd_le _ _).mpr c.2⟩]; exact k
  · rw [if_neg c] at k; rw [if_neg (fun q => c ⟨(wd_le _ _).mp q.1, (wd_le _ _).mp q.2⟩)]; exact k
theorem nw_b {c : Prop} [Decidable c] : narrow .boolean (.int (if c then 1 else 0)) = .int (if c then 1 else 0) := by
  by_cases h : c
  · rw [if_pos h]; rfl
  · rw [if_neg h]; rfl
theorem m_isTake {r : Nat → Int32} {n : Nat} {x : Int32} {K : Int32 → Prop} (hn : vm r 0 0 = nI n) (h24 : n ≤ 24) (k1 : ∀ i : Nat, i < n → x = nI i → K 1) (k0 : (x < 0 ∨ nI n ≤ x) → K 0) : xp_X5_isTake r x K := by
  unfold xp_X5_isTake
  rw [← vm_h r (w := 0) (by omega), hn]
  have z : (0 : Int32).toInt = 0 := rfl
  have o : (1 : Int32).toInt = 1 := rfl
  have e1 : (nI n - 1).toInt = n - 1 := by rw [i_sub (by rw [nI_toInt (by omega), o]; omega) (by rw [nI_toInt (by omega), o]; omega), nI_toInt (by omega), o]
  refine m_inI (lo := 0) rfl rfl ⟨nw_b, ?_⟩
  rcases pk_ix x (n := n) (by omega) with h | h | ⟨j, hj, h⟩
  · rw [if_neg (fun q => Int32.not_lt.mpr q.1 h)]; exact k0 (Or.inl h)
  · rw [if_neg (fun q => ?_)]
    · exact k0 (Or.inr h)
    · have := q.2
      rw [Int32.le_iff_toInt_le, e1] at this
      rw [Int32.le_iff_toInt_le, nI_toInt (by omega)] at h
      omega
  · rw [if_pos ⟨by rw [h]; exact nI_pos' (by omega), by rw [Int32.le_iff_toInt_le, e1, h, nI_toInt (by omega)]; omega⟩]; exact k1 j hj h
theorem m_isSetup {s l : Int32} {K : Int32 → Prop} (k : K (if (1 ≤ s ∧ s ≤ 99) ∧ (0 ≤ l ∧ l ≤ 25) then 1 else 0)) : xp_X5_isSetup s l K := by
  unfold xp_X5_isSetup
  refine m_inI (lo := 1) (hi := 99) rfl rfl ?_
  by_cases c : 1 ≤ s ∧ s ≤ 99
  · rw [if_pos c]
    refine ⟨fun q => absurd q (by decide), fun _ => m_inI (lo := 0) (hi := 25) rfl rfl ?_⟩
    by_cases d : 0 ≤ l ∧ l ≤ 25
    · rw [if_pos d]; rw [if_pos ⟨c, d⟩] at k; exact ⟨fun q => absurd q (by decide), fun _ => k⟩
    · rw [if_neg d]; rw [if_neg (fun q => d q.2)] at k; exact ⟨fun _ => k, fun q => absurd rfl q⟩
  · rw [if_neg c]; rw [if_neg (fun q => c q.1)] at k; exact ⟨fun _ => k, fun q => absurd rfl q⟩
theorem e_isSetup {s l : Int32} {K : Int32 → Prop} (k : K (if (1 ≤ s ∧ s ≤ 99) ∧ (0 ≤ l ∧ l ≤ 25) then 1 else 0)) : xp_X4_isSetup s l K := by
  unfold xp_X4_isSetup
  refine ⟨fun c => ?_, fun c => ⟨fun c1 => ?_, fun c1 => ⟨fun c2 => ?_, fun c2 => ⟨fun c3 => ?_, fun c3 => ?_⟩⟩⟩⟩
  · rw [if_neg (fun q => Int32.not_lt.mpr q.1.1 c)] at k; exact k
  · rw [if_neg (fun q => Int32.not_lt.mpr q.1.2 c1)] at k; exact k
  · rw [if_neg (fun q => Int32.not_lt.mpr q.2.1 c2)] at k; exact k
  · rw [if_neg (fun q => Int32.not_lt.mpr q.2.2 c3)] at k; exact k
  · rw [if_pos ⟨⟨Int32.not_lt.mp c, Int32.not_lt.mp c1⟩, ⟨Int32.not_lt.mp c2, Int32.not_lt.mp c3⟩⟩] at k; exact k
theorem m_syncedBy {r : Nat → Int32} {n i : Nat} {x sh : Int32} {K : Int32 → Prop} (hn : vm r 0 0 = nI n) (h24 : n ≤ 24) (hi : i < 24) (hx : x = nI i) (hs : rg (-100) 100 sh) (ho : ∀ j, j < n → okO (vm r) i j) (k : K (syn (vm r) n i sh)) : xp_X5_syncedBy r x sh K := by
  have h0 : r 0 = nI n := by rw [← vm_h r (w := 0) (by omega)]; exact hn
  refine ⟨n + 1, lpx (fun m j => xp_X5_syncedBy_8 r K m x sh (syp (vm r) i sh j).1 (syp (vm r) i sh j).2 (nI j)) n (fun m => ?_) (fun m j hj h => ?_)⟩
  · show xp_X5_syncedBy_8 r K (m + 1) _ _ _ _ _
    rw [xp_X5_syncedBy_8, h0]
    exact ⟨fun _ => k, fun c => absurd (nI_le (Nat.le_refl _) (by omega)) c⟩
  · show xp_X5_syncedBy_8 r K (m + 1) _ _ _ _ _
    rw [xp_X5_syncedBy_8, h0]
    have go : ∀ o : Int32, o = (if vm r (j + 1) 9 = -1 then 0 else ovl (vm r) i j sh) → xp_X5_syncedBy_40 r K (fun v1 v2 v3 v4 v5 => xp_X5_syncedBy_8 r K m v1 v2 v3 v4 v5) x sh (syp (vm r) i sh j).1 (syp (vm r) i sh j).2 (nI j) o := by
      intro o ho
      unfold xp_X5_syncedBy_40 xp_X5_syncedBy_55
      have h' : xp_X5_syncedBy_8 r K m x sh (syp (vm r) i sh (j + 1)).1 (syp (vm r) i sh (j + 1)).2 (nI j + 1) := by rw [nI_1]; exact h
      simp only [syp, ← ho] at h'
      refine ⟨fun c => ⟨fun _ => ?_, fun q => absurd c q⟩, fun c => ⟨fun q => absurd q c, fun _ => ?_⟩⟩
      · rw [if_pos c] at h'; exact h'
      · rw [if_neg c] at h'; exact h'
    refine ⟨fun c => absurd c (nI_ge hj (by omega)), fun _ => m_of (i := j) (w := 9) (z := 8) (by omega) (by omega) (by omega) rfl rfl rfl ⟨fun c => ?_, fun c => ?_⟩⟩
    · exact m_overlap hi (by omega) hx rfl hs (ho j hj) (go _ (if_neg c).symm)
    · exact go 0 (if_pos c).symm
theorem m_astray {r : Nat → Int32} {n : Nat} {K : Int32 → Prop} (hn : vm r 0 0 = nI n) (h24 : n ≤ 24) (ho : ∀ i, i < n → ∀ j, j < n → okO (vm r) i j) (k : K (nI (unl (vm r) n n))) : xp_X5_astray r K := by
  have h0 : r 0 = nI n := by rw [← vm_h r (w := 0) (by omega)]; exact hn
  refine ⟨n + 1, lpx (fun m i => xp_X5_astray_4 r K m (nI (unl (vm r) n i)) (nI i)) n (fun m => ?_) (fun m i hi h => ?_)⟩
  · show xp_X5_astray_4 r K (m + 1) _ _
    rw [xp_X5_astray_4, h0]
    exact ⟨fun _ => k, fun c => absurd (nI_le (Nat.le_refl _) (by omega)) c⟩
  · show xp_X5_astray_4 r K (m + 1) _ _
    rw [xp_X5_astray_4, h0]
    have h' : xp_X5_astray_4 r K m (nI (unl (vm r) n (i + 1))) (nI i + 1) := by rw [nI_1]; exact h
    refine ⟨fun c => absurd c (nI_ge hi (by omega)), fun _ => m_syncedBy hn h24 (i := i) (by omega) rfl ⟨by decide, by decide⟩ (ho i hi) (m_of (i := i) (w := 9) (z := 8) (by omega) (by omega) (by omega) rfl rfl rfl ?_)⟩
    unfold xp_X5_astray_34
    refine ⟨fun hs => ⟨fun c => ?_, fun c => ?_⟩, fun hs => ⟨fun c => ?_, fun c => ?_⟩⟩
    · simp only [unl, if_neg hs, if_neg c] at h'; rw [nI_1]; exact h'
    · simp only [unl, if_neg hs, if_pos c] at h'; rw [Int32.add_zero]; exact h'
    · simp only [unl, if_pos hs, if_neg c] at h'; rw [nI_1]; exact h'
    · simp only [unl, if_pos hs, if_pos c] at h'; rw [Int32.add_zero]; exact h'
theorem m_own {r : Nat → Int32} {n : Nat} {sh : Int32} {K : Int32 → Prop} (hn : vm r 0 0 = nI n) (h24 : n ≤ 24) (hs : rg (-100) 100 sh) (ho : ∀ i, i < n → ∀ j, j < n → okO (vm r) i j) (k : K (nI (kep (vm r) n sh n))) : xp_X5_own r sh K := by
  have h0 : r 0 = nI n := by rw [← vm_h r (w := 0) (by omega)]; exact hn
  refine ⟨n + 1, lpx (fun m i => xp_X5_own_4 r K m sh (nI (kep (vm r) n sh i)) (nI i)) n (fun m => ?_) (fun m i hi h => ?_)⟩
  · show xp_X5_own_4 r K (m + 1) _ _ _
    rw [xp_X5_own_4, h0]
    exact ⟨fun _ => k, fun c => absurd (nI_le (Nat.le_refl _) (by omega)) c⟩
  · show xp_X5_own_4 r K (m + 1) _ _ _
    rw [xp_X5_own_4, h0]
    have h' : xp_X5_own_4 r K m sh (nI (kep (vm r) n sh (i + 1))) (nI i + 1) := by rw [nI_1]; exact h
    simp only [kep] at h'
    refine ⟨fun c => absurd c (nI_ge hi (by omega)), fun _ => m_of (i := i) (w := 9) (z := 8) (by omega) (by omega) (by omega) rfl rfl rfl ⟨fun c => ?_, fun c => m_syncedBy hn h24 (i := i) (by omega) rfl hs (ho i hi) ⟨fun c1 => ?_, fun c1 => ?_⟩⟩⟩
    · rw [if_neg (fun q => q.1 c)] at h'; rw [Int32.add_zero]; exact h'
    · rw [if_neg (fun q => c1 q.2)] at h'; rw [Int32.add_zero]; exact h'
    · rw [if_pos ⟨c, c1⟩] at h'; rw [nI_1]; exact h'
/-! ===== the reference's changes ===== -/
theorem w0 {r : Nat → Int32} {w : Nat} {x : Int32} (hw : w < 12) : vm (upd r w x) = vu (vm r) 0 w x := vm_upd (by omega) (by omega) (Or.inr rfl) (by unfold vx; rw [if_pos rfl, if_pos hw])
theorem w0s {r : Nat → Int32} {w : Nat} {x : Int32} (h0 : 12 ≤ w) (hw : w < 16) : vm (upd r (w + 1) x) = vu (vm r) 0 w x := vm_upd (by omega) hw (Or.inr rfl) (by unfold vx; rw [if_pos rfl, if_neg (by omega)])
theorem m_newCameraOn {r : Nat → Int32} {K : Int32 → (Nat → Int32) → Prop} (k : ∀ r', vm r' = aCam (vm r) → r' 12 = r 12 → K (vm r 0 6 + 1) r') : xp_X5_newCameraOn r K := by
  unfold xp_X5_newCameraOn
  rw [← vm_h r (w := 6) (by omega)]
  exact k _ (by rw [w0 (by omega), w0 (by omega)]) rfl
theorem m_newSoundOn {r : Nat → Int32} {K : Int32 → (Nat → Int32) → Prop} (k : ∀ r', vm r' = aSnd (vm r) → r' 12 = 0 → K (vm r 0 8 + 1) r') : xp_X5_newSoundOn r K := by
  unfold xp_X5_newSoundOn
  rw [← vm_h r (w := 8) (by omega)]
  exact k _ (by rw [vm_upd12, w0 (by omega), w0 (by omega)]) rfl
theorem m_callOn {r : Nat → Int32} {n : Nat} {s l : Int32} {K : Int32 → (Nat → Int32) → Prop} (hn : vm r 0 0 = nI n) (h24 : n ≤ 24) (k : ∀ r', vm r' = aMean (vm r) s l → r' 12 = r 12 → K (nI (nno (aMean (vm r) s l) n)) r') : xp_X5_callOn r s l K := by
  unfold xp_X5_callOn
  have e : vm (upd (upd r 1 s) 2 l) = aMean (vm r) s l := by rw [w0 (by omega), w0 (by omega)]
  refine m_next (n := n) (by rw [e]; unfold aMean; rw [vu_n (by omega), vu_n (by omega)]; exact hn) h24 ?_
  rw [e]
  exact k _ e rfl
theorem nno_w {V : Nat → Nat → Int32} {n : Nat} {s l t : Int32} : nno (aWrite V s l t) n = nno V n := by
  unfold aWrite
  rw [nno_h (by omega) (by omega), nno_h (by omega) (by omega), nno_h (by omega) (by omega)]
theorem m_boardOn {r : Nat → Int32} {n : Nat} {s l t : Int32} {K : Int32 → (Nat → Int32) → Prop} (hn : vm r 0 0 = nI n) (h24 : n ≤ 24) (k : ∀ r', vm r' = aWrite (vm r) s l t → r' 12 = r 12 → r' 5 = t → K (if s = vm r 0 1 ∧ l = vm r 0 2 ∧ t = nI (nno (vm r) n) then 1 else 0) r') : xp_X5_boardOn r s l t K := by
  unfold xp_X5_boardOn
  have e : vm (upd (upd (upd r 3 s) 4 l) 5 t) = aWrite (vm r) s l t := by rw [w0 (by omega), w0 (by omega), w0 (by omega)]
  have k' := k _ e rfl rfl
  rw [← vm_h r (w := 1) (by omega), ← vm_h r (w := 2) (by omega)]
  refine ⟨fun c => ?_, fun c => ⟨fun c1 => ?_, fun c1 => m_next (n := n) (by rw [e]; unfold aWrite; rw [vu_n (by omega), vu_n (by omega), vu_n (by omega)]; exact hn) h24 ?_⟩⟩
  · rw [if_neg (fun q => c q.1)] at k'; exact k'
  · rw [if_neg (fun q => c1 q.2.1)] at k'; exact k'
  · rw [e, nno_w]
    refine ⟨fun c2 => ?_, fun c2 => ?_⟩
    · rw [if_neg (fun q => c2 q.2.2)] at k'; exact k'
    · rw [if_pos ⟨c, c1, c2⟩] at k'; exact k'
theorem m_rightOn {r : Nat → Int32} {n : Nat} {K : Int32 → (Nat → Int32) → Prop} (hn : vm r 0 0 = nI n) (h24 : n ≤ 24) (k : ∀ r', vm r' = aWrite (vm r) (vm r 0 1) (vm r 0 2) (nI (nno (vm r) n)) → r' 12 = r 12 → K (nI (nno (vm r) n)) r') : xp_X5_rightOn r K := by
  unfold xp_X5_rightOn
  refine m_next hn h24 ?_
  rw [← vm_h r (w := 1) (by omega), ← vm_h r (w := 2) (by omega)]
  refine m_boardOn hn h24 (fun r' h1 h2 h5 => ?_)
  have := k r' h1 h2
  rw [h5]; exact this
theorem m_markOn {r : Nat → Int32} {n i : Nat} {x y b : Int32} {w z : Nat} {K : Int32 → (Nat → Int32) → Prop} (hn : vm r 0 0 = nI n) (h24 : n ≤ 24) (hi : i < n) (hx : x = nI i) (hy : y = nI z) (hw : w = z + 1) (hz : z = 13 ∨ z = 14)
    (k : ∀ r', vm r' = aMark (vm r) i w (if b = 0 then 0 else 1) → r' 12 = r 12 → K (if z = 13 then sumw (aMark (vm r) i w (if b = 0 then 0 else 1)) 14 n else nI (wrg (aMark (vm r) i w (if b = 0 then 0 else 1)) n)) r') : xp_X5_markOn r x y b K := by
  have go : ∀ c : Int32, (∀ r', vm r' = aMark (vm r) i w c → r' 12 = r 12 → K (if z = 13 then sumw (aMark (vm r) i w c) 14 n else nI (wrg (aMark (vm r) i w c) n)) r') → xp_X5_markOn_12 K r y c y x := by
    intro c k
    unfold xp_X5_markOn_12
    refine m_lay (i := i) (w := w) (z := z) (by omega) (by omega) (by omega) hx hy (by rw [if_neg (by omega)]; omega) (fun r' h1 h2 => ?_)
    have hn' : vm r' 0 0 = nI n := by rw [h1, vu_n (by omega)]; exact hn
    have k' := k r' h1 h2
    rw [← show vm r' = aMark (vm r) i w c from h1] at k'
    refine ⟨fun q => ?_, fun q => ?_⟩
    · rw [if_neg (fun e => q (by rw [hy, e]; rfl))] at k'
      exact m_wrong hn' h24 k'
    · have e : z = 13 := nI_inj (b := 13) (by omega) (by omega) (by rw [← hy]; exact q)
      rw [if_pos e] at k'
      exact m_sum hn' h24 (w := 14) (z := 13) (by omega) (by omega) rfl rfl k'
  unfold xp_X5_markOn
  refine ⟨fun c => ?_, fun c => ?_⟩
  · rw [if_pos c] at k; exact go _ k
  · rw [if_neg c] at k; exact go _ k
theorem m_fixOn {r : Nat → Int32} {n i : Nat} {x : Int32} {K : Int32 → (Nat → Int32) → Prop} (h24 : n ≤ 24) (hi : i < n) (hx : x = nI i)
    (k : ∀ r', vm r' = aFix (vm r) i → r' 12 = r 12 → K (if isr (vm r) i = true then 0 else 1) r') : xp_X5_fixOn r x K := by
  have go : ∀ t : Int32, t = (if isr (vm r) i = true then 0 else 1) → xp_X5_fixOn_13 K r x t := by
    intro t ht
    subst ht
    unfold xp_X5_fixOn_13
    refine m_of (i := i) (w := 0) (z := 0) (by omega) (by omega) (by omega) hx rfl rfl (m_lay (i := i) (w := 3) (z := 2) (by omega) (by omega) (by omega) hx rfl rfl (fun r1 h1 f1 => ?_))
    refine m_of (i := i) (w := 1) (z := 1) (by omega) (by omega) (by omega) hx rfl rfl (m_lay (i := i) (w := 4) (z := 3) (by omega) (by omega) (by omega) hx rfl rfl (fun r2 h2 f2 => ?_))
    refine m_numberOf (i := i) (by omega) hx (m_lay (i := i) (w := 5) (z := 4) (by omega) (by omega) (by omega) hx rfl rfl (fun r3 h3 f3 => k _ ?_ (f3.trans (f2.trans f1))))
    rw [h3, h2, rno_r (by omega) (by omega) (by omega), h1, rno_r (by omega) (by omega) (by omega), vu_n (by omega)]
  unfold xp_X5_fixOn
  refine m_isRight (i := i) (by omega) hx ?_
  by_cases hr : isr (vm r) i = true
  · rw [if_pos hr]; exact ⟨fun q => absurd q (by decide), fun _ => go 0 (if_pos hr).symm⟩
  · rw [if_neg hr]; exact ⟨fun _ => go 1 (if_neg hr).symm, fun q => absurd rfl q⟩
theorem m_begin {r : Nat → Int32} {K : (Nat → Int32) → Prop} (k : ∀ r', vm r' = v0 → r' 12 = 0 → K r') : xp_X5_begin r K := by
  refine ⟨377 + 1, ?_⟩
  have fin : ∀ u : Nat → Int32, (∀ j, j < 377 → u j = 0) → K (upd (upd (upd (upd (upd (upd (upd (upd (upd u 1 1) 3 1) 5 1) 6 1) 8 1) 13 300) 14 900) 15 10) 16 1) := by
    intro u hu
    refine k _ ?_ (hu 12 (by omega))
    rw [w0s (w := 15) (by omega) (by omega), w0s (w := 14) (by omega) (by omega), w0s (w := 13) (by omega) (by omega), w0s (w := 12) (by omega) (by omega), w0 (by omega), w0 (by omega), w0 (by omega), w0 (by omega), w0 (by omega)]
    have z : vm u = fun _ _ => 0 := by
      funext i w
      by_cases g : i ≤ 24 ∧ w < 16 ∧ ¬ (1 ≤ i ∧ w = 2)
      · rw [vm_at g.1 g.2.1 (by omega), hu]
        unfold vx
        split <;> split <;> omega
      · unfold vm
        rw [if_neg g]
    rw [z]
    funext i w
    unfold v0
    by_cases hi : i = 0
    · subst hi
      simp only [vu, true_and, if_true]
      repeat' split
      all_goals first | rfl | omega
    · simp only [vu, hi, false_and, if_false]
  have key : ∀ d i (u : Nat → Int32), i + d = 377 → (∀ j, j < i → u j = 0) → xp_X5_begin_2 K (d + 1) u (nI i) := by
    intro d
    induction d with
    | zero =>
      intro i u hi hu
      have : i = 377 := by omega
      subst this
      rw [xp_X5_begin_2]
      exact ⟨fun _ => fin u hu, fun c => absurd (nI_le (Nat.le_refl 377) (by omega)) c⟩
    | succ d ih =>
      intro i u hi hu
      rw [xp_X5_begin_2]
      refine ⟨fun c => absurd c (nI_ge (b := 377) (by omega) (by omega)), fun _ => ⟨vp_in_nI (by omega) (by omega), ?_⟩⟩
      rw [nI_clamp (by omega), nI_1]
      refine ih (i + 1) _ (by omega) (fun j hj => ?_)
      by_cases q : j = i
      · subst q; exact pk_us
      · rw [pk_un q]; exact hu j (by omega)
  exact key 377 0 r (by omega) (fun j hj => absurd hj (by omega))
theorem m_copy {n1 n3 p q : Nat} {f g : Nat → Int32} {x y : Int32} {K : (Nat → Int32) → Prop} (hx : x = nI p) (hy : y = nI q) (h1 : n1 < 100000) (h3 : n3 < 100000) (hp : p + 377 ≤ n1) (hq : q + 377 ≤ n3)
    (k : ∀ g', (∀ j, j < 377 → g' (q + j) = f (p + j)) → (∀ j, j < q ∨ q + 377 ≤ j → g' j = g j) → K g') : xp_X5_copyState n1 n3 f g x y K := by
  subst hx hy
  refine ⟨377 + 1, ?_⟩
  have key : ∀ d i (u : Nat → Int32), i + d = 377 → (∀ j, j < i → u (q + j) = f (p + j)) → (∀ j, j < q ∨ q + i ≤ j → u j = g j) → xp_X5_copyState_3 n1 n3 f K (d + 1) u (nI p) (nI q) (nI i) := by
    intro d
    induction d with
    | zero =>
      intro i u hi hu ho
      have : i = 377 := by omega
      subst this
      rw [xp_X5_copyState_3]
      exact ⟨fun _ => k u hu ho, fun c => absurd (nI_le (Nat.le_refl 377) (by omega)) c⟩
    | succ d ih =>
      intro i u hi hu ho
      rw [xp_X5_copyState_3, nI_add, nI_add]
      refine ⟨fun c => absurd c (nI_ge (b := 377) (by omega) (by omega)), fun _ => ⟨vp_in_nI (by omega) (by omega), vp_in_nI (by omega) (by omega), ?_⟩⟩
      rw [nI_clamp (by omega), nI_clamp (by omega), nI_1]
      refine ih (i + 1) _ (by omega) (fun j hj => ?_) (fun j hj => ?_)
      · by_cases e : j = i
        · subst e; exact pk_us
        · rw [pk_un (by omega)]; exact hu j (by omega)
      · rw [pk_un (by omega)]; exact ho j (by omega)
  exact key 377 0 g (by omega) (fun j hj => absurd hj (by omega)) (fun j _ => rfl)
