/-! ===== the law's cases: settings, what is found ===== -/
theorem sRg {x v : Int32} {w : Nat} (hx : x = nI w) (hw : w < 4) : (xLow w ≤ v ∧ v ≤ xHigh w) → ∀ B n, hR B n (12 + w) v := by
  intro h B n
  rcases (by omega : w = 0 ∨ w = 1 ∨ w = 2 ∨ w = 3) with rfl | rfl | rfl | rfl
  · exact (i_le (L := 60) (H := 999) rfl rfl).mp h
  · exact (i_le (L := 60) (H := 3600) rfl rfl).mp h
  · exact (i_le (L := 0) (H := 60) rfl rfl).mp h
  · exact (i_le (L := 0) (H := 1) rfl rfl).mp h
theorem e_isSetting {x v : Int32} {K : Int32 → Prop} (k1 : ∀ w, w < 4 → x = nI w → (xLow w ≤ v ∧ v ≤ xHigh w) → K 1) (k0 : ¬ (0 ≤ x ∧ x ≤ 3) ∨ (∃ w, w < 4 ∧ x = nI w ∧ ¬ (xLow w ≤ v ∧ v ≤ xHigh w)) → K 0) : xp_X4_isSetting x v K := by
  unfold xp_X4_isSetting
  have z : (0 : Int32).toInt = 0 := rfl
  have o : (3 : Int32).toInt = 3 := rfl
  refine ⟨fun c => k0 (Or.inl (fun q => Int32.not_lt.mpr q.1 c)), fun c => ⟨fun c1 => k0 (Or.inl (fun q => Int32.not_lt.mpr q.2 c1)), fun c1 => ?_⟩⟩
  obtain ⟨e, hb⟩ := rg_nv ((i_le z o).mp ⟨Int32.not_lt.mp c, Int32.not_lt.mp c1⟩)
  generalize x.toNatClampNeg = w at *
  have hw : w < 4 := by omega
  have vi : vp_in x 4 := by rw [e]; exact vp_in_nI hw (by omega)
  refine ⟨vi, ⟨fun c2 => k0 (Or.inr ⟨w, hw, e, fun q => Int32.not_lt.mpr q.1 c2⟩), fun c2 => ⟨vi, ⟨fun c3 => k0 (Or.inr ⟨w, hw, e, fun q => Int32.not_lt.mpr q.2 c3⟩), fun c3 => k1 w hw e ⟨Int32.not_lt.mp c2, Int32.not_lt.mp c3⟩⟩⟩⟩⟩
theorem m_isSetting {x v : Int32} {K : Int32 → Prop} (k1 : ∀ w, w < 4 → x = nI w → (xLow w ≤ v ∧ v ≤ xHigh w) → K 1) (k0 : ¬ (0 ≤ x ∧ x ≤ 3) ∨ (∃ w, w < 4 ∧ x = nI w ∧ ¬ (xLow w ≤ v ∧ v ≤ xHigh w)) → K 0) : xp_X5_isSetting x v K := by
  unfold xp_X5_isSetting
  have z : (0 : Int32).toInt = 0 := rfl
  have o : (3 : Int32).toInt = 3 := rfl
  refine m_inI (lo := 0) (hi := 3) rfl rfl ?_
  by_cases hx : 0 ≤ x ∧ x ≤ 3
  · rw [if_pos hx]
    obtain ⟨e, hb⟩ := rg_nv ((i_le z o).mp hx)
    generalize x.toNatClampNeg = w at *
    have hw : w < 4 := by omega
    refine ⟨fun q => absurd q (by decide), fun _ => ?_⟩
    have key : ∀ (lo hi : Int32) (l h : Int64), l = lo.toInt64 → h = hi.toInt64 → lo = xLow w → hi = xHigh w → xp_X5_isSetting_59 K h l v.toInt64 := by
      intro lo hi l h hl hh h1 h2
      unfold xp_X5_isSetting_59
      refine m_inI (lo := lo) (hi := hi) hl hh ?_
      rw [h1, h2]
      by_cases g : xLow w ≤ v ∧ v ≤ xHigh w
      · rw [if_pos g]; exact ⟨fun q => absurd q (by decide), fun _ => k1 w hw e g⟩
      · rw [if_neg g]; exact ⟨fun _ => k0 (Or.inr ⟨w, hw, e, g⟩), fun q => absurd rfl q⟩
    subst e
    unfold xp_X5_isSetting_26
    rcases (by omega : w = 0 ∨ w = 1 ∨ w = 2 ∨ w = 3) with rfl | rfl | rfl | rfl
    · exact ⟨fun q => absurd q (by decide), fun _ => ⟨fun q => absurd rfl q, fun _ => key 60 999 _ _ rfl rfl rfl rfl⟩⟩
    · exact ⟨fun q => absurd q (by decide), fun _ => ⟨fun _ => ⟨fun q => absurd rfl q, fun _ => key 60 3600 _ _ rfl rfl rfl rfl⟩, fun q => absurd q (by decide)⟩⟩
    · exact ⟨fun _ => ⟨fun _ => ⟨fun _ => ⟨fun q => absurd rfl q, fun _ => key 0 60 _ _ rfl rfl rfl rfl⟩, fun q => absurd q (by decide)⟩, fun q => absurd q (by decide)⟩, fun q => absurd (by decide) q⟩
    · exact ⟨fun _ => ⟨fun _ => ⟨fun _ => ⟨fun _ => key 0 1 _ _ rfl rfl rfl rfl, fun q => absurd q (by decide)⟩, fun q => absurd q (by decide)⟩, fun q => absurd q (by decide)⟩, fun q => absurd (by decide) q⟩
  · rw [if_neg hx]
    exact ⟨fun _ => k0 (Or.inl hx), fun q => absurd rfl q⟩
theorem set_no {x v : Int32} {w : Nat} (hw : w < 4) (e : x = nI w) (g : xLow w ≤ v ∧ v ≤ xHigh w) : ¬ (¬ (0 ≤ x ∧ x ≤ 3) ∨ (∃ w, w < 4 ∧ x = nI w ∧ ¬ (xLow w ≤ v ∧ v ≤ xHigh w))) := by
  rintro (h | ⟨u, hu, eu, h⟩)
  · exact h ⟨by rw [e]; exact nI_pos' (by omega), by rw [e]; exact nI_le (b := 3) (by omega) (by omega)⟩
  · have : u = w := nI_inj (by omega) (by omega) (eu.symm.trans e)
    subst this
    exact h g
theorem r_1113 {xs : Nat → Int32} {L : Nat} {X : SX → SM → (Nat → Int64) → Int32 → Prop} {sx : SX} {sm : SM} {out : Nat → Int64} {v4 : Int32} {B : Int} (hR : RR B sx sm) (hB : B < 900000) (h1 : vp_in (v4 + 1) L) (h2 : vp_in (v4 + 2) L) (hX : ∀ sx' sm' out', RR (B + 1) sx' sm' → X sx' sm' out' (v4 + 5)) : xp_L_law_1113 xs L X sx sm out v4 := by
  obtain ⟨⟨n, S⟩, hT, hD, hK⟩ := hR
  have S' := S.mono (B' := B + 1) (by omega)
  have D' := hD.mono (B' := B + 1) (by omega)
  have K' := hK.mono (B' := B + 1) (by omega)
  obtain ⟨c, o, hc, o14, er, eo, ea, hrow⟩ := hD
  unfold xp_L_law_1113 xp_L_set xp_X4_set xp_X5_set xp_X5_set_14
  generalize xs (v4 + 1).toNatClampNeg = x
  generalize xs (v4 + 2).toNatClampNeg = v
  refine ⟨h1, h2, e_isSetting (fun w hw e g => ⟨fun _ => e_remember er eo hc o14 (fun past' c' o' hp => e_choose hw e (fun a' ha => ⟨h1, h2, m_isSetting (fun w' hw' e' g' => ?_) (fun q => absurd q (set_no hw e g))⟩)), fun q => absurd q (by decide)⟩) (fun g => ⟨fun q => absurd rfl q, fun _ => ⟨rfl, h1, h2, m_isSetting (fun w' hw' e' g' => absurd g (set_no hw' e' g')) (fun _ => ⟨fun _ => m_ref1 ⟨fun q => absurd q (by decide), fun _ => c_th rfl (by decide) (hX _ _ _ ⟨⟨n, S'⟩, hT, D', K'⟩)⟩, fun q => absurd rfl q⟩)⟩⟩)⟩
  have e13 : 13 + x = nI (12 + w + 1) := by rw [e, show (13 : Int32) = nI 13 from rfl, nI_add]; congr 1; omega
  rw [e13, nI_clamp (by omega)]
  have vi : vp_in (nI (12 + w + 1)) 377 := vp_in_nI (by omega) (by omega)
  refine ⟨fun q => absurd q (by decide), fun _ => m_ref0 ⟨fun _ => m_remember ea hc (fun d' c'' hm => ⟨vi, vi, c_ok rfl (by rw [S.1, vm_s _ (by omega) (by omega)]; exact uL0 (f := out)) (hX _ _ _ ⟨⟨n, rs_set S' (sRg e hw g _ _) ha (w0s (by omega) (by omega)) (by show upd sm.2.2.2.1 (12 + w + 1) v 12 = sm.2.2.2.1 12; exact pk_un (by omega))⟩, hT, (rd_step o14 hrow hp hm S).mono (by omega), K'⟩)⟩), fun q => absurd rfl q⟩⟩
/-- the reference's search of a covering take -/
theorem m_covers {r : Nat → Int32} {n : Nat} {p : Nat → Bool} {x2 roll x4 s : Int32} {w z f g : Nat} {K : Int32 → Prop} (hn : vm r 0 0 = nI n) (h24 : n ≤ 24) (h2 : x2 = -1 ∨ (x2 = nI z ∧ w < 16 ∧ w ≠ 2 ∧ z = if w < 2 then w else w - 1)) (h4 : x4 = nI g ∧ f < 16 ∧ f ≠ 2 ∧ g = if f < 2 then f else f - 1)
    (hp : ∀ i, i < n → (p i = true ↔ ((x2 = -1 ∨ (¬ roll ≤ 0 ∧ vm r (i + 1) w = roll)) ∧ (vm r (i + 1) f ≤ s ∧ s < vm r (i + 1) f + vm r (i + 1) 8)))) (k : K (fnd p 0 n)) : xp_X5_covers r x2 roll x4 s K := by
  have h0 : r 0 = nI n := by rw [← vm_h r (w := 0) (by omega)]; exact hn
  obtain ⟨e4, f16, f2, eg⟩ := h4
  refine ⟨n + 1, lpf (fun m i => xp_X5_covers_3 r K m x2 roll x4 s (nI i)) p n K k (fun m hk => ?_) (fun m i hi hy hno => ?_)⟩
  · show xp_X5_covers_3 r K (m + 1) _ _ _ _ _
    rw [xp_X5_covers_3, h0]
    exact ⟨fun _ => hk, fun c => absurd (nI_le (Nat.le_refl _) (by omega)) c⟩
  · show xp_X5_covers_3 r K (m + 1) _ _ _ _ _
    rw [xp_X5_covers_3, h0]
    have hpi := hp i hi
    have no : ¬ ((x2 = -1 ∨ (¬ roll ≤ 0 ∧ vm r (i + 1) w = roll)) ∧ (vm r (i + 1) f ≤ s ∧ s < vm r (i + 1) f + vm r (i + 1) 8)) → xp_X5_covers_3 r K m x2 roll x4 s (nI i + 1) := by
      intro q
      rw [nI_1]
      refine hno ?_
      cases hb : p i with
      | false => rfl
      | true => exact absurd (hpi.mp hb) q
    have t36 : ∀ t : Int32, (t = 0 → ¬ (x2 = -1 ∨ (¬ roll ≤ 0 ∧ vm r (i + 1) w = roll))) → (¬ t = 0 → (x2 = -1 ∨ (¬ roll ≤ 0 ∧ vm r (i + 1) w = roll))) → xp_X5_covers_36 r K (fun v1 v2 v3 v4 v5 => xp_X5_covers_3 r K m v1 v2 v3 v4 v5) x2 roll x4 s (nI i) t := by
      intro t t0 t1
      unfold xp_X5_covers_36
      refine m_of (i := i) (w := f) (z := g) (by omega) f16 f2 rfl e4 eg ⟨fun c => no (fun q => t0 c q.1), fun c => ⟨fun c1 => no (fun q => Int32.not_lt.mpr q.2.1 c1), fun c1 => m_of (i := i) (w := 8) (z := 7) (by omega) (by omega) (by omega) rfl rfl rfl ⟨fun c2 => no (fun q => Int32.not_le.mpr q.2.2 c2), fun c2 => hy (hpi.mpr ⟨t1 c, Int32.not_lt.mp c1, Int32.not_le.mp c2⟩)⟩⟩⟩
    refine ⟨fun c => absurd c (nI_ge hi (by omega)), fun _ => ⟨fun c => t36 1 (fun q => absurd q (by decide)) (fun _ => Or.inl c), fun c => ⟨fun c1 => t36 0 (fun _ q => ?_) (fun q => absurd rfl q), fun c1 => ?_⟩⟩⟩
    · rcases q with q | q
      · exact c q
      · exact q.1 c1
    · rcases h2 with h2 | ⟨e2, w16, w2, ez⟩
      · exact absurd h2 c
      · refine m_of (i := i) (w := w) (z := z) (by omega) w16 w2 rfl e2 ez ⟨fun c2 => t36 0 (fun _ q => ?_) (fun q => absurd rfl q), fun c2 => t36 1 (fun q => absurd q (by decide)) (fun _ => Or.inr ⟨c1, c2⟩)⟩
        rcases q with q | q
        · exact c q
        · exact c2 q.2
def pCam (V : Nat → Nat → Int32) (roll s : Int32) (i : Nat) : Bool := decide (V (i + 1) 6 = roll ∧ (V (i + 1) 7 ≤ s ∧ s < V (i + 1) 7 + V (i + 1) 8))
def pSnd (V : Nat → Nat → Int32) (roll s : Int32) (i : Nat) : Bool := decide (¬ V (i + 1) 9 = -1 ∧ V (i + 1) 9 = roll ∧ (V (i + 1) 10 ≤ s ∧ s < V (i + 1) 10 + V (i + 1) 8))
def pTim (V : Nat → Nat → Int32) (s : Int32) (i : Nat) : Bool := decide (V (i + 1) 12 ≤ s ∧ s < V (i + 1) 12 + V (i + 1) 8)
def pFil (V : Nat → Nat → Int32) (roll f : Int32) (i : Nat) : Bool := decide (¬ V (i + 1) 9 = -1 ∧ V (i + 1) 9 = roll ∧ V (i + 1) 11 = f)
theorem e_atCamera {a : Nat → Int32} {n : Nat} {roll s : Int32} {K : Int32 → Prop} (hn : vw a 0 0 = nI n) (h24 : n ≤ 24) (k : K (fnd (pCam (vw a) roll s) 0 n)) : xp_X4_atCamera a roll s K := by
  refine ⟨n + 1, lpf (fun m i => xp_X4_atCamera_2 a K m roll s (nI i)) _ n K k (fun m hk => ?_) (fun m i hi h1 h0 => ?_)⟩
  · show xp_X4_atCamera_2 a K (m + 1) _ _ _
    rw [xp_X4_atCamera_2]
    exact e_takes hn ⟨fun _ => hk, fun c => absurd (nI_le (Nat.le_refl _) (by omega)) c⟩
  · show xp_X4_atCamera_2 a K (m + 1) _ _ _
    rw [xp_X4_atCamera_2]
    unfold pCam at h1 h0
    simp only [decide_eq_true_eq, decide_eq_false_iff_not] at h1 h0
    rw [nI_1]
    refine e_takes hn ⟨fun c => absurd c (nI_ge hi (by omega)), fun _ => e_of (i := i) (w := 6) (by omega) (by omega) (by omega) rfl rfl ⟨fun c => h0 (fun q => c q.1), fun c => e_holds (i := i) (w := 7) (by omega) (by omega) (by omega) rfl rfl ?_⟩⟩
    by_cases g : vw a (i + 1) 7 ≤ s ∧ s < vw a (i + 1) 7 + vw a (i + 1) 8
    · rw [if_pos g]; exact ⟨fun q => absurd q (by decide), fun _ => h1 ⟨c, g⟩⟩
    · rw [if_neg g]; exact ⟨fun _ => h0 (fun q => g q.2), fun q => absurd rfl q⟩
theorem e_atSound {a : Nat → Int32} {n : Nat} {roll s : Int32} {K : Int32 → Prop} (hn : vw a 0 0 = nI n) (h24 : n ≤ 24) (k : K (fnd (pSnd (vw a) roll s) 0 n)) : xp_X4_atSound a roll s K := by
  refine ⟨n + 1, lpf (fun m i => xp_X4_atSound_2 a K m roll s (nI i)) _ n K k (fun m hk => ?_) (fun m i hi h1 h0 => ?_)⟩
  · show xp_X4_atSound_2 a K (m + 1) _ _ _
    rw [xp_X4_atSound_2]
    exact e_takes hn ⟨fun _ => hk, fun c => absurd (nI_le (Nat.le_refl _) (by omega)) c⟩
  · show xp_X4_atSound_2 a K (m + 1) _ _ _
    rw [xp_X4_atSound_2]
    unfold pSnd at h1 h0
    simp only [decide_eq_true_eq, decide_eq_false_iff_not] at h1 h0
    rw [nI_1]
    refine e_takes hn ⟨fun c => absurd c (nI_ge hi (by omega)), fun _ => e_hasSound (i := i) (by omega) rfl ?_⟩
    by_cases hs : vw a (i + 1) 9 = -1
    · rw [if_pos hs]; exact ⟨fun _ => h0 (fun q => q.1 hs), fun q => absurd rfl q⟩
    rw [if_neg hs]
    refine ⟨fun q => absurd q (by decide), fun _ => e_of (i := i) (w := 9) (by omega) (by omega) (by omega) rfl rfl ⟨fun c => h0 (fun q => c q.2.1), fun c => e_holds (i := i) (w := 10) (by omega) (by omega) (by omega) rfl rfl ?_⟩⟩
    by_cases g : vw a (i + 1) 10 ≤ s ∧ s < vw a (i + 1) 10 + vw a (i + 1) 8
    · rw [if_pos g]; exact ⟨fun q => absurd q (by decide), fun _ => h1 ⟨hs, c, g⟩⟩
    · rw [if_neg g]; exact ⟨fun _ => h0 (fun q => g q.2.2), fun q => absurd rfl q⟩
theorem e_atTime {a : Nat → Int32} {n : Nat} {s : Int32} {K : Int32 → Prop} (hn : vw a 0 0 = nI n) (h24 : n ≤ 24) (k : K (fnd (pTim (vw a) s) 0 n)) : xp_X4_atTime a s K := by
  refine ⟨n + 1, lpf (fun m i => xp_X4_atTime_2 a K m s (nI i)) _ n K k (fun m hk => ?_) (fun m i hi h1 h0 => ?_)⟩
  · show xp_X4_atTime_2 a K (m + 1) _ _
    rw [xp_X4_atTime_2]
    exact e_takes hn ⟨fun _ => hk, fun c => absurd (nI_le (Nat.le_refl _) (by omega)) c⟩
  · show xp_X4_atTime_2 a K (m + 1) _ _
    rw [xp_X4_atTime_2]
    unfold pTim at h1 h0
    simp only [decide_eq_true_eq, decide_eq_false_iff_not] at h1 h0
    rw [nI_1]
    refine e_takes hn ⟨fun c => absurd c (nI_ge hi (by omega)), fun _ => e_holds (i := i) (w := 12) (by omega) (by omega) (by omega) rfl rfl ?_⟩
    by_cases g : vw a (i + 1) 12 ≤ s ∧ s < vw a (i + 1) 12 + vw a (i + 1) 8
    · rw [if_pos g]; exact ⟨fun q => absurd q (by decide), fun _ => h1 g⟩
    · rw [if_neg g]; exact ⟨fun _ => h0 g, fun q => absurd rfl q⟩
theorem e_byFile {a : Nat → Int32} {n : Nat} {roll s : Int32} {K : Int32 → Prop} (hn : vw a 0 0 = nI n) (h24 : n ≤ 24) (k : K (fnd (pFil (vw a) roll s) 0 n)) : xp_X4_byFile a roll s K := by
  refine ⟨n + 1, lpf (fun m i => xp_X4_byFile_2 a K m roll s (nI i)) _ n K k (fun m hk => ?_) (fun m i hi h1 h0 => ?_)⟩
  · show xp_X4_byFile_2 a K (m + 1) _ _ _
    rw [xp_X4_byFile_2]
    exact e_takes hn ⟨fun _ => hk, fun c => absurd (nI_le (Nat.le_refl _) (by omega)) c⟩
  · show xp_X4_byFile_2 a K (m + 1) _ _ _
    rw [xp_X4_byFile_2]
    unfold pFil at h1 h0
    simp only [decide_eq_true_eq, decide_eq_false_iff_not] at h1 h0
    rw [nI_1]
    refine e_takes hn ⟨fun c => absurd c (nI_ge hi (by omega)), fun _ => e_hasSound (i := i) (by omega) rfl ?_⟩
    by_cases hs : vw a (i + 1) 9 = -1
    · rw [if_pos hs]; exact ⟨fun _ => h0 (fun q => q.1 hs), fun q => absurd rfl q⟩
    rw [if_neg hs]
    exact ⟨fun q => absurd q (by decide), fun _ => e_of (i := i) (w := 9) (by omega) (by omega) (by omega) rfl rfl ⟨fun c => h0 (fun q => c q.2.1), fun c => e_of (i := i) (w := 11) (by omega) (by omega) (by omega) rfl rfl ⟨fun c1 => h0 (fun q => c1 q.2.2), fun c1 => h1 ⟨hs, c, c1⟩⟩⟩⟩
theorem m_byFile {B : Int} {r : Nat → Int32} {n : Nat} {roll s rf : Int32} {K : Int32 → Int32 → Prop} (h : MS B n r) (k : K (fnd (pFil (vm r) roll s) 0 n) 0) : xp_X5_byFile r rf roll s K := by
  have hn := h.n0
  have h24 := h.n24
  have h0' : r 0 = nI n := by rw [← vm_h r (w := 0) (by omega)]; exact hn
  refine ⟨n + 1, lpf (fun m i => xp_X5_byFile_7 r K m 0 roll s (nI i)) _ n (fun x => K x 0) k (fun m hk => ?_) (fun m i hi h1 h0 => ?_)⟩
  · show xp_X5_byFile_7 r K (m + 1) _ _ _ _
    rw [xp_X5_byFile_7, h0']
    exact ⟨fun _ => hk, fun c => absurd (nI_le (Nat.le_refl _) (by omega)) c⟩
  · show xp_X5_byFile_7 r K (m + 1) _ _ _ _
    rw [xp_X5_byFile_7, h0']
    unfold pFil at h1 h0
    simp only [decide_eq_true_eq, decide_eq_false_iff_not] at h1 h0
    rw [nI_1]
    refine ⟨fun c => absurd c (nI_ge hi (by omega)), fun _ => ⟨fun c => h0 (fun q => ?_), fun c => m_of (i := i) (w := 9) (z := 8) (by omega) (by omega) (by omega) rfl rfl rfl ⟨fun c1 => h0 (fun q => c1 q.2.1), fun c1 => m_of (i := i) (w := 11) (z := 10) (by omega) (by omega) (by omega) rfl rfl rfl ⟨fun c2 => h0 (fun q => c2 q.2.2), fun c2 => h1 ⟨fun q => ?_, c1, c2⟩⟩⟩⟩⟩
    · rcases h.inv.2.2.2.2 i hi with g | g
      · exact q.1 g
      · rw [q.2.1] at g; exact rg_1 g.1 (by omega) c
    · rw [c1] at q; exact c (by rw [q]; decide)
theorem m_atCamera {B : Int} {r : Nat → Int32} {n : Nat} {roll s rf : Int32} {K : Int32 → Int32 → Prop} (h : MS B n r) (k : K (fnd (pCam (vm r) roll s) 0 n) 0) : xp_X5_atCamera r rf roll s K := by
  unfold xp_X5_atCamera
  refine m_covers (p := pCam (vm r) roll s) (w := 6) (z := 5) (f := 7) (g := 6) h.n0 h.n24 (Or.inr ⟨rfl, by omega, by omega, rfl⟩) ⟨rfl, by omega, by omega, rfl⟩ (fun i hi => ?_) k
  unfold pCam
  simp only [decide_eq_true_eq]
  have t : rg 1 B (vm r (i + 1) 6) := h.inv.2.2.2.1 i hi 6
  exact ⟨fun q => ⟨Or.inr ⟨by rw [← q.1]; exact rg_1 t (by omega), q.1⟩, q.2⟩, fun q => ⟨by rcases q.1 with g | g; exact absurd g (by decide); exact g.2, q.2⟩⟩
theorem m_atSound {B : Int} {r : Nat → Int32} {n : Nat} {roll s rf : Int32} {K : Int32 → Int32 → Prop} (h : MS B n r) (k : K (fnd (pSnd (vm r) roll s) 0 n) 0) : xp_X5_atSound r rf roll s K := by
  unfold xp_X5_atSound
  refine m_covers (p := pSnd (vm r) roll s) (w := 9) (z := 8) (f := 10) (g := 9) h.n0 h.n24 (Or.inr ⟨rfl, by omega, by omega, rfl⟩) ⟨rfl, by omega, by omega, rfl⟩ (fun i hi => ?_) k
  unfold pSnd
  simp only [decide_eq_true_eq]
  refine ⟨fun q => ⟨Or.inr ⟨?_, q.2.1⟩, q.2.2⟩, fun q => ?_⟩
  · rcases h.inv.2.2.2.2 i hi with g | g
    · exact absurd g q.1
    · rw [← q.2.1]; exact rg_1 g.1 (by omega)
  · rcases q.1 with g | g
    · exact absurd g (by decide)
    · exact ⟨fun e => g.1 (by rw [← g.2, e]; decide), g.2, q.2⟩
theorem m_atTime {B : Int} {r : Nat → Int32} {n : Nat} {s rf : Int32} {K : Int32 → Int32 → Prop} (h : MS B n r) (k : K (fnd (pTim (vm r) s) 0 n) 0) : xp_X5_atTime r rf s K := by
  unfold xp_X5_atTime
  refine m_covers (p := pTim (vm r) s) (w := 0) (z := 0) (f := 12) (g := 11) h.n0 h.n24 (Or.inl rfl) ⟨rfl, by omega, by omega, rfl⟩ (fun i hi => ?_) k
  unfold pTim
  simp only [decide_eq_true_eq]
  exact ⟨fun q => ⟨Or.inl trivial, q⟩, fun q => q.2⟩
theorem m_find {r : Nat → Int32} {n : Nat} {s l t b rf : Int32} {K : Int32 → Int32 → Prop} (hn : vm r 0 0 = nI n) (h24 : n ≤ 24) (k0 : b = 0 → K (fnd (pMeant (vm r) s l t) 0 n) 0) (k1 : ¬ b = 0 → K (fnd (pSaid (vm r) s l t) 0 n) 0) : xp_X5_find r rf s l t b K := by
  have h0' : r 0 = nI n := by rw [← vm_h r (w := 0) (by omega)]; exact hn
  unfold xp_X5_find
  refine ⟨fun hb => ⟨n + 1, lpf (fun m i => xp_X5_find_20 r K m 0 s l t b 0 (nI i)) _ n (fun x => K x 0) (k0 hb) (fun m hk => ?_) (fun m i hi h1 h0 => ?_)⟩, fun hb => ⟨n + 1, lpf (fun m i => xp_X5_find_20 r K m 0 s l t b 2 (nI i)) _ n (fun x => K x 0) (k1 hb) (fun m hk => ?_) (fun m i hi h1 h0 => ?_)⟩⟩
  · show xp_X5_find_20 r K (m + 1) _ _ _ _ _ _ _
    rw [xp_X5_find_20, h0']
    exact ⟨fun _ => hk, fun c => absurd (nI_le (Nat.le_refl _) (by omega)) c⟩
  · show xp_X5_find_20 r K (m + 1) _ _ _ _ _ _ _
    rw [xp_X5_find_20, h0']
    unfold pMeant at h1 h0
    simp only [decide_eq_true_eq, decide_eq_false_iff_not] at h1 h0
    have h0' : ¬ (vm r (i + 1) 0 = s ∧ vm r (i + 1) 1 = l ∧ vm r (i + 1) 15 = 0 ∧ nI (rno (vm r) i) = t) → xp_X5_find_20 r K m 0 s l t b 0 (nI i + 1) := by rw [nI_1]; exact h0
    unfold xp_X5_find_68 xp_X5_find_97
    refine ⟨fun c => absurd c (nI_ge hi (by omega)), fun _ => m_of (i := i) (w := 0) (z := 0) (by omega) (by omega) (by omega) rfl rfl rfl ⟨fun c => ⟨fun _ => m_numberOf (i := i) (by omega) rfl ⟨fun _ => h0' (fun q => c q.1), fun q => absurd rfl q⟩, fun q => absurd hb q⟩, fun c => m_of (i := i) (w := 1) (z := 1) (by omega) (by omega) (by omega) rfl rfl rfl ⟨fun c1 => ⟨fun _ => m_numberOf (i := i) (by omega) rfl ⟨fun _ => h0' (fun q => c1 q.2.1), fun q => absurd rfl q⟩, fun q => absurd hb q⟩, fun c1 => ⟨fun _ => m_numberOf (i := i) (by omega) rfl ⟨fun q => absurd q (by decide), fun _ => ⟨fun c2 => h0' (fun q => c2 q.2.2.2), fun c2 => ⟨fun q => absurd hb q, fun _ => m_of (i := i) (w := 15) (z := 14) (by omega) (by omega) (by omega) rfl rfl rfl ⟨fun c3 => h0' (fun q => c3 q.2.2.1), fun c3 => h1 ⟨c, c1, c3, c2⟩⟩⟩⟩⟩, fun q => absurd hb q⟩⟩⟩⟩
  · show xp_X5_find_20 r K (m + 1) _ _ _ _ _ _ _
    rw [xp_X5_find_20, h0']
    exact ⟨fun _ => hk, fun c => absurd (nI_le (Nat.le_refl _) (by omega)) c⟩
  · show xp_X5_find_20 r K (m + 1) _ _ _ _ _ _ _
    rw [xp_X5_find_20, h0']
    unfold pSaid at h1 h0
    simp only [decide_eq_true_eq, decide_eq_false_iff_not] at h1 h0
    have h0' : ¬ (vm r (i + 1) 3 = s ∧ vm r (i + 1) 4 = l ∧ vm r (i + 1) 5 = t) → xp_X5_find_20 r K m 0 s l t b 2 (nI i + 1) := by rw [nI_1]; exact h0
    unfold xp_X5_find_68 xp_X5_find_97
    refine ⟨fun c => absurd c (nI_ge hi (by omega)), fun _ => m_of (i := i) (w := 3) (z := 2) (by omega) (by omega) (by omega) rfl rfl rfl ⟨fun c => ⟨fun q => absurd q hb, fun _ => m_of (i := i) (w := 5) (z := 4) (by omega) (by omega) (by omega) rfl rfl rfl ⟨fun _ => h0' (fun q => c q.1), fun q => absurd rfl q⟩⟩, fun c => m_of (i := i) (w := 4) (z := 3) (by omega) (by omega) (by omega) rfl rfl rfl ⟨fun c1 => ⟨fun q => absurd q hb, fun _ => m_of (i := i) (w := 5) (z := 4) (by omega) (by omega) (by omega) rfl rfl rfl ⟨fun _ => h0' (fun q => c1 q.2.1), fun q => absurd rfl q⟩⟩, fun c1 => ⟨fun q => absurd q hb, fun _ => m_of (i := i) (w := 5) (z := 4) (by omega) (by omega) (by omega) rfl rfl rfl ⟨fun q => absurd q (by decide), fun _ => ⟨fun c2 => h0' (fun q => c2 q.2.2), fun c2 => ⟨fun _ => h1 ⟨c, c1, c2⟩, fun q => absurd q hb⟩⟩⟩⟩⟩⟩⟩
