/-! ===== the class's row: what its methods ask, in the table's words ===== -/
theorem i16 : (16 : Int32) = nI 16 := rfl
theorem e_of {a : Nat → Int32} {i w : Nat} {x y : Int32} {K : Int32 → Prop} (hi : i < 24) (hw : w < 16) (h2 : w ≠ 2) (hx : x = nI i) (hy : y = nI w) (k : K (vw a (i + 1) w)) : xp_X3_of a x y K := by
  have e : 16 + x * 16 + y = nI (16 * (i + 1) + w) := by
    rw [hx, hy, i16, pk_mul, nI_add, nI_add]
    congr 1
    omega
  rw [vw_at (by omega) hw (Or.inl h2)] at k
  unfold xp_X3_of
  rw [e]
  refine ⟨fun c => absurd c (nI_nlt (b := 16) (by omega) (by omega)), fun _ => ⟨fun _ => ⟨vp_in_nI (by omega) (by omega), ?_⟩, fun c => absurd (nI_lt (b := 400) (by omega) (by omega)) c⟩⟩
  rw [nI_clamp (by omega)]
  exact k
theorem e_put {a : Nat → Int32} {i w : Nat} {x y v : Int32} {K : (Nat → Int32) → Prop} (hi : i < 24) (hw : w < 16) (hx : x = nI i) (hy : y = nI w) (k : K (upd a (16 * (i + 1) + w) v)) : xp_X3_put a x y v K := by
  have e : 16 + x * 16 + y = nI (16 * (i + 1) + w) := by
    rw [hx, hy, i16, pk_mul, nI_add, nI_add]
    congr 1
    omega
  unfold xp_X3_put
  rw [e]
  refine ⟨fun c => absurd c (nI_nlt (b := 16) (by omega) (by omega)), fun _ => ⟨fun c => absurd c (nI_ge (a := 16 * (i + 1) + w) (b := 400) (by omega) (by omega)), fun _ => ⟨vp_in_nI (by omega) (by omega), ?_⟩⟩⟩
  rw [nI_clamp (by omega)]
  exact k
theorem e_chosen {a : Nat → Int32} {w : Nat} {x : Int32} {K : Int32 → Prop} (hw : w < 4) (hx : x = nI w) (k : K (vw a 0 (12 + w))) : xp_X3_chosen a x K := by
  have e : 12 + x = nI (12 + w) := by rw [hx, show (12 : Int32) = nI 12 from rfl, nI_add]
  rw [vw_at (by omega) (by omega) (Or.inr rfl)] at k
  unfold xp_X3_chosen
  rw [e]
  refine ⟨fun c => absurd c (nI_nlt (b := 12) (by omega) (by omega)), fun _ => ⟨fun _ => ⟨vp_in_nI (by omega) (by omega), ?_⟩, fun c => absurd (nI_le (b := 15) (by omega) (by omega)) c⟩⟩
  rw [nI_clamp (by omega), show 12 + w = 16 * 0 + (12 + w) by omega]
  exact k
/-- the head's places as they stand -/
theorem vw_h (a : Nat → Int32) {w : Nat} (hw : w < 16) : vw a 0 w = a w := by rw [vw_at (by omega) hw (Or.inr rfl), show 16 * 0 + w = w by omega]
theorem e_cameraLeft {a : Nat → Int32} {K : Int32 → Prop} (k : K (if (0 : Int32) < vw a 0 12 - vw a 0 7 then vw a 0 12 - vw a 0 7 else 0)) : xp_X3_cameraLeft a K := by
  unfold xp_X3_cameraLeft
  refine e_chosen (w := 0) (by omega) rfl ?_
  rw [← vw_h a (w := 7) (by omega)]
  exact k
/-- a take that is there -/
theorem e_hasTake {a : Nat → Int32} {n : Nat} {x : Int32} {K : Int32 → Prop} (hn : vw a 0 0 = nI n) (h24 : n ≤ 24) (k1 : ∀ i : Nat, i < n → x = nI i → K 1) (k0 : (x < 0 ∨ nI n ≤ x) → K 0) : xp_X3_hasTake a x K := by
  unfold xp_X3_hasTake
  rw [← vw_h a (w := 0) (by omega), hn]
  refine ⟨fun c => k0 (Or.inl c), fun c => ⟨fun c2 => k0 (Or.inr c2), fun c2 => ?_⟩⟩
  rcases pk_ix x (n := n) (by omega) with h | h | ⟨j, hj, h⟩
  · exact absurd h c
  · exact absurd h c2
  · exact k1 j hj h
theorem e_numberBehind {a : Nat → Int32} {k : Nat} {x s l : Int32} {K : Int32 → Prop} (hk : k ≤ 24) (hx : x = nI k) (kk : K (nI (1 + pcnt (vw a) s l k))) : xp_X3_numberBehind a x s l K := by
  subst hx
  refine ⟨k + 1, ?_⟩
  have loop : ∀ d i, i + d = k → xp_X3_numberBehind_6 a K (d + 1) (nI k) s l (nI (1 + pcnt (vw a) s l i)) (nI i) := by
    intro d
    induction d with
    | zero =>
      intro i hi
      have : i = k := by omega
      subst this
      rw [xp_X3_numberBehind_6]
      exact ⟨fun _ => kk, fun c => absurd (nI_le (Nat.le_refl _) (by omega)) c⟩
    | succ d ih =>
      intro i hi
      rw [xp_X3_numberBehind_6]
      refine ⟨fun c => absurd c (nI_ge (by omega) (by omega)), fun _ => ?_⟩
      have go : ∀ c : Nat, c = 1 + pcnt (vw a) s l (i + 1) → xp_X3_numberBehind_6 a K (d + 1) (nI k) s l (nI c) (nI i + 1) := by
        intro c hc
        rw [nI_1, hc]
        exact ih (i + 1) (by omega)
      refine e_of (i := i) (w := 0) (by omega) (by omega) (by omega) rfl rfl ⟨fun c0 => go _ (by simp only [pcnt]; rw [if_neg (fun q => c0 q.1)]; omega), fun c0 => ?_⟩
      refine e_of (i := i) (w := 1) (by omega) (by omega) (by omega) rfl rfl ⟨fun c1 => go _ (by simp only [pcnt]; rw [if_neg (fun q => c1 q.2.1)]; omega), fun c1 => ?_⟩
      refine e_of (i := i) (w := 15) (by omega) (by omega) (by omega) rfl rfl ⟨fun c2 => go _ (by simp only [pcnt]; rw [if_neg (fun q => c2 q.2.2)]; omega), fun c2 => ?_⟩
      rw [nI_1 (1 + pcnt (vw a) s l i)]
      exact go _ (by simp only [pcnt]; rw [if_pos ⟨c0, c1, c2⟩]; omega)
  exact loop k 0 (by omega)
theorem e_rightNumber {a : Nat → Int32} {i : Nat} {x : Int32} {K : Int32 → Prop} (hi : i < 24) (hx : x = nI i) (k : K (nI (rno (vw a) i))) : xp_X3_rightNumber a x K := by
  unfold xp_X3_rightNumber
  refine e_of (i := i) (w := 0) hi (by omega) (by omega) hx rfl ?_
  refine e_of (i := i) (w := 1) hi (by omega) (by omega) hx rfl ?_
  exact e_numberBehind (by omega) hx k
theorem e_nextNumber {a : Nat → Int32} {n : Nat} {K : Int32 → Prop} (hn : vw a 0 0 = nI n) (h24 : n ≤ 24) (k : K (nI (nno (vw a) n))) : xp_X3_nextNumber a K := by
  unfold xp_X3_nextNumber xp_X3_takes
  rw [← vw_h a (w := 0) (by omega), ← vw_h a (w := 1) (by omega), ← vw_h a (w := 2) (by omega)]
  exact e_numberBehind h24 hn k
theorem e_said {a : Nat → Int32} {i : Nat} {x s l t : Int32} {K : Int32 → Prop} (hi : i < 24) (hx : x = nI i) (k : K (if vw a (i + 1) 3 = s ∧ vw a (i + 1) 4 = l ∧ vw a (i + 1) 5 = t then 1 else 0)) : xp_X3_said a x s l t K := by
  unfold xp_X3_said
  refine e_of (i := i) (w := 3) hi (by omega) (by omega) hx rfl ⟨fun c0 => ?_, fun c0 => ?_⟩
  · rw [if_neg (fun q => c0 q.1)] at k; exact k
  refine e_of (i := i) (w := 4) hi (by omega) (by omega) hx rfl ⟨fun c1 => ?_, fun c1 => ?_⟩
  · rw [if_neg (fun q => c1 q.2.1)] at k; exact k
  refine e_of (i := i) (w := 5) hi (by omega) (by omega) hx rfl ⟨fun c2 => ?_, fun c2 => ?_⟩
  · rw [if_neg (fun q => c2 q.2.2)] at k; exact k
  · rw [if_pos ⟨c0, c1, c2⟩] at k; exact k
theorem e_isRight {a : Nat → Int32} {i : Nat} {x : Int32} {K : Int32 → Prop} (hi : i < 24) (hx : x = nI i) (k : K (if isr (vw a) i = true then 1 else 0)) : xp_X3_isRight a x K := by
  unfold xp_X3_isRight
  refine e_of (i := i) (w := 0) hi (by omega) (by omega) hx rfl ?_
  refine e_of (i := i) (w := 1) hi (by omega) (by omega) hx rfl ?_
  refine e_rightNumber hi hx ?_
  refine e_said hi hx ?_
  unfold isr at k
  simp only [decide_eq_true_eq] at k
  refine ⟨?_, k⟩
  split <;> rfl
theorem e_hasSound {a : Nat → Int32} {i : Nat} {x : Int32} {K : Int32 → Prop} (hi : i < 24) (hx : x = nI i) (k : K (if vw a (i + 1) 9 = -1 then 0 else 1)) : xp_X3_hasSound a x K := by
  unfold xp_X3_hasSound
  refine e_of (i := i) (w := 9) hi (by omega) (by omega) hx rfl ⟨fun c => ?_, fun c => ?_⟩
  · rw [if_pos c] at k; exact k
  · rw [if_neg c] at k; exact k
theorem lpx (F : Nat → Nat → Prop) (n : Nat) (hend : ∀ m, F (m + 1) n) (hstep : ∀ m i, i < n → F m (i + 1) → F (m + 1) i) : F (n + 1) 0 := by
  have key : ∀ d i, i + d = n → F (d + 1) i := by
    intro d
    induction d with
    | zero => intro i hi; have : i = n := by omega
              subst this; exact hend 0
    | succ d ih => intro i hi; exact hstep (d + 1) i (by omega) (ih (i + 1) (by omega))
  exact key n 0 (by omega)
theorem e_takes {a : Nat → Int32} {n : Nat} {K : Int32 → Prop} (hn : vw a 0 0 = nI n) (k : K (nI n)) : xp_X3_takes a K := by
  unfold xp_X3_takes
  rw [← vw_h a (w := 0) (by omega), hn]
  exact k
theorem if_b {c : Prop} [Decidable c] {x : Int32} (h : x = if c then 1 else 0) : (x = 0 ↔ ¬ c) := by
  subst h
  by_cases hc : c
  · simp [hc]
  · simp [hc]
theorem e_boardIsRight {a : Nat → Int32} {n : Nat} {K : Int32 → Prop} (hn : vw a 0 0 = nI n) (h24 : n ≤ 24) (k : K (if vw a 0 3 = vw a 0 1 ∧ vw a 0 4 = vw a 0 2 ∧ vw a 0 5 = nI (nno (vw a) n) then 1 else 0)) : xp_X3_boardIsRight a K := by
  unfold xp_X3_boardIsRight
  rw [← vw_h a (w := 1) (by omega), ← vw_h a (w := 2) (by omega), ← vw_h a (w := 3) (by omega), ← vw_h a (w := 4) (by omega), ← vw_h a (w := 5) (by omega)]
  refine ⟨fun c0 => ?_, fun c0 => ⟨fun c1 => ?_, fun c1 => e_nextNumber hn h24 ⟨fun c2 => ?_, fun c2 => ?_⟩⟩⟩
  · rw [if_neg (fun q => c0 q.1)] at k; exact k
  · rw [if_neg (fun q => c1 q.2.1)] at k; exact k
  · rw [if_neg (fun q => c2 q.2.2)] at k; exact k
  · rw [if_pos ⟨c0, c1, c2⟩] at k; exact k
/-- the set of the wrong slates, as the class builds it -/
def wset (V : Nat → Nat → Int32) : Nat → Int32
  | 0 => 0
  | k + 1 => if isr V k = true then wset V k else wset V k ||| ((1 : Int32) <<< (nI k &&& 31))
theorem e_wrongSet {a : Nat → Int32} {n : Nat} {K : Int32 → Prop} (hn : vw a 0 0 = nI n) (h24 : n ≤ 24) (k : K (wset (vw a) n)) : xp_X3_wrongSet a K := by
  refine ⟨n + 1, lpx (fun m i => xp_X3_wrongSet_4 a K m (wset (vw a) i) (nI i)) n (fun m => ?_) (fun m i hi h => ?_)⟩
  · show xp_X3_wrongSet_4 a K (m + 1) _ _
    rw [xp_X3_wrongSet_4]
    exact e_takes hn ⟨fun _ => k, fun c => absurd (nI_le (Nat.le_refl _) (by omega)) c⟩
  · show xp_X3_wrongSet_4 a K (m + 1) _ _
    rw [xp_X3_wrongSet_4]
    refine e_takes hn ⟨fun c => absurd c (nI_ge hi (by omega)), fun _ => e_isRight (i := i) (by omega) rfl ?_⟩
    have h' : xp_X3_wrongSet_4 a K m (wset (vw a) (i + 1)) (nI i + 1) := by rw [nI_1]; exact h
    by_cases hr : isr (vw a) i = true
    · simp only [wset, hr, if_true] at h' ⊢
      exact ⟨fun _ => h', fun c => absurd c (by decide)⟩
    · simp only [wset, hr, if_false] at h' ⊢
      exact ⟨fun c => absurd rfl c, fun _ => h'⟩
theorem e_marked {a : Nat → Int32} {n w : Nat} {x : Int32} {K : Int32 → Prop} (hn : vw a 0 0 = nI n) (h24 : n ≤ 24) (hw : w < 16) (h2 : w ≠ 2) (hx : x = nI w) (k : K (sumw (vw a) w n)) : xp_X3_marked a x K := by
  refine ⟨n + 1, lpx (fun m i => xp_X3_marked_4 a K m x (sumw (vw a) w i) (nI i)) n (fun m => ?_) (fun m i hi h => ?_)⟩
  · show xp_X3_marked_4 a K (m + 1) _ _ _
    rw [xp_X3_marked_4]
    exact e_takes hn ⟨fun _ => k, fun c => absurd (nI_le (Nat.le_refl _) (by omega)) c⟩
  · show xp_X3_marked_4 a K (m + 1) _ _ _
    rw [xp_X3_marked_4]
    refine e_takes hn ⟨fun c => absurd c (nI_ge hi (by omega)), fun _ => e_of (i := i) (w := w) (by omega) hw h2 rfl hx ?_⟩
    show xp_X3_marked_4 a K m x (sumw (vw a) w i + vw a (i + 1) w) (nI i + 1)
    rw [nI_1]; exact h
theorem e_circledSeconds {a : Nat → Int32} {n : Nat} {K : Int32 → Prop} (hn : vw a 0 0 = nI n) (h24 : n ≤ 24) (k : K (csec (vw a) n)) : xp_X3_circledSeconds a K := by
  refine ⟨n + 1, lpx (fun m i => xp_X3_circledSeconds_4 a K m (csec (vw a) i) (nI i)) n (fun m => ?_) (fun m i hi h => ?_)⟩
  · show xp_X3_circledSeconds_4 a K (m + 1) _ _
    rw [xp_X3_circledSeconds_4]
    exact e_takes hn ⟨fun _ => k, fun c => absurd (nI_le (Nat.le_refl _) (by omega)) c⟩
  · show xp_X3_circledSeconds_4 a K (m + 1) _ _
    rw [xp_X3_circledSeconds_4]
    refine e_takes hn ⟨fun c => absurd c (nI_ge hi (by omega)), fun _ => e_of (i := i) (w := 14) (by omega) (by omega) (by omega) rfl rfl (e_of (i := i) (w := 8) (by omega) (by omega) (by omega) rfl rfl ?_)⟩
    show xp_X3_circledSeconds_4 a K m (csec (vw a) i + vw a (i + 1) 14 * vw a (i + 1) 8) (nI i + 1)
    rw [nI_1]; exact h
theorem e_overlap {a : Nat → Int32} {i j : Nat} {b e y sh : Int32} {K : Int32 → Prop} (hj : j < 24) (hb : b = vw a (i + 1) 12) (he : e = vw a (i + 1) 12 + vw a (i + 1) 8) (hy : y = nI j) (k : K (ovl (vw a) i j sh)) : xp_X3_overlap a b e y sh K := by
  unfold xp_X3_overlap
  refine e_of (i := j) (w := 13) hj (by omega) (by omega) hy rfl ?_
  refine e_of (i := j) (w := 8) hj (by omega) (by omega) hy rfl ?_
  simp only [ovl] at k
  rw [← hb, show b + vw a (i + 1) 8 = e by rw [hb, he]] at k
  generalize vw a (j + 1) 13 = o at k ⊢
  generalize vw a (j + 1) 8 = q at k ⊢
  have last : ∀ t0 t1 : Int32, K (if (0 : Int32) < t1 - t0 then t1 - t0 else 0) → xp_X3_overlap_48 a K t0 t1 := by
    intro t0 t1 hk
    unfold xp_X3_overlap_48
    refine ⟨fun c => ?_, fun c => ?_⟩
    · rw [if_neg (Int32.not_lt.mpr c)] at hk; exact hk
    · rw [if_pos (Int32.not_le.mp c)] at hk; exact hk
  have k2 : ∀ t1 : Int32, t1 = (if o + sh + q < e then o + sh + q else e) → ((o + sh ≤ b → xp_X3_overlap_48 a K b t1) ∧ (¬ o + sh ≤ b → xp_X3_overlap_48 a K (o + sh) t1)) := by
    intro t1 ht
    simp only [← ht] at k
    refine ⟨fun c => last _ _ ?_, fun c => last _ _ ?_⟩
    · rw [if_neg (Int32.not_lt.mpr c)] at k; exact k
    · rw [if_pos (Int32.not_le.mp c)] at k; exact k
  refine ⟨fun c => k2 _ ?_, fun c => k2 _ ?_⟩
  · rw [if_neg (Int32.not_lt.mpr c)]
  · rw [if_pos (Int32.not_le.mp c)]
theorem e_soundFor {a : Nat → Int32} {n i : Nat} {x sh : Int32} {K : Int32 → Prop} (hn : vw a 0 0 = nI n) (h24 : n ≤ 24) (hi : i < 24) (hx : x = nI i) (k : K (syn (vw a) n i sh)) : xp_X3_soundFor a x sh K := by
  unfold xp_X3_soundFor
  refine e_of (i := i) (w := 12) hi (by omega) (by omega) hx rfl ?_
  refine e_of (i := i) (w := 8) hi (by omega) (by omega) hx rfl ?_
  refine ⟨n + 1, lpx (fun m j => xp_X3_soundFor_28 a K m sh (vw a (i + 1) 12) (vw a (i + 1) 12 + vw a (i + 1) 8) (syp (vw a) i sh j).1 (syp (vw a) i sh j).2 (nI j)) n (fun m => ?_) (fun m j hj h => ?_)⟩
  · show xp_X3_soundFor_28 a K (m + 1) _ _ _ _ _ _
    rw [xp_X3_soundFor_28]
    exact e_takes hn ⟨fun _ => k, fun c => absurd (nI_le (Nat.le_refl _) (by omega)) c⟩
  · show xp_X3_soundFor_28 a K (m + 1) _ _ _ _ _ _
    rw [xp_X3_soundFor_28]
    have go : ∀ o : Int32, o = (if vw a (j + 1) 9 = -1 then 0 else ovl (vw a) i j sh) → xp_X3_soundFor_60 a K (fun v2 v3 v4 v5 v6 v7 => xp_X3_soundFor_28 a K m v2 v3 v4 v5 v6 v7) sh (vw a (i + 1) 12) (vw a (i + 1) 12 + vw a (i + 1) 8) (syp (vw a) i sh j).1 (syp (vw a) i sh j).2 (nI j) o := by
      intro o ho
      unfold xp_X3_soundFor_60
      have h' : xp_X3_soundFor_28 a K m sh (vw a (i + 1) 12) (vw a (i + 1) 12 + vw a (i + 1) 8) (syp (vw a) i sh (j + 1)).1 (syp (vw a) i sh (j + 1)).2 (nI j + 1) := by rw [nI_1]; exact h
      simp only [syp, ← ho] at h'
      refine ⟨fun c => ?_, fun c => ?_⟩
      · rw [if_pos c] at h'; exact h'
      · rw [if_neg c] at h'; exact h'
    refine e_takes hn ⟨fun c => absurd c (nI_ge hj (by omega)), fun _ => e_hasSound (i := j) (by omega) rfl ?_⟩
    by_cases hs : vw a (j + 1) 9 = -1
    · rw [if_pos hs]
      exact ⟨fun _ => go 0 (if_pos hs).symm, fun c => absurd rfl c⟩
    · rw [if_neg hs]
      exact ⟨fun c => absurd c (by decide), fun _ => e_overlap (i := i) (j := j) (by omega) rfl rfl rfl (go _ (if_neg hs).symm)⟩
theorem e_unlikeSounds {a : Nat → Int32} {n : Nat} {K : Int32 → Prop} (hn : vw a 0 0 = nI n) (h24 : n ≤ 24) (k : K (nI (unl (vw a) n n))) : xp_X3_unlikeSounds a K := by
  refine ⟨n + 1, lpx (fun m i => xp_X3_unlikeSounds_4 a K m (nI (unl (vw a) n i)) (nI i)) n (fun m => ?_) (fun m i hi h => ?_)⟩
  · show xp_X3_unlikeSounds_4 a K (m + 1) _ _
    rw [xp_X3_unlikeSounds_4]
    exact e_takes hn ⟨fun _ => k, fun c => absurd (nI_le (Nat.le_refl _) (by omega)) c⟩
  · show xp_X3_unlikeSounds_4 a K (m + 1) _ _
    rw [xp_X3_unlikeSounds_4]
    have h' : xp_X3_unlikeSounds_4 a K m (nI (unl (vw a) n (i + 1))) (nI i + 1) := by rw [nI_1]; exact h
    refine e_takes hn ⟨fun c => absurd c (nI_ge hi (by omega)), fun _ => e_soundFor hn h24 (i := i) (by omega) rfl (e_hasSound (i := i) (by omega) rfl ?_)⟩
    by_cases hs : vw a (i + 1) 9 = -1
    · rw [if_pos hs]
      refine ⟨fun _ => ⟨fun c => ?_, fun c => ?_⟩, fun c => absurd rfl c⟩
      · simp only [unl, hs, if_true, c] at h'; exact h'
      · simp only [unl, hs, if_true, if_neg c] at h'; rw [nI_1]; exact h'
    · rw [if_neg hs]
      refine ⟨fun c => absurd c (by decide), fun _ => ⟨fun c => ?_, fun c => ?_⟩⟩
      · simp only [unl, if_neg hs, if_pos c] at h'; exact h'
      · simp only [unl, if_neg hs, if_neg c] at h'; rw [nI_1]; exact h'
/-- how many takes have sound -/
def snd9 (V : Nat → Nat → Int32) : Nat → Nat
  | 0 => 0
  | k + 1 => snd9 V k + (if V (k + 1) 9 = -1 then 0 else 1)
theorem e_sounds {a : Nat → Int32} {n : Nat} {K : Int32 → Prop} (hn : vw a 0 0 = nI n) (h24 : n ≤ 24) (k : K (nI (snd9 (vw a) n))) : xp_X3_sounds a K := by
  refine ⟨n + 1, lpx (fun m i => xp_X3_sounds_4 a K m (nI (snd9 (vw a) i)) (nI i)) n (fun m => ?_) (fun m i hi h => ?_)⟩
  · show xp_X3_sounds_4 a K (m + 1) _ _
    rw [xp_X3_sounds_4]
    exact e_takes hn ⟨fun _ => k, fun c => absurd (nI_le (Nat.le_refl _) (by omega)) c⟩
  · show xp_X3_sounds_4 a K (m + 1) _ _
    rw [xp_X3_sounds_4]
    have h' : xp_X3_sounds_4 a K m (nI (snd9 (vw a) (i + 1))) (nI i + 1) := by rw [nI_1]; exact h
    refine e_takes hn ⟨fun c => absurd c (nI_ge hi (by omega)), fun _ => e_hasSound (i := i) (by omega) rfl ?_⟩
    simp only [snd9] at h'
    by_cases hs : vw a (i + 1) 9 = -1
    · rw [if_pos hs]
      rw [if_pos hs] at h'
      exact ⟨fun _ => h', fun c => absurd rfl c⟩
    · rw [if_neg hs]
      rw [if_neg hs] at h'
      exact ⟨fun c => absurd c (by decide), fun _ => by rw [nI_1]; exact h'⟩
/-- the first of d places from i on where p holds -/
def fnd (p : Nat → Bool) : Nat → Nat → Int32
  | _, 0 => -1
  | i, d + 1 => if p i = true then nI i else fnd p (i + 1) d
theorem lpf (F : Nat → Nat → Prop) (p : Nat → Bool) (n : Nat) (K : Int32 → Prop) (k : K (fnd p 0 n)) (hend : ∀ m, K (-1) → F (m + 1) n) (hstep : ∀ m i, i < n → (p i = true → K (nI i)) → (p i = false → F m (i + 1)) → F (m + 1) i) : F (n + 1) 0 := by
  have key : ∀ d i, i + d = n → K (fnd p i d) → F (d + 1) i := by
    intro d
    induction d with
    | zero => intro i hi hk; have : i = n := by omega
              subst this; exact hend 0 hk
    | succ d ih =>
      intro i hi hk
      unfold fnd at hk
      refine hstep (d + 1) i (by omega) (fun hp => ?_) (fun hp => ?_)
      · rw [if_pos hp] at hk; exact hk
      · rw [if_neg (by rw [hp]; decide)] at hk; exact ih (i + 1) (by omega) hk
  exact key n 0 (by omega) k
def pSaid (V : Nat → Nat → Int32) (s l t : Int32) (i : Nat) : Bool := decide (V (i + 1) 3 = s ∧ V (i + 1) 4 = l ∧ V (i + 1) 5 = t)
def pMeant (V : Nat → Nat → Int32) (s l t : Int32) (i : Nat) : Bool := decide (V (i + 1) 0 = s ∧ V (i + 1) 1 = l ∧ V (i + 1) 15 = 0 ∧ nI (rno V i) = t)
theorem e_saidSo {a : Nat → Int32} {n : Nat} {s l t : Int32} {K : Int32 → Prop} (hn : vw a 0 0 = nI n) (h24 : n ≤ 24) (k : K (fnd (pSaid (vw a) s l t) 0 n)) : xp_X3_saidSo a s l t K := by
  refine ⟨n + 1, lpf (fun m i => xp_X3_saidSo_3 a K m s l t (nI i)) _ n K k (fun m hk => ?_) (fun m i hi h1 h0 => ?_)⟩
  · show xp_X3_saidSo_3 a K (m + 1) _ _ _ _
    rw [xp_X3_saidSo_3]
    exact e_takes hn ⟨fun _ => hk, fun c => absurd (nI_le (Nat.le_refl _) (by omega)) c⟩
  · show xp_X3_saidSo_3 a K (m + 1) _ _ _ _
    rw [xp_X3_saidSo_3]
    refine e_takes hn ⟨fun c => absurd c (nI_ge hi (by omega)), fun _ => e_said (i := i) (by omega) rfl ?_⟩
    unfold pSaid at h1 h0
    simp only [decide_eq_true_eq, decide_eq_false_iff_not] at h1 h0
    rw [nI_1]
    by_cases c : vw a (i + 1) 3 = s ∧ vw a (i + 1) 4 = l ∧ vw a (i + 1) 5 = t
    · rw [if_pos c]; exact ⟨fun q => absurd q (by decide), fun _ => h1 c⟩
    · rw [if_neg c]; exact ⟨fun _ => h0 c, fun q => absurd rfl q⟩
theorem e_meantSo {a : Nat → Int32} {n : Nat} {s l t : Int32} {K : Int32 → Prop} (hn : vw a 0 0 = nI n) (h24 : n ≤ 24) (k : K (fnd (pMeant (vw a) s l t) 0 n)) : xp_X3_meantSo a s l t K := by
  refine ⟨n + 1, lpf (fun m i => xp_X3_meantSo_3 a K m s l t (nI i)) _ n K k (fun m hk => ?_) (fun m i hi h1 h0 => ?_)⟩
  · show xp_X3_meantSo_3 a K (m + 1) _ _ _ _
    rw [xp_X3_meantSo_3]
    exact e_takes hn ⟨fun _ => hk, fun c => absurd (nI_le (Nat.le_refl _) (by omega)) c⟩
  · show xp_X3_meantSo_3 a K (m + 1) _ _ _ _
    rw [xp_X3_meantSo_3]
    unfold pMeant at h1 h0
    simp only [decide_eq_true_eq, decide_eq_false_iff_not] at h1 h0
    rw [nI_1]
    refine e_takes hn ⟨fun c => absurd c (nI_ge hi (by omega)), fun _ => ?_⟩
    refine e_of (i := i) (w := 0) (by omega) (by omega) (by omega) rfl rfl ⟨fun c0 => h0 (fun q => c0 q.1), fun c0 => ?_⟩
    refine e_of (i := i) (w := 1) (by omega) (by omega) (by omega) rfl rfl ⟨fun c1 => h0 (fun q => c1 q.2.1), fun c1 => ?_⟩
    refine e_of (i := i) (w := 15) (by omega) (by omega) (by omega) rfl rfl ⟨fun c2 => h0 (fun q => c2 q.2.2.1), fun c2 => ?_⟩
    exact e_rightNumber (i := i) (by omega) rfl ⟨fun c3 => h0 (fun q => c3 q.2.2.2), fun c3 => h1 ⟨c0, c1, c2, c3⟩⟩
theorem e_holds {a : Nat → Int32} {i w : Nat} {x y z : Int32} {K : Int32 → Prop} (hi : i < 24) (hw : w < 16) (h2 : w ≠ 2) (hx : x = nI i) (hy : y = nI w) (k : K (if vw a (i + 1) w ≤ z ∧ z < vw a (i + 1) w + vw a (i + 1) 8 then 1 else 0)) : xp_X3_holds a x y z K := by
  unfold xp_X3_holds
  refine e_of hi hw h2 hx hy ⟨fun c => ?_, fun c => e_of hi hw h2 hx hy (e_of (i := i) (w := 8) hi (by omega) (by omega) hx rfl ⟨fun c1 => ?_, fun c1 => ?_⟩)⟩
  · rw [if_neg (fun q => (Int32.not_le.mpr c) q.1)] at k; exact k
  · rw [if_neg (fun q => (Int32.not_le.mpr q.2) c1)] at k; exact k
  · rw [if_pos ⟨Int32.not_lt.mp c, Int32.not_le.mp c1⟩] at k; exact k
theorem e_latestFile {a : Nat → Int32} {n : Nat} {K : Int32 → Prop} (hn : vw a 0 0 = nI n) (h24 : n ≤ 24) (k : K (lat (vw a) (vw a 0 8) n)) : xp_X3_latestFile a K := by
  refine ⟨n + 1, lpx (fun m i => xp_X3_latestFile_4 a K m (lat (vw a) (vw a 0 8) i) (nI i)) n (fun m => ?_) (fun m i hi h => ?_)⟩
  · show xp_X3_latestFile_4 a K (m + 1) _ _
    rw [xp_X3_latestFile_4]
    exact e_takes hn ⟨fun _ => k, fun c => absurd (nI_le (Nat.le_refl _) (by omega)) c⟩
  · show xp_X3_latestFile_4 a K (m + 1) _ _
    rw [xp_X3_latestFile_4]
    have h' : xp_X3_latestFile_4 a K m (lat (vw a) (vw a 0 8) (i + 1)) (nI i + 1) := by rw [nI_1]; exact h
    simp only [lat] at h'
    rw [← vw_h a (w := 8) (by omega)]
    refine e_takes hn ⟨fun c => absurd c (nI_ge hi (by omega)), fun _ => ?_⟩
    refine e_of (i := i) (w := 9) (by omega) (by omega) (by omega) rfl rfl ⟨fun c => ?_, fun c => ?_⟩
    · rw [if_neg c] at h'; exact h'
    · rw [if_pos c] at h'
      exact e_of (i := i) (w := 11) (by omega) (by omega) (by omega) rfl rfl h'
theorem e_canFilm {a : Nat → Int32} {n : Nat} {K : Int32 → Prop} (hn : vw a 0 0 = nI n) (h24 : n ≤ 24) (k : K (if n < 24 ∧ (0 : Int32) < vw a 0 12 - vw a 0 7 then 1 else 0)) : xp_X3_canFilm a K := by
  unfold xp_X3_canFilm
  refine e_takes hn ⟨fun c => ?_, fun c => e_cameraLeft ⟨fun c1 => ?_, fun c1 => ?_⟩⟩
  · have : ¬ n < 24 := fun q => (nI_ge (b := 24) q (by omega)) c
    rw [if_neg (fun q => this q.1)] at k; exact k
  · have : ¬ (0 : Int32) < vw a 0 12 - vw a 0 7 := by
      intro q
      rw [if_pos q] at c1
      exact (Int32.not_le.mpr q) c1
    rw [if_neg (fun q => this q.2)] at k; exact k
  · have h1 : n < 24 := by
      rcases Nat.lt_or_ge n 24 with q | q
      · exact q
      · exact absurd (nI_le (a := 24) q (by omega)) c
    have h2 : (0 : Int32) < vw a 0 12 - vw a 0 7 := by
      by_cases q : (0 : Int32) < vw a 0 12 - vw a 0 7
      · exact q
      · rw [if_neg q] at c1; exact absurd (by decide) c1
    rw [if_pos ⟨h1, h2⟩] at k; exact k
