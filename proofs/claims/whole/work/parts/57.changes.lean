/-! ===== the changes of a state, as tables ===== -/
abbrev aMean (V : Nat → Nat → Int32) (s l : Int32) : Nat → Nat → Int32 := vu (vu V 0 1 s) 0 2 l
abbrev aWrite (V : Nat → Nat → Int32) (s l t : Int32) : Nat → Nat → Int32 := vu (vu (vu V 0 3 s) 0 4 l) 0 5 t
abbrev aCam (V : Nat → Nat → Int32) : Nat → Nat → Int32 := vu (vu V 0 6 (V 0 6 + 1)) 0 7 0
abbrev aSnd (V : Nat → Nat → Int32) : Nat → Nat → Int32 := vu (vu V 0 8 (V 0 8 + 1)) 0 9 0
abbrev aMark (V : Nat → Nat → Int32) (i w : Nat) (x : Int32) : Nat → Nat → Int32 := vu V (i + 1) w x
abbrev aFix (V : Nat → Nat → Int32) (i : Nat) : Nat → Nat → Int32 := vu (vu (vu V (i + 1) 3 (V (i + 1) 0)) (i + 1) 4 (V (i + 1) 1)) (i + 1) 5 (nI (rno V i))
abbrev aOff (V : Nat → Nat → Int32) (x : Int32) : Nat → Nat → Int32 := vu V 0 11 x
abbrev aSet (V : Nat → Nat → Int32) (w : Nat) (x : Int32) : Nat → Nat → Int32 := vu V 0 (12 + w) x
def v0 : Nat → Nat → Int32 := fun i w => if i = 0 then (if w = 1 ∨ w = 3 ∨ w = 5 ∨ w = 6 ∨ w = 8 ∨ w = 15 then 1 else if w = 12 then 300 else if w = 13 then 900 else if w = 14 then 10 else 0) else 0
theorem vu_id {V : Nat → Nat → Int32} {i w : Nat} {x : Int32} (h : x = V i w) : vu V i w x = V := by
  funext j z
  by_cases q : j = i ∧ z = w
  · obtain ⟨rfl, rfl⟩ := q; rw [vu_s]; exact h
  · rw [vu_n q]
theorem pcnt_h {V : Nat → Nat → Int32} {w : Nat} {x s l : Int32} : ∀ k, pcnt (vu V 0 w x) s l k = pcnt V s l k
  | 0 => rfl
  | k + 1 => by simp only [pcnt]; rw [pcnt_h k, vu_n (by omega), vu_n (by omega), vu_n (by omega)]
/-- the number of a take doesn't ask for its slate -/
theorem pcnt_r {V : Nat → Nat → Int32} {i w : Nat} {x s l : Int32} (h0 : w ≠ 0) (h1 : w ≠ 1) (h15 : w ≠ 15) : ∀ k, pcnt (vu V i w x) s l k = pcnt V s l k
  | 0 => rfl
  | k + 1 => by simp only [pcnt]; rw [pcnt_r h0 h1 h15 k, vu_n (by omega), vu_n (by omega), vu_n (by omega)]
theorem rno_r {V : Nat → Nat → Int32} {i j w : Nat} {x : Int32} (h0 : w ≠ 0) (h1 : w ≠ 1) (h15 : w ≠ 15) : rno (vu V i w x) j = rno V j := by
  unfold rno
  rw [vu_n (by omega), vu_n (by omega), pcnt_r h0 h1 h15]
theorem nno_h {V : Nat → Nat → Int32} {n w : Nat} {x : Int32} (h1 : w ≠ 1) (h2 : w ≠ 2) : nno (vu V 0 w x) n = nno V n := by
  unfold nno
  rw [vu_n (by omega), vu_n (by omega), pcnt_h]
theorem fix_id {V : Nat → Nat → Int32} {i : Nat} (h : isr V i = true) : aFix V i = V := by
  unfold isr at h
  obtain ⟨h3, h4, h5⟩ := of_decide_eq_true h
  unfold aFix
  rw [vu_id (V := V) (w := 3) h3.symm, vu_id (V := V) (w := 4) h4.symm, vu_id (V := V) (w := 5) h5.symm]
theorem vw_ext {a a' : Nat → Int32} (h : ∀ j, j < 400 → a' j = a j) : vw a' = vw a := by
  funext i w
  unfold vw
  by_cases g : i ≤ 24 ∧ w < 16 ∧ ¬ (1 ≤ i ∧ w = 2)
  · rw [if_pos g, if_pos g, h _ (by omega)]
  · rw [if_neg g, if_neg g]
theorem vm_ext {r r' : Nat → Int32} (h : ∀ j, j < 377 → r' j = r j) : vm r' = vm r := by
  funext i w
  by_cases g : i ≤ 24 ∧ w < 16 ∧ ¬ (1 ≤ i ∧ w = 2)
  · rw [vm_at g.1 g.2.1 (by omega), vm_at g.1 g.2.1 (by omega), h]
    unfold vx
    split <;> split <;> omega
  · unfold vm
    rw [if_neg g, if_neg g]
/-! ===== the class ===== -/
theorem u0 {a : Nat → Int32} {w : Nat} {x : Int32} (hw : w < 16) : vw (upd a w x) = vu (vw a) 0 w x := vw_upd (by omega) hw (Or.inr rfl) (by omega)
theorem e_mean {a : Nat → Int32} {s l : Int32} {K : Int32 → (Nat → Int32) → Prop} (k : ∀ a', vw a' = aMean (vw a) s l → K 1 a') : xp_X3_mean a s l K :=
  k _ (by rw [u0 (by omega), u0 (by omega)])
theorem e_write {a : Nat → Int32} {s l t : Int32} {K : (Nat → Int32) → Prop} (k : ∀ a', vw a' = aWrite (vw a) s l t → K a') : xp_X3_write a s l t K :=
  k _ (by rw [u0 (by omega), u0 (by omega), u0 (by omega)])
theorem e_writeRight {a : Nat → Int32} {n : Nat} {K : Int32 → (Nat → Int32) → Prop} (hn : vw a 0 0 = nI n) (h24 : n ≤ 24) (k : ∀ a', vw a' = aWrite (vw a) (vw a 0 1) (vw a 0 2) (nI (nno (vw a) n)) → K 1 a') : xp_X3_writeRight a K := by
  unfold xp_X3_writeRight
  refine e_nextNumber hn h24 ?_
  rw [← vw_h a (w := 1) (by omega), ← vw_h a (w := 2) (by omega)]
  exact e_write k
theorem e_isLength {x : Int32} {K : Int32 → Prop} (k : K (if 1 ≤ x ∧ x ≤ 120 then 1 else 0)) : xp_X4_isLength x K := by
  unfold xp_X4_isLength
  refine ⟨fun c => ?_, fun c => ⟨fun c1 => ?_, fun c1 => ?_⟩⟩
  · rw [if_neg (fun q => Int32.not_lt.mpr q.1 c)] at k; exact k
  · rw [if_neg (fun q => Int32.not_lt.mpr q.2 c1)] at k; exact k
  · rw [if_pos ⟨Int32.not_lt.mp c, Int32.not_lt.mp c1⟩] at k; exact k
theorem e_tryToFilm {a : Nat → Int32} {n : Nat} {sec snd : Int32} {K : Int32 → (Nat → Int32) → Prop} (hn : vw a 0 0 = nI n) (h24 : n ≤ 24)
    (k1 : (1 ≤ sec ∧ sec ≤ 120) → (n < 24 ∧ (0 : Int32) < vw a 0 12 - vw a 0 7) → ∀ a', vw a' = vfilm (vw a) n (vlen (vw a) sec) (vhas (vw a) (vlen (vw a) sec) snd) → K 1 a')
    (k0 : ¬ ((1 ≤ sec ∧ sec ≤ 120) ∧ (n < 24 ∧ (0 : Int32) < vw a 0 12 - vw a 0 7)) → K 0 a) : xp_X3_tryToFilm a sec snd K := by
  unfold xp_X3_tryToFilm
  refine e_isLength ?_
  by_cases c : 1 ≤ sec ∧ sec ≤ 120
  · rw [if_pos c]
    refine ⟨fun q => absurd q (by decide), fun _ => e_canFilm hn h24 ?_⟩
    by_cases d : n < 24 ∧ (0 : Int32) < vw a 0 12 - vw a 0 7
    · rw [if_pos d]
      exact ⟨fun _ => e_film hn d.1 (fun a' h => k1 c d a' h), fun q => absurd q (by decide)⟩
    · rw [if_neg d]
      exact ⟨fun q => absurd rfl q, fun _ => k0 (fun q => d q.2)⟩
  · rw [if_neg c]
    exact ⟨fun _ => k0 (fun q => c q.1), fun q => absurd rfl q⟩
theorem e_loadCamera {a : Nat → Int32} {K : Int32 → (Nat → Int32) → Prop} (k : ∀ a', vw a' = aCam (vw a) → K (vw a 0 6 + 1) a') : xp_X3_loadCamera a K := by
  unfold xp_X3_loadCamera
  rw [← vw_h a (w := 6) (by omega)]
  exact k _ (by rw [u0 (by omega), u0 (by omega)])
theorem e_loadSound {a : Nat → Int32} {K : Int32 → (Nat → Int32) → Prop} (k : ∀ a', vw a' = aSnd (vw a) → K (vw a 0 8 + 1) a') : xp_X3_loadSound a K := by
  unfold xp_X3_loadSound
  rw [← vw_h a (w := 8) (by omega)]
  exact k _ (by rw [u0 (by omega), u0 (by omega)])
theorem e_mark {a : Nat → Int32} {n w : Nat} {x y b : Int32} {K : Int32 → (Nat → Int32) → Prop} (hn : vw a 0 0 = nI n) (h24 : n ≤ 24) (hw : w < 16) (h2 : w ≠ 2) (hy : y = nI w)
    (k1 : ∀ i, i < n → x = nI i → ∀ a', vw a' = aMark (vw a) i w (if b = 0 then 0 else 1) → K 1 a') (k0 : (x < 0 ∨ nI n ≤ x) → K 0 a) : xp_X3_mark a x y b K := by
  unfold xp_X3_mark
  refine e_hasTake hn h24 (fun i hi hx => ⟨fun _ => ⟨fun c => ?_, fun c => ?_⟩, fun q => absurd q (by decide)⟩) (fun h => ⟨fun q => absurd rfl q, fun _ => k0 h⟩)
  · have := k1 i hi hx
    rw [if_pos c] at this
    exact e_putV (i := i) (by omega) hw h2 hx hy this
  · have := k1 i hi hx
    rw [if_neg c] at this
    exact e_putV (i := i) (by omega) hw h2 hx hy this
theorem e_putRight {a : Nat → Int32} {n : Nat} {x : Int32} {K : Int32 → (Nat → Int32) → Prop} (hn : vw a 0 0 = nI n) (h24 : n ≤ 24)
    (k1 : ∀ i, i < n → x = nI i → ∀ a', vw a' = aFix (vw a) i → K (if isr (vw a) i = true then 0 else 1) a') (k0 : (x < 0 ∨ nI n ≤ x) → K 0 a) : xp_X3_putRight a x K := by
  unfold xp_X3_putRight
  refine e_hasTake hn h24 (fun i hi hx => ⟨fun q => absurd q (by decide), fun _ => e_isRight (i := i) (by omega) hx ?_⟩) (fun h => ⟨fun _ => k0 h, fun q => absurd rfl q⟩)
  have k := k1 i hi hx
  by_cases hr : isr (vw a) i = true
  · rw [if_pos hr] at k ⊢
    exact ⟨fun q => absurd q (by decide), fun _ => k a (fix_id hr).symm⟩
  · rw [if_neg hr] at k ⊢
    refine ⟨fun _ => ?_, fun q => absurd rfl q⟩
    refine e_of (i := i) (w := 0) (by omega) (by omega) (by omega) hx rfl (e_putV (i := i) (w := 3) (by omega) (by omega) (by omega) hx rfl (fun a1 h1 => ?_))
    refine e_of (i := i) (w := 1) (by omega) (by omega) (by omega) hx rfl (e_putV (i := i) (w := 4) (by omega) (by omega) (by omega) hx rfl (fun a2 h2 => ?_))
    refine e_rightNumber (i := i) (by omega) hx (e_putV (i := i) (w := 5) (by omega) (by omega) (by omega) hx rfl (fun a3 h3 => k _ ?_))
    rw [h3, h2, rno_r (by omega) (by omega) (by omega), h1, rno_r (by omega) (by omega) (by omega), vu_n (by omega)]
theorem e_setOff {a : Nat → Int32} {x : Int32} {K : Int32 → (Nat → Int32) → Prop} (k : ∀ a', vw a' = aOff (vw a) x → K (vw a 0 11) a') : xp_X3_setOff a x K := by
  unfold xp_X3_setOff
  rw [← vw_h a (w := 11) (by omega)]
  exact k _ (by rw [u0 (by omega)])
theorem e_choose {a : Nat → Int32} {w : Nat} {x v : Int32} {K : Int32 → (Nat → Int32) → Prop} (hw : w < 4) (hx : x = nI w) (k : ∀ a', vw a' = aSet (vw a) w v → K (vw a 0 (12 + w)) a') : xp_X3_choose a x v K := by
  unfold xp_X3_choose
  refine e_chosen hw hx ?_
  have e : 12 + x = nI (12 + w) := by rw [hx, show (12 : Int32) = nI 12 from rfl, nI_add]
  rw [e]
  refine ⟨fun c => absurd c (nI_nlt (b := 12) (by omega) (by omega)), fun _ => ⟨fun c => absurd c (nI_nlt (a := 15) (by omega) (by omega)), fun _ => ⟨vp_in_nI (by omega) (by omega), ?_⟩⟩⟩
  rw [nI_clamp (by omega)]
  exact k _ (u0 (by omega))
theorem e_fill {a : Nat → Int32} {N : Nat} {x : Int32} {K : (Nat → Int32) → Prop} (hN : N < 2 ^ 31) (k : ∀ a', (∀ j, j < N → a' j = x) → K a') : xp_J7_fill_53178 N a x K := by
  refine ⟨N + 1, ?_⟩
  have key : ∀ d i (u : Nat → Int32), i + d = N → (∀ j, j < i → u j = x) → xp_J7_fill_53178_5 N K (d + 1) u x (nI i) (nI N) := by
    intro d
    induction d with
    | zero =>
      intro i u hi hu
      have : i = N := by omega
      subst this
      rw [xp_J7_fill_53178_5]
      exact ⟨fun _ => k u hu, fun c => absurd (nI_le (Nat.le_refl _) hN) c⟩
    | succ d ih =>
      intro i u hi hu
      rw [xp_J7_fill_53178_5]
      refine ⟨fun c => absurd c (nI_ge (by omega) hN), fun _ => ⟨vp_in_nI (by omega) hN, ?_⟩⟩
      rw [nI_clamp (by omega), nI_1]
      refine ih (i + 1) _ (by omega) (fun j hj => ?_)
      by_cases q : j = i
      · subst q; exact pk_us
      · rw [pk_un q]; exact hu j (by omega)
  exact key N 0 a (by omega) (fun j hj => absurd hj (by omega))
theorem e_reset {a : Nat → Int32} {K : (Nat → Int32) → Prop} (k : ∀ a', vw a' = v0 → K a') : xp_X3_reset a K := by
  unfold xp_X3_reset
  refine e_fill (by omega) (fun u hu => k _ ?_)
  rw [u0 (by omega), u0 (by omega), u0 (by omega), u0 (by omega), u0 (by omega), u0 (by omega), u0 (by omega), u0 (by omega), u0 (by omega)]
  have z : vw u = fun _ _ => 0 := by
    funext i w
    unfold vw
    by_cases g : i ≤ 24 ∧ w < 16 ∧ ¬ (1 ≤ i ∧ w = 2)
    · rw [if_pos g, hu _ (by omega)]
    · rw [if_neg g]
  rw [z]
  funext i w
  unfold v0
  by_cases hi : i = 0
  · subst hi
    simp only [vu, true_and, if_true]
    repeat' split
    all_goals first | rfl | omega
  · simp only [vu, hi, false_and, if_false]
theorem e_copyFrom {a b : Nat → Int32} {K : (Nat → Int32) → Prop} (k : ∀ b', vw b' = vw a → K b') : xp_X3_copyFrom a b K := by
  refine ⟨⟨by omega, by omega⟩, k _ (vw_ext (fun j hj => ?_))⟩
  rw [pk_cpy_in (by omega) (by omega)]
  congr 1; omega
/-- what scene counts: takes, circled, seconds, letters, letters of circled takes -/
def vsc (V : Nat → Nat → Int32) (s : Int32) : Nat → Int32 × Int32 × Int32 × Int32 × Int32
  | 0 => (0, 0, 0, 0, 0)
  | k + 1 =>
    let q := vsc V s k
    if V (k + 1) 0 = s then (q.1 + 1, q.2.1 + V (k + 1) 14, q.2.2.1 + V (k + 1) 8, q.2.2.2.1 ||| ((1 : Int32) <<< (V (k + 1) 1 &&& 31)), q.2.2.2.2 ||| (V (k + 1) 14 <<< (V (k + 1) 1 &&& 31))) else q
theorem e_ofScene {a : Nat → Int32} {n : Nat} {s x : Int32} {K : Int32 → Prop} (hn : vw a 0 0 = nI n) (h24 : n ≤ 24)
    (k : K (if x = 0 then (vsc (vw a) s n).1 else if x = 1 then (vsc (vw a) s n).2.1 else if x = 2 then nI (pcs (un (vsc (vw a) s n).2.2.2.1) 32) else if x = 3 then (vsc (vw a) s n).2.2.1 else nI (pcs (un ((vsc (vw a) s n).2.2.2.1 &&& ((vsc (vw a) s n).2.2.2.2 ^^^ (-1 : Int32)))) 32))) : xp_X3_ofScene a s x K := by
  refine ⟨n + 1, lpx (fun m i => xp_X3_ofScene_17 a K m s x (vsc (vw a) s i).1 (vsc (vw a) s i).2.1 (vsc (vw a) s i).2.2.1 (vsc (vw a) s i).2.2.2.1 (vsc (vw a) s i).2.2.2.2 (nI i)) n (fun m => ?_) (fun m i hi h => ?_)⟩
  · show xp_X3_ofScene_17 a K (m + 1) _ _ _ _ _ _ _ _
    rw [xp_X3_ofScene_17]
    refine e_takes hn ⟨fun _ => ⟨fun c => ?_, fun c => ⟨fun c1 => ?_, fun c1 => ⟨fun c2 => ?_, fun c2 => ⟨fun c3 => ?_, fun c3 => ?_⟩⟩⟩⟩, fun c => absurd (nI_le (Nat.le_refl _) (by omega)) c⟩
    · rw [if_pos c] at k; exact k
    · rw [if_neg c, if_pos c1] at k; exact k
    · rw [if_neg c, if_neg c1, if_pos c2] at k; exact j_bits k
    · rw [if_neg c, if_neg c1, if_neg c2, if_pos c3] at k; exact k
    · rw [if_neg c, if_neg c1, if_neg c2, if_neg c3] at k; exact j_bits k
  · show xp_X3_ofScene_17 a K (m + 1) _ _ _ _ _ _ _ _
    rw [xp_X3_ofScene_17]
    rw [← nI_1] at h
    simp only [vsc] at h
    refine e_takes hn ⟨fun c => absurd c (nI_ge hi (by omega)), fun _ => e_of (i := i) (w := 0) (by omega) (by omega) (by omega) rfl rfl ⟨fun c => ?_, fun c => ?_⟩⟩
    · rw [if_neg c] at h; exact h
    · rw [if_pos c] at h
      exact e_of (i := i) (w := 14) (by omega) (by omega) (by omega) rfl rfl (e_of (i := i) (w := 8) (by omega) (by omega) (by omega) rfl rfl (e_of (i := i) (w := 1) (by omega) (by omega) (by omega) rfl rfl (e_of (i := i) (w := 14) (by omega) (by omega) (by omega) rfl rfl (e_of (i := i) (w := 1) (by omega) (by omega) (by omega) rfl rfl h))))
/-- a state in a row of states -/
def sl (a : Nat → Int32) (p : Nat) : Nat → Int32 := fun j => a (p + j)
theorem e_store {N P s : Nat} {x : Int32} {b c : Nat → Int32} {K : (Nat → Int32) → Prop} (hx : x = nI s) (hs : s < P) (hP : P < 1000) (hN : N = 400 * P) (k : ∀ c', vw (sl c' (400 * s)) = vw b → (∀ j, j < 400 * s ∨ 400 * s + 400 ≤ j → c' j = c j) → K c') : xp_X2_store N (nI P) b c x K := by
  unfold xp_X2_store
  rw [hx, show (400 : Int32) = nI 400 from rfl, pk_mul, nI_clamp (by omega)]
  refine ⟨fun q => absurd q (nI_pos (by omega)), fun _ => ⟨fun q => absurd q (nI_ge hs (by omega)), fun _ => ⟨⟨nI_pos (by omega), by omega, by omega⟩, k _ (vw_ext (fun j hj => ?_)) (fun j hj => ?_)⟩⟩⟩
  · unfold sl
    rw [pk_cpy_in (by omega) (by omega)]
    congr 1; omega
  · exact pk_cpy_out (by omega)
theorem e_fetch {N P s : Nat} {x : Int32} {b c : Nat → Int32} {K : (Nat → Int32) → Prop} (hx : x = nI s) (hs : s < P) (hP : P < 1000) (hN : N = 400 * P) (k : ∀ b', vw b' = vw (sl c (400 * s)) → K b') : xp_X2_fetch N c (nI P) b x K := by
  unfold xp_X2_fetch
  rw [hx, show (400 : Int32) = nI 400 from rfl, pk_mul, nI_clamp (by omega)]
  refine ⟨fun q => absurd q (nI_pos (by omega)), fun _ => ⟨fun q => absurd q (nI_ge hs (by omega)), fun _ => ⟨⟨nI_pos (by omega), by omega, by omega⟩, k _ (vw_ext (fun j hj => ?_))⟩⟩⟩
  unfold sl
  rw [pk_cpy_in (by omega) (by omega)]
  congr 1; omega
