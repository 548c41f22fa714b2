/-! ===== what holds of every state ===== -/
def hR (B : Int) (n : Nat) : Nat → Int32 → Prop
  | 1 => rg 1 99
  | 2 => rg 0 25
  | 3 => rg 1 99
  | 4 => rg 0 25
  | 5 => rg 1 99
  | 6 => rg 1 B
  | 7 => rg 0 999
  | 8 => rg 1 B
  | 9 => rg 0 3600
  | 10 => rg 0 (180 * n)
  | 11 => rg (-99) 99
  | 12 => rg 60 999
  | 13 => rg 60 3600
  | 14 => rg 0 60
  | 15 => rg 0 1
  | _ => fun _ => True
def tR (B : Int) : Nat → Int32 → Prop
  | 0 => rg 1 99
  | 1 => rg 0 25
  | 3 => rg 1 99
  | 4 => rg 0 25
  | 5 => rg 1 99
  | 6 => rg 1 B
  | 7 => rg 0 999
  | 8 => rg 1 120
  | 12 => rg 0 4320
  | 13 => rg (-99) 4419
  | 14 => rg 0 1
  | 15 => rg 0 1
  | _ => fun _ => True
def sOk (V : Nat → Nat → Int32) (i : Nat) : Prop := V (i + 1) 9 = -1 ∨ (rg 1 (V 0 8).toInt (V (i + 1) 9) ∧ rg 1 (i + 1) (V (i + 1) 11))
def Inv (B : Int) (n : Nat) (V : Nat → Nat → Int32) : Prop :=
  n ≤ 24 ∧ V 0 0 = nI n ∧ (∀ w, hR B n w (V 0 w)) ∧ (∀ i, i < n → ∀ w, tR B w (V (i + 1) w)) ∧ (∀ i, i < n → sOk V i)
theorem rg_mono {lo hi lo' hi' : Int} {x : Int32} (h1 : lo' ≤ lo) (h2 : hi ≤ hi') (h : rg lo hi x) : rg lo' hi' x := ⟨by have := h.1; omega, by have := h.2; omega⟩
theorem hR_mono {B B' : Int} {n n' : Nat} (hB : B ≤ B') (hn : n ≤ n') {w : Nat} {x : Int32} (h : hR B n w x) : hR B' n' w x := by
  unfold hR at h ⊢
  split <;> first | exact h | exact rg_mono (Int.le_refl _) hB h | exact rg_mono (Int.le_refl _) (by omega) h | trivial
theorem tR_mono {B B' : Int} (hB : B ≤ B') {w : Nat} {x : Int32} (h : tR B w x) : tR B' w x := by
  unfold tR at h ⊢
  split <;> first | exact h | exact rg_mono (Int.le_refl _) hB h | trivial
theorem Inv.mono {B B' : Int} {n : Nat} {V : Nat → Nat → Int32} (hB : B ≤ B') (h : Inv B n V) : Inv B' n V :=
  ⟨h.1, h.2.1, fun w => hR_mono hB (Nat.le_refl n) (h.2.2.1 w), fun i hi w => tR_mono hB (h.2.2.2.1 i hi w), h.2.2.2.2⟩
theorem Inv.okO {B : Int} {n : Nat} {V : Nat → Nat → Int32} (h : Inv B n V) : ∀ i, i < n → ∀ j, j < n → okO V i j := by
  intro i hi j hj
  have a := h.2.2.2.1 i hi 12
  have b := h.2.2.2.1 i hi 8
  have c := h.2.2.2.1 j hj 13
  have d := h.2.2.2.1 j hj 8
  exact ⟨rg_mono (by omega) (by omega) a, rg_mono (by omega) (by omega) b, rg_mono (by omega) (by omega) c, rg_mono (by omega) (by omega) d⟩
/-- one place of the head but the number of takes and the sound roll -/
theorem Inv.head {B : Int} {n : Nat} {V : Nat → Nat → Int32} {w : Nat} {x : Int32} (h : Inv B n V) (w0 : w ≠ 0) (w8 : w ≠ 8) (hx : hR B n w x) : Inv B n (vu V 0 w x) := by
  refine ⟨h.1, by rw [vu_n (by omega)]; exact h.2.1, fun z => ?_, fun i hi z => by rw [vu_n (by omega)]; exact h.2.2.2.1 i hi z, fun i hi => ?_⟩
  · by_cases q : z = w
    · subst q; rw [vu_s]; exact hx
    · rw [vu_n (fun e => q e.2)]; exact h.2.2.1 z
  · unfold sOk
    rw [vu_n (by omega), vu_n (by omega), vu_n (by omega)]
    exact h.2.2.2.2 i hi
theorem Inv.row {B : Int} {n i : Nat} {V : Nat → Nat → Int32} {w : Nat} {x : Int32} (h : Inv B n V) (w9 : w ≠ 9) (w11 : w ≠ 11) (hx : tR B w x) : Inv B n (vu V (i + 1) w x) := by
  refine ⟨h.1, by rw [vu_n (by omega)]; exact h.2.1, fun z => by rw [vu_n (by omega)]; exact h.2.2.1 z, fun j hj z => ?_, fun j hj => ?_⟩
  · by_cases q : j + 1 = i + 1 ∧ z = w
    · rw [q.1, q.2, vu_s]; exact hx
    · rw [vu_n q]; exact h.2.2.2.1 j hj z
  · unfold sOk
    rw [vu_n (by omega), vu_n (by omega), vu_n (by omega)]
    exact h.2.2.2.2 j hj
theorem lat_h {V : Nat → Nat → Int32} {roll x : Int32} {w : Nat} : ∀ k, lat (vu V 0 w x) roll k = lat V roll k
  | 0 => rfl
  | k + 1 => by simp only [lat]; rw [vu_n (by omega), vu_n (by omega), lat_h k]
theorem lat_r {V : Nat → Nat → Int32} {roll x : Int32} {i w : Nat} (w9 : w ≠ 9) (w11 : w ≠ 11) : ∀ k, lat (vu V (i + 1) w x) roll k = lat V roll k
  | 0 => rfl
  | k + 1 => by simp only [lat]; rw [vu_n (by omega), vu_n (by omega), lat_r w9 w11 k]
theorem lat_lt {B : Int} {n : Nat} {V : Nat → Nat → Int32} {roll : Int32} (h : Inv B n V) (hr : roll ≠ -1) : ∀ k, k ≤ n → rg 0 k (lat V roll k)
  | 0, _ => ⟨by show (0 : Int) ≤ 0; omega, by show (0 : Int) ≤ 0; omega⟩
  | k + 1, hk => by
    have ih := lat_lt h hr k (by omega)
    simp only [lat]
    by_cases c : V (k + 1) 9 = roll
    · rw [if_pos c]
      rcases h.2.2.2.2 k (by omega) with q | q
      · exact absurd (c.symm.trans q) hr
      · exact rg_mono (by omega) (by omega) q.2
    · rw [if_neg c]
      exact rg_mono (by omega) (by omega) ih
/-- what both sides' rows have in common -/
def RS (B : Int) (n : Nat) (a r : Nat → Int32) : Prop := vw a = vm r ∧ Inv B n (vw a) ∧ r 12 = lat (vw a) (vw a 0 8) n
theorem RS.mono {B B' : Int} {n : Nat} {a r : Nat → Int32} (hB : B ≤ B') (h : RS B n a r) : RS B' n a r := ⟨h.1, h.2.1.mono hB, h.2.2⟩
theorem RS.head {B : Int} {n : Nat} {a r a' r' : Nat → Int32} {w : Nat} {x : Int32} (h : RS B n a r) (w0 : w ≠ 0) (w8 : w ≠ 8) (hx : hR B n w x) (ha : vw a' = vu (vw a) 0 w x) (hr : vm r' = vu (vm r) 0 w x) (hf : r' 12 = r 12) : RS B n a' r' :=
  ⟨by rw [ha, hr, h.1], ha ▸ h.2.1.head w0 w8 hx, by rw [hf, h.2.2, ha, vu_n (by omega), lat_h]⟩
theorem rs_mean {B : Int} {n : Nat} {a r a' r' : Nat → Int32} {s l : Int32} (h : RS B n a r) (hs : rg 1 99 s) (hl : rg 0 25 l) (ha : vw a' = aMean (vw a) s l) (hr : vm r' = aMean (vm r) s l) (hf : r' 12 = r 12) : RS B n a' r' :=
  ⟨by rw [ha, hr, h.1], ha ▸ (h.2.1.head (w := 1) (by omega) (by omega) hs).head (w := 2) (by omega) (by omega) hl, by
    rw [hf, h.2.2, ha]; unfold aMean; rw [vu_n (by omega), vu_n (by omega), lat_h, lat_h]⟩
theorem rs_write {B : Int} {n : Nat} {a r a' r' : Nat → Int32} {s l t : Int32} (h : RS B n a r) (hs : rg 1 99 s) (hl : rg 0 25 l) (ht : rg 1 99 t) (ha : vw a' = aWrite (vw a) s l t) (hr : vm r' = aWrite (vm r) s l t) (hf : r' 12 = r 12) : RS B n a' r' :=
  ⟨by rw [ha, hr, h.1], ha ▸ ((h.2.1.head (w := 3) (by omega) (by omega) hs).head (w := 4) (by omega) (by omega) hl).head (w := 5) (by omega) (by omega) ht, by
    rw [hf, h.2.2, ha]; unfold aWrite; rw [vu_n (by omega), vu_n (by omega), vu_n (by omega), lat_h, lat_h, lat_h]⟩
theorem rs_cam {B : Int} {n : Nat} {a r a' r' : Nat → Int32} (h : RS B n a r) (hB : B < 1000000) (ha : vw a' = aCam (vw a)) (hr : vm r' = aCam (vm r)) (hf : r' 12 = r 12) : RS (B + 1) n a' r' := by
  have g := h.mono (B' := B + 1) (by omega)
  have q : rg 1 B (vw a 0 6) := h.2.1.2.2.1 6
  obtain ⟨q1, q2⟩ := q
  have o : (1 : Int32).toInt = 1 := rfl
  have e := i_add (a := vw a 0 6) (b := 1) (by rw [o]; omega) (by rw [o]; omega)
  rw [o] at e
  exact ⟨by rw [ha, hr, h.1], ha ▸ (g.2.1.head (w := 6) (by omega) (by omega) (show rg 1 (B + 1) _ from ⟨by rw [e]; omega, by rw [e]; omega⟩)).head (w := 7) (by omega) (by omega) (show rg 0 999 _ from ⟨by decide, by decide⟩), by
    rw [hf, h.2.2, ha]; unfold aCam; rw [vu_n (by omega), vu_n (by omega), lat_h, lat_h]⟩
theorem lat_none {V : Nat → Nat → Int32} {roll : Int32} : ∀ k, (∀ i, i < k → V (i + 1) 9 ≠ roll) → lat V roll k = 0
  | 0, _ => rfl
  | k + 1, h => by simp only [lat]; rw [if_neg (h k (by omega)), lat_none k (fun i hi => h i (by omega))]
theorem rs_snd {B : Int} {n : Nat} {a r a' r' : Nat → Int32} (h : RS B n a r) (hB : B < 1000000) (ha : vw a' = aSnd (vw a)) (hr : vm r' = aSnd (vm r)) (hf : r' 12 = 0) : RS (B + 1) n a' r' := by
  obtain ⟨h24, hn, hh, ht, hs⟩ := (h.mono (B' := B + 1) (by omega)).2.1
  have q : rg 1 B (vw a 0 8) := h.2.1.2.2.1 8
  obtain ⟨q1, q2⟩ := q
  have o : (1 : Int32).toInt = 1 := rfl
  have e := i_add (a := vw a 0 8) (b := 1) (by rw [o]; omega) (by rw [o]; omega)
  rw [o] at e
  have e8 : aSnd (vw a) 0 8 = vw a 0 8 + 1 := by unfold aSnd; rw [vu_n (by omega), vu_s]
  have er : ∀ i w, aSnd (vw a) (i + 1) w = vw a (i + 1) w := by intro i w; unfold aSnd; rw [vu_n (by omega), vu_n (by omega)]
  refine ⟨by rw [ha, hr, h.1], ⟨h24, ?_, fun w => ?_, fun i hi w => ?_, fun i hi => ?_⟩, ?_⟩
  · rw [ha]; unfold aSnd; rw [vu_n (by omega), vu_n (by omega)]; exact hn
  · rw [ha]
    by_cases w9 : w = 9
    · subst w9; unfold aSnd; rw [vu_s]; exact ⟨by decide, by decide⟩
    by_cases w8 : w = 8
    · subst w8; rw [e8]; exact ⟨by rw [e]; omega, by rw [e]; omega⟩
    unfold aSnd; rw [vu_n (by omega), vu_n (by omega)]; exact hh w
  · rw [ha, er]; exact ht i hi w
  · unfold sOk
    rw [ha, er, er, e8, e]
    rcases hs i hi with c | c
    · exact Or.inl c
    · exact Or.inr ⟨rg_mono (by omega) (by omega) c.1, c.2⟩
  · rw [hf, ha, e8]
    refine (lat_none n (fun i hi => ?_)).symm
    rw [er]
    intro c
    rcases hs i hi with d | d
    · rw [c] at d
      have d' := congrArg Int32.toInt d
      rw [e] at d'
      have m : (-1 : Int32).toInt = -1 := rfl
      omega
    · have := d.1.2
      rw [c, e] at this
      omega
theorem rs_mark {B : Int} {n i w : Nat} {a r a' r' : Nat → Int32} {x : Int32} (h : RS B n a r) (hw : w = 14 ∨ w = 15) (hx : rg 0 1 x) (ha : vw a' = aMark (vw a) i w x) (hr : vm r' = aMark (vm r) i w x) (hf : r' 12 = r 12) : RS B n a' r' :=
  ⟨by rw [ha, hr, h.1], ha ▸ h.2.1.row (by omega) (by omega) (by rcases hw with rfl | rfl <;> exact hx), by
    rw [hf, h.2.2, ha]; unfold aMark; rw [vu_n (by omega), lat_r (by omega) (by omega)]⟩
theorem rno_rg {V : Nat → Nat → Int32} {i : Nat} (hi : i < 24) : rg 1 99 (nI (rno V i)) := by
  have := pcnt_le V (V (i + 1) 0) (V (i + 1) 1) i
  unfold rno rg
  rw [nI_toInt (by omega)]
  omega
theorem nno_rg {V : Nat → Nat → Int32} {n : Nat} (h : n ≤ 24) : rg 1 99 (nI (nno V n)) := by
  have := pcnt_le V (V 0 1) (V 0 2) n
  unfold nno rg
  rw [nI_toInt (by omega)]
  omega
theorem rs_fix {B : Int} {n i : Nat} {a r a' r' : Nat → Int32} (h : RS B n a r) (hi : i < n) (ha : vw a' = aFix (vw a) i) (hr : vm r' = aFix (vm r) i) (hf : r' 12 = r 12) : RS B n a' r' := by
  have h24 := h.2.1.1
  have t0 : rg 1 99 (vw a (i + 1) 0) := h.2.1.2.2.2.1 i hi 0
  have t1 : rg 0 25 (vw a (i + 1) 1) := h.2.1.2.2.2.1 i hi 1
  exact ⟨by rw [ha, hr, h.1], ha ▸ ((h.2.1.row (w := 3) (by omega) (by omega) t0).row (w := 4) (by omega) (by omega) t1).row (w := 5) (by omega) (by omega) (rno_rg (by omega)), by
    rw [hf, h.2.2, ha]; unfold aFix; rw [vu_n (by omega), vu_n (by omega), vu_n (by omega), lat_r (by omega) (by omega), lat_r (by omega) (by omega), lat_r (by omega) (by omega)]⟩
theorem rs_off {B : Int} {n : Nat} {a r a' r' : Nat → Int32} {x : Int32} (h : RS B n a r) (hx : rg (-99) 99 x) (ha : vw a' = aOff (vw a) x) (hr : vm r' = aOff (vm r) x) (hf : r' 12 = r 12) : RS B n a' r' :=
  h.head (w := 11) (by omega) (by omega) hx ha hr hf
theorem rs_set {B : Int} {n w : Nat} {a r a' r' : Nat → Int32} {x : Int32} (h : RS B n a r) (hx : hR B n (12 + w) x) (ha : vw a' = aSet (vw a) w x) (hr : vm r' = aSet (vm r) w x) (hf : r' 12 = r 12) : RS B n a' r' :=
  h.head (w := 12 + w) (by omega) (by omega) hx ha hr hf
theorem rs_v0 {B : Int} {a r : Nat → Int32} (hB : 1 ≤ B) (ha : vw a = v0) (hr : vm r = v0) (hf : r 12 = 0) : RS B 0 a r := by
  refine ⟨by rw [ha, hr], ⟨by omega, by rw [ha]; rfl, fun w => ?_, fun i hi => absurd hi (by omega), fun i hi => absurd hi (by omega)⟩, by rw [hf]; rfl⟩
  rw [ha]
  unfold hR
  split <;> first | exact ⟨by decide, by decide⟩ | exact ⟨by decide, by show (1 : Int) ≤ B; omega⟩ | exact ⟨by decide, by simp [v0]⟩ | trivial
theorem rs_copy {B : Int} {n : Nat} {a r a' r' : Nat → Int32} (h : RS B n a r) (ha : vw a' = vw a) (hr : ∀ j, j < 377 → r' j = r j) : RS B n a' r' :=
  ⟨by rw [ha, vm_ext hr, h.1], ha ▸ h.2.1, by rw [hr 12 (by omega), h.2.2, ha]⟩
