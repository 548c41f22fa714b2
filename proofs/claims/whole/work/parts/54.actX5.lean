/-! ===== the reference's row: what its functions change ===== -/
theorem mrd {r r' : Nat → Int32} {i w j : Nat} {v : Int32} (h : vm r' = vu (vm r) (i + 1) w v) (h12 : r' 12 = r 12) (hj : j < 17) : r' j = r j := by
  by_cases h0 : j < 12
  · rw [← vm_h r' h0, h, vu_n (by omega), vm_h r h0]
  · by_cases e : j = 12
    · rw [e]; exact h12
    · have e1 := vm_s r' (w := j - 1) (by omega) (by omega)
      have e2 := vm_s r (w := j - 1) (by omega) (by omega)
      rw [show j - 1 + 1 = j by omega] at e1 e2
      rw [← e1, h, vu_n (by omega), e2]
theorem vfilm_of {V W : Nat → Nat → Int32} {n : Nat} {len : Int32} {has : Bool} (h1 : ∀ w, W (n + 1) w = vrow V n len has w) (h0 : W 0 0 = nI (n + 1)) (h5 : W 0 5 = if V 0 15 = 1 then (if V 0 5 + 1 < 99 then V 0 5 + 1 else 99) else V 0 5) (h7 : W 0 7 = V 0 7 + len) (h9 : W 0 9 = if has = true then V 0 9 + len else V 0 9) (h10 : W 0 10 = V 0 10 + (len + V 0 14))
    (hr : ∀ w, w ≠ 0 → w ≠ 5 → w ≠ 7 → w ≠ 9 → w ≠ 10 → W 0 w = V 0 w) (h : ∀ i w, i ≠ 0 → i ≠ n + 1 → W i w = V i w) : W = vfilm V n len has := by
  funext i w
  unfold vfilm
  by_cases hi : i = n + 1
  · subst hi; rw [if_pos rfl]; exact h1 w
  · rw [if_neg hi]
    by_cases z : i = 0
    · subst z
      rw [if_pos rfl]
      by_cases w0 : w = 0
      · subst w0; exact h0
      by_cases w5 : w = 5
      · subst w5; exact h5
      by_cases w7 : w = 7
      · subst w7; exact h7
      by_cases w9 : w = 9
      · subst w9; exact h9
      by_cases w10 : w = 10
      · subst w10; exact h10
      rw [hr w w0 w5 w7 w9 w10]
      unfold vhead
      split
      · exact absurd rfl w0
      · exact absurd rfl w5
      · exact absurd rfl w7
      · exact absurd rfl w9
      · exact absurd rfl w10
      · rfl
    · rw [if_neg z]; exact h i w z hi
/-- the board's take, as each side counts it on -/
theorem board_on {b : Int32} (hb : rg 0 99 b) : (if b + 1 < 99 then b + 1 else 99) = b + (if 99 ≤ b then 0 else 1) := by
  obtain ⟨h1, h2⟩ := hb
  have e1 : (b + 1).toInt = b.toInt + 1 := i_add (b := 1) (by show _ ≤ _ + 1; omega) (by show _ + 1 < _; omega)
  have e9 : (99 : Int32).toInt = 99 := rfl
  by_cases c : (99 : Int32) ≤ b
  · rw [if_pos c, Int32.add_zero]
    rw [Int32.le_iff_toInt_le, e9] at c
    rw [if_neg (by rw [Int32.lt_iff_toInt_lt, e1, e9]; omega)]
    exact Int32.toInt_inj.mp (by rw [e9]; omega)
  · rw [if_neg c]
    rw [Int32.le_iff_toInt_le, e9] at c
    by_cases d : b + 1 < 99
    · rw [if_pos d]
    · rw [if_neg d]
      rw [Int32.lt_iff_toInt_lt, e1, e9] at d
      exact Int32.toInt_inj.mp (by rw [e1, e9]; omega)
theorem m_shootEnd {r c : Nat → Int32} {n : Nat} {len snd : Int32} {has : Bool} {K : Int32 → (Nat → Int32) → Prop} (hn : vm r 0 0 = nI n) (hb : rg 0 99 (vm r 0 5)) (g : ∀ j, j < 17 → c j = r j) (hrow : ∀ w, vm c (n + 1) w = vrow (vm r) n len has w) (hoth : ∀ i w, i ≠ n + 1 → vm c i w = vm r i w) (hs : snd = if has = true then 1 else 0)
    (k : ∀ r', vm r' = vfilm (vm r) n len has → r' 12 = (if has = true then r 12 + 1 else r 12) → K len r') : (snd = 0 → xp_X5_shootOn_255 K (upd c 7 ((c 7) + len)) len snd 0 (c 9)) ∧ (¬ snd = 0 → xp_X5_shootOn_255 K (upd c 7 ((c 7) + len)) len snd len (c 9)) := by
  have r0 : r 0 = nI n := by rw [← vm_h r (by omega)]; exact hn
  have last : ∀ (y z b : Int32), y = (if has = true then r 9 + len else r 9) → z = (if has = true then r 12 + 1 else r 12) → b = (if r 16 = 1 then (if r 5 + 1 < 99 then r 5 + 1 else 99) else r 5) →
      K len (upd (upd (upd (upd (upd (upd c 7 (r 7 + len)) 9 y) 12 z) 10 (r 10 + (len + r 15))) 5 b) 0 (r 0 + 1)) := by
    intro y z b hy hz hbb
    have e : vm (upd (upd (upd (upd (upd (upd c 7 (r 7 + len)) 9 y) 12 z) 10 (r 10 + (len + r 15))) 5 b) 0 (r 0 + 1)) = vu (vu (vu (vu (vu (vm c) 0 7 (r 7 + len)) 0 9 y) 0 10 (r 10 + (len + r 15))) 0 5 b) 0 0 (r 0 + 1) := by
      rw [vm_upd (i := 0) (w := 0) (k := 0) (by omega) (by omega) (Or.inr rfl) rfl, vm_upd (i := 0) (w := 5) (k := 5) (by omega) (by omega) (Or.inr rfl) rfl, vm_upd (i := 0) (w := 10) (k := 10) (by omega) (by omega) (Or.inr rfl) rfl, vm_upd12, vm_upd (i := 0) (w := 9) (k := 9) (by omega) (by omega) (Or.inr rfl) rfl, vm_upd (i := 0) (w := 7) (k := 7) (by omega) (by omega) (Or.inr rfl) rfl]
    refine k _ (e ▸ vfilm_of (fun w => ?_) ?_ ?_ ?_ ?_ ?_ (fun w w0 w5 w7 w9 w10 => ?_) (fun i w h0 h1 => ?_)) ?_
    · rw [vu_n (by omega), vu_n (by omega), vu_n (by omega), vu_n (by omega), vu_n (by omega)]; exact hrow w
    · rw [vu_s, r0, nI_1]
    · rw [vu_n (by omega), vu_s, hbb, vm_h r (w := 5) (by omega), vm_s r (w := 15) (by omega) (by omega)]
    · rw [vu_n (by omega), vu_n (by omega), vu_n (by omega), vu_n (by omega), vu_s, vm_h r (w := 7) (by omega)]
    · rw [vu_n (by omega), vu_n (by omega), vu_n (by omega), vu_s, hy, vm_h r (w := 9) (by omega)]
    · rw [vu_n (by omega), vu_n (by omega), vu_s, vm_h r (w := 10) (by omega), vm_s r (w := 14) (by omega) (by omega)]
    · rw [vu_n (by omega), vu_n (by omega), vu_n (by omega), vu_n (by omega), vu_n (by omega)]; exact hoth 0 w (by omega)
    · rw [vu_n (by omega), vu_n (by omega), vu_n (by omega), vu_n (by omega), vu_n (by omega)]; exact hoth i w h1
    · rw [← hz]; rfl
  have mid : ∀ (y z : Int32), y = (if has = true then r 9 + len else r 9) → z = (if has = true then r 12 + 1 else r 12) → ∀ (t0 t1 : Int32), z = t1 + t0 → xp_X5_shootOn_272 K (upd (upd c 7 (r 7 + len)) 9 y) len t0 t1 := by
    intro y z hy hz t0 t1 ht
    unfold xp_X5_shootOn_272
    have e16 : (upd (upd c 7 (r 7 + len)) 9 y) 16 = r 16 := by show c 16 = r 16; exact g 16 (by omega)
    have e10 : (upd (upd c 7 (r 7 + len)) 9 y) 10 = r 10 := by show c 10 = r 10; exact g 10 (by omega)
    have e15 : (upd (upd c 7 (r 7 + len)) 9 y) 15 = r 15 := by show c 15 = r 15; exact g 15 (by omega)
    have e5 : (upd (upd c 7 (r 7 + len)) 9 y) 5 = r 5 := by show c 5 = r 5; exact g 5 (by omega)
    rw [e16, e10, e15, e5, ← ht]
    have e0 : (upd (upd (upd (upd c 7 (r 7 + len)) 9 y) 12 z) 10 (r 10 + (len + r 15))) 0 = r 0 := by show c 0 = r 0; exact g 0 (by omega)
    have b5 := board_on (b := r 5) (by rw [← vm_h r (by omega)]; exact hb)
    unfold xp_X5_shootOn_313
    rw [e0]
    refine ⟨fun c1 => last y z _ hy hz ?_, fun c1 => ⟨fun c2 => last y z _ hy hz ?_, fun c2 => last y z _ hy hz ?_⟩⟩
    · rw [if_neg c1, Int32.add_zero]
    · rw [if_pos c1, b5, if_pos c2]
    · rw [if_pos c1, b5, if_neg c2]
  rw [g 7 (by omega), g 9 (by omega)]
  have e12 : ∀ y : Int32, (upd (upd c 7 (r 7 + len)) 9 y) 12 = r 12 := fun y => by show c 12 = r 12; exact g 12 (by omega)
  have e12' : (upd c 7 (r 7 + len)) 12 = r 12 := by show c 12 = r 12; exact g 12 (by omega)
  cases has with
  | false =>
    simp only [Bool.false_eq_true, if_false] at hs mid
    subst hs
    refine ⟨fun _ => ?_, fun q => absurd rfl q⟩
    unfold xp_X5_shootOn_255
    refine ⟨fun _ => ?_, fun q => absurd rfl q⟩
    rw [e12']
    exact mid _ (r 12) (Int32.add_zero _) rfl _ _ (Int32.add_zero _).symm
  | true =>
    simp only [if_true] at hs mid
    subst hs
    refine ⟨fun q => absurd q (by decide), fun _ => ?_⟩
    unfold xp_X5_shootOn_255
    refine ⟨fun q => absurd q (by decide), fun _ => ?_⟩
    rw [e12']
    exact mid _ (r 12 + 1) rfl rfl _ _ rfl
theorem m_shootOn {r : Nat → Int32} {n : Nat} {sec snd : Int32} {K : Int32 → (Nat → Int32) → Prop} (hn : vm r 0 0 = nI n) (h24 : n < 24) (hf : r 12 = lat (vm r) (vm r 0 8) n) (hb : rg 0 99 (vm r 0 5))
    (k : ∀ r', vm r' = vfilm (vm r) n (vlen (vm r) sec) (vhas (vm r) (vlen (vm r) sec) snd) → r' 12 = (if vhas (vm r) (vlen (vm r) sec) snd = true then r 12 + 1 else r 12) → K (vlen (vm r) sec) r') : xp_X5_shootOn r sec snd K := by
  have r0 : r 0 = nI n := by rw [← vm_h r (by omega)]; exact hn
  have hf' : r 12 = lat (vm r) (vm r 0 8) n := hf
  generalize hlen : vlen (vm r) sec = len at k
  -- the lengths
  have main : ∀ (has : Bool) (t : Int32), vhas (vm r) len snd = has → t = (if has = true then 1 else 0) → xp_X5_shootOn_45 K r (nI n) len t := by
    intro has t hh ht
    rw [hh] at k
    unfold xp_X5_shootOn_45
    refine m_lay h24 (w := 0) (z := 0) (by omega) (by omega) rfl rfl rfl (fun a1 h1 f1 => ?_)
    have g1 : ∀ j, j < 17 → a1 j = r j := fun j hj => mrd h1 f1 hj
    rw [g1 2 (by omega)]
    refine m_lay h24 (w := 1) (z := 1) (by omega) (by omega) rfl rfl rfl (fun a2 h2 f2 => ⟨4, ?_⟩)
    have g2 : ∀ j, j < 17 → a2 j = r j := fun j hj => (mrd h2 f2 hj).trans (g1 j hj)
    rw [xp_X5_shootOn_68]
    refine ⟨fun q => absurd q (by decide), fun _ => ⟨x_lit (k := 3) rfl (by decide) (by omega), ?_⟩⟩
    rw [show ((3 : Int32) + 0).toNatClampNeg = 3 from rfl, g2 3 (by omega)]
    refine m_lay h24 (w := 3) (z := 2) (by omega) (by omega) rfl rfl rfl (fun a3 h3 f3 => ?_)
    have g3 : ∀ j, j < 17 → a3 j = r j := fun j hj => (mrd h3 f3 hj).trans (g2 j hj)
    rw [xp_X5_shootOn_68]
    refine ⟨fun q => absurd q (by decide), fun _ => ⟨x_lit (k := 4) rfl (by decide) (by omega), ?_⟩⟩
    rw [show ((3 : Int32) + (0 + 1)).toNatClampNeg = 4 from rfl, g3 4 (by omega)]
    refine m_lay h24 (w := 4) (z := 3) (by omega) (by omega) rfl rfl rfl (fun a4 h4 f4 => ?_)
    have g4 : ∀ j, j < 17 → a4 j = r j := fun j hj => (mrd h4 f4 hj).trans (g3 j hj)
    rw [xp_X5_shootOn_68]
    refine ⟨fun q => absurd q (by decide), fun _ => ⟨x_lit (k := 5) rfl (by decide) (by omega), ?_⟩⟩
    rw [show ((3 : Int32) + (0 + 1 + 1)).toNatClampNeg = 5 from rfl, g4 5 (by omega)]
    refine m_lay h24 (w := 5) (z := 4) (by omega) (by omega) rfl rfl rfl (fun a5 h5 f5 => ?_)
    have g5 : ∀ j, j < 17 → a5 j = r j := fun j hj => (mrd h5 f5 hj).trans (g4 j hj)
    rw [xp_X5_shootOn_68]
    refine ⟨fun _ => ?_, fun q => absurd (by decide) q⟩
    rw [g5 6 (by omega)]
    refine m_lay h24 (w := 6) (z := 5) (by omega) (by omega) rfl rfl rfl (fun a6 h6 f6 => ?_)
    have g6 : ∀ j, j < 17 → a6 j = r j := fun j hj => (mrd h6 f6 hj).trans (g5 j hj)
    rw [g6 7 (by omega)]
    refine m_lay h24 (w := 7) (z := 6) (by omega) (by omega) rfl rfl rfl (fun a7 h7 f7 => ?_)
    have g7 : ∀ j, j < 17 → a7 j = r j := fun j hj => (mrd h7 f7 hj).trans (g6 j hj)
    refine m_lay h24 (w := 8) (z := 7) (by omega) (by omega) rfl rfl rfl (fun a8 h8 f8 => ?_)
    have g8 : ∀ j, j < 17 → a8 j = r j := fun j hj => (mrd h8 f8 hj).trans (g7 j hj)
    have step : ∀ (p9 p10 p11 : Int32), p9 = (if has = true then r 8 else -1) → p10 = (if has = true then r 9 else -1) → p11 = (if has = true then r 12 + 1 else -1) →
        ((∀ u : Nat → Int32, (∀ j, j < 17 → u j = r j) → (t = 0 → p10 = -1) ∧ (¬ t = 0 → p10 = u 9)) ∧ (∀ u : Nat → Int32, (∀ j, j < 17 → u j = r j) → (t = 0 → p11 = -1) ∧ (¬ t = 0 → p11 = u 12 + 1))) → xp_X5_shootOn_142 K a8 (nI n) len t p9 (nI n) := by
      intro p9 p10 p11 e9 e10 e11 hp
      unfold xp_X5_shootOn_142
      refine m_lay h24 (w := 9) (z := 8) (by omega) (by omega) rfl rfl rfl (fun b1 i1 j1 => ?_)
      have q1 : ∀ j, j < 17 → b1 j = r j := fun j hj => (mrd i1 j1 hj).trans (g8 j hj)
      have go10 : xp_X5_shootOn_162 K b1 (nI n) len t p10 (nI n) := by
        unfold xp_X5_shootOn_162
        refine m_lay h24 (w := 10) (z := 9) (by omega) (by omega) rfl rfl rfl (fun b2 i2 j2 => ?_)
        have q2 : ∀ j, j < 17 → b2 j = r j := fun j hj => (mrd i2 j2 hj).trans (q1 j hj)
        have go11 : xp_X5_shootOn_184 K b2 (nI n) len t p11 (nI n) := by
          unfold xp_X5_shootOn_184
          refine m_lay h24 (w := 11) (z := 10) (by omega) (by omega) rfl rfl rfl (fun b3 i3 j3 => ?_)
          have q3 : ∀ j, j < 17 → b3 j = r j := fun j hj => (mrd i3 j3 hj).trans (q2 j hj)
          rw [q3 10 (by omega)]
          refine m_lay h24 (w := 12) (z := 11) (by omega) (by omega) rfl rfl rfl (fun b4 i4 j4 => ?_)
          have q4 : ∀ j, j < 17 → b4 j = r j := fun j hj => (mrd i4 j4 hj).trans (q3 j hj)
          rw [q4 10 (by omega), q4 11 (by omega)]
          refine m_lay h24 (w := 13) (z := 12) (by omega) (by omega) rfl rfl rfl (fun b5 i5 j5 => ?_)
          have q5 : ∀ j, j < 17 → b5 j = r j := fun j hj => (mrd i5 j5 hj).trans (q4 j hj)
          refine m_lay h24 (w := 14) (z := 13) (by omega) (by omega) rfl rfl rfl (fun b6 i6 j6 => ?_)
          have q6 : ∀ j, j < 17 → b6 j = r j := fun j hj => (mrd i6 j6 hj).trans (q5 j hj)
          refine m_lay h24 (w := 15) (z := 14) (by omega) (by omega) rfl rfl rfl (fun b7 i7 j7 => ?_)
          have q7 : ∀ j, j < 17 → b7 j = r j := fun j hj => (mrd i7 j7 hj).trans (q6 j hj)
          refine m_shootEnd (r := r) (has := has) hn hb q7 (fun w => ?_) (fun i w hi => ?_) ht k
          · rw [i7, i6, i5, i4, i3, i2, i1, h8, h7, h6, h5, h4, h3, h2, h1]
            rcases (by omega : w = 0 ∨ w = 1 ∨ w = 2 ∨ w = 3 ∨ w = 4 ∨ w = 5 ∨ w = 6 ∨ w = 7 ∨ w = 8 ∨ w = 9 ∨ w = 10 ∨ w = 11 ∨ w = 12 ∨ w = 13 ∨ w = 14 ∨ w = 15 ∨ 16 ≤ w) with rfl | rfl | rfl | rfl | rfl | rfl | rfl | rfl | rfl | rfl | rfl | rfl | rfl | rfl | rfl | rfl | h16
            all_goals first
              | (simp only [vu, vrow, vm_h r, reduceIte, Nat.reduceEqDiff, Nat.reduceLT, and_false, and_true, if_false, if_true, Nat.succ_ne_zero, OfNat.ofNat_ne_zero, Bool.false_eq_true, false_and, true_and]; first | done | exact e9 | exact e10 | exact e11.trans (by rw [hf', vm_h r (by omega)]))
              | (repeat' rw [vu_n (by omega)]
                 unfold vrow
                 split <;> first | omega | rfl)
              | (simp [vu, vrow, vm_h]; first | done | exact e9 | exact e10 | exact e11.trans (by rw [hf', vm_h r (by omega)]))
          · rw [i7, i6, i5, i4, i3, i2, i1, h8, h7, h6, h5, h4, h3, h2, h1]
            simp only [vu, hi, false_and, if_false]
        have := hp.2 b2 q2
        exact ⟨fun c => (this.1 c) ▸ go11, fun c => (this.2 c) ▸ go11⟩
      have := hp.1 b1 q1
      exact ⟨fun c => (this.1 c) ▸ go10, fun c => (this.2 c) ▸ go10⟩
    rw [g8 8 (by omega)]
    cases has with
    | false =>
      simp only [Bool.false_eq_true, if_false] at ht
      subst ht
      exact ⟨fun _ => step (-1) (-1) (-1) rfl rfl rfl ⟨fun u _ => ⟨fun _ => rfl, fun q => absurd rfl q⟩, fun u _ => ⟨fun _ => rfl, fun q => absurd rfl q⟩⟩, fun q => absurd rfl q⟩
    | true =>
      simp only [if_true] at ht
      subst ht
      exact ⟨fun q => absurd q (by decide), fun _ => step (r 8) (r 9) (r 12 + 1) rfl rfl rfl ⟨fun u hu => ⟨fun q => absurd q (by decide), fun _ => (hu 9 (by omega)).symm⟩, fun u hu => ⟨fun q => absurd q (by decide), fun _ => by rw [hu 12 (by omega)]⟩⟩⟩
  have m20 : xp_X5_shootOn_20 K r snd (nI n) len := by
    unfold xp_X5_shootOn_20
    have e14 : r 14 = vm r 0 13 := (vm_s r (w := 13) (by omega) (by omega)).symm
    rw [e14, ← vm_h r (w := 9) (by omega)]
    refine ⟨fun c => main false 0 (by unfold vhas; simp [c]) rfl, fun c => ⟨fun c1 => main false 0 (by unfold vhas; simp [c1]) rfl, fun c1 => main true 1 (by unfold vhas; simp [c, c1]) rfl⟩⟩
  unfold xp_X5_shootOn
  rw [r0]
  unfold vlen at hlen
  refine m_left ⟨fun c => m_left ?_, fun c => ?_⟩
  · have : (if (0 : Int32) < vm r 0 12 - vm r 0 7 then vm r 0 12 - vm r 0 7 else 0) = len := by
      rw [← hlen]
      dsimp only
      by_cases q : (if (0 : Int32) < vm r 0 12 - vm r 0 7 then vm r 0 12 - vm r 0 7 else 0) < sec
      · rw [if_pos q]
      · rw [if_neg q]; exact Int32.le_antisymm c (Int32.not_lt.mp q)
    rw [this]; exact m20
  · have : sec = len := by
      rw [← hlen]
      dsimp only
      rw [if_neg (fun q => c (Int32.le_of_lt q))]
    rw [this] at *
    exact m20
