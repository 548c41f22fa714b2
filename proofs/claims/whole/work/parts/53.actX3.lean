/-! ===== the class's row: what its methods change ===== -/
theorem rd {a a' : Nat → Int32} {i w j : Nat} {v : Int32} (h : vw a' = vu (vw a) (i + 1) w v) (hj : j < 16) : a' j = a j := by
  rw [← vw_h a' hj, h, vu_n (by omega), vw_h a hj]
theorem e_putV {a : Nat → Int32} {i w : Nat} {x y v : Int32} {K : (Nat → Int32) → Prop} (hi : i < 24) (hw : w < 16) (h2 : w ≠ 2) (hx : x = nI i) (hy : y = nI w) (k : ∀ a', vw a' = vu (vw a) (i + 1) w v → K a') : xp_X3_put a x y v K :=
  e_put hi hw hx hy (k _ (vw_upd (by omega) hw (Or.inl h2) rfl))
/-- the length that a take would have -/
def vlen (V : Nat → Nat → Int32) (sec : Int32) : Int32 :=
  let left := if (0 : Int32) < V 0 12 - V 0 7 then V 0 12 - V 0 7 else 0
  if left < sec then left else sec
/-- whether it has sound -/
def vhas (V : Nat → Nat → Int32) (len snd : Int32) : Bool := decide (¬ snd = 0 ∧ ¬ V 0 13 - V 0 9 < len)
def vrow (V : Nat → Nat → Int32) (n : Nat) (len : Int32) (has : Bool) : Nat → Int32
  | 0 => V 0 1
  | 1 => V 0 2
  | 3 => V 0 3
  | 4 => V 0 4
  | 5 => V 0 5
  | 6 => V 0 6
  | 7 => V 0 7
  | 8 => len
  | 9 => if has = true then V 0 8 else -1
  | 10 => if has = true then V 0 9 else -1
  | 11 => if has = true then lat V (V 0 8) n + 1 else -1
  | 12 => V 0 10
  | 13 => V 0 10 + V 0 11
  | 14 => 0
  | 15 => 0
  | w => V (n + 1) w
def vhead (V : Nat → Nat → Int32) (n : Nat) (len : Int32) (has : Bool) : Nat → Int32
  | 0 => nI (n + 1)
  | 5 => if V 0 15 = 1 then (if V 0 5 + 1 < 99 then V 0 5 + 1 else 99) else V 0 5
  | 7 => V 0 7 + len
  | 9 => if has = true then V 0 9 + len else V 0 9
  | 10 => V 0 10 + (len + V 0 14)
  | w => V 0 w
def vfilm (V : Nat → Nat → Int32) (n : Nat) (len : Int32) (has : Bool) : Nat → Nat → Int32 := fun i w => if i = n + 1 then vrow V n len has w else if i = 0 then vhead V n len has w else V i w
theorem lat_vu {V : Nat → Nat → Int32} {roll x : Int32} {i w : Nat} : ∀ k, k ≤ i → lat (vu V (i + 1) w x) roll k = lat V roll k
  | 0, _ => rfl
  | k + 1, h => by
    simp only [lat]
    rw [vu_n (by omega), vu_n (by omega), lat_vu k (by omega)]
theorem e_record0 {a : Nat → Int32} {n : Nat} {x : Int32} {K : (Nat → Int32) → Prop} (h24 : n < 24) (hx : x = nI n) (k : ∀ a', vw a' = vu (vu (vu (vw a) (n + 1) 11 (-1)) (n + 1) 9 (-1)) (n + 1) 10 (-1) → K a') : xp_X3_record a x 0 K := by
  unfold xp_X3_record
  refine ⟨fun _ => ?_, fun c => absurd rfl c⟩
  unfold xp_X3_record_18
  refine e_putV h24 (w := 11) (by omega) (by omega) hx rfl (fun a1 h1 => ⟨fun _ => ?_, fun c => absurd rfl c⟩)
  unfold xp_X3_record_40
  refine e_putV h24 (w := 9) (by omega) (by omega) hx rfl (fun a2 h2 => ⟨fun _ => ?_, fun c => absurd rfl c⟩)
  unfold xp_X3_record_62
  refine e_putV h24 (w := 10) (by omega) (by omega) hx rfl (fun a3 h3 => ⟨fun _ => ?_, fun c => absurd rfl c⟩)
  exact k _ (by rw [h3, h2, h1])
theorem e_record1 {a : Nat → Int32} {n : Nat} {x : Int32} {K : (Nat → Int32) → Prop} (hn : vw a 0 0 = nI n) (h24 : n < 24) (hx : x = nI n) (k : ∀ a', vw a' = vu (vu (vu (vu (vw a) (n + 1) 11 (lat (vw a) (vw a 0 8) n + 1)) (n + 1) 9 (vw a 0 8)) (n + 1) 10 (vw a 0 9)) 0 9 (vw a 0 9 + vw a (n + 1) 8) → K a') : xp_X3_record a x 1 K := by
  unfold xp_X3_record
  refine ⟨fun c => absurd c (by decide), fun _ => e_latestFile hn (by omega) ?_⟩
  unfold xp_X3_record_18
  refine e_putV h24 (w := 11) (by omega) (by omega) hx rfl (fun a1 h1 => ⟨fun c => absurd c (by decide), fun _ => ?_⟩)
  rw [rd h1 (by omega)]
  unfold xp_X3_record_40
  refine e_putV h24 (w := 9) (by omega) (by omega) hx rfl (fun a2 h2 => ⟨fun c => absurd c (by decide), fun _ => ?_⟩)
  rw [rd h2 (by omega), rd h1 (by omega)]
  unfold xp_X3_record_62
  refine e_putV h24 (w := 10) (by omega) (by omega) hx rfl (fun a3 h3 => ⟨fun c => absurd c (by decide), fun _ => ?_⟩)
  refine e_of h24 (w := 8) (by omega) (by omega) hx rfl (k _ ?_)
  rw [vw_upd (i := 0) (w := 9) (by omega) (by omega) (Or.inr rfl) rfl, rd h3 (by omega), rd h2 (by omega), rd h1 (by omega)]
  have e8 : vw a3 (n + 1) 8 = vw a (n + 1) 8 := by rw [h3, h2, h1, vu_n (by omega), vu_n (by omega), vu_n (by omega)]
  rw [e8, h3, h2, h1, vw_h a (w := 9) (by omega), vw_h a (w := 8) (by omega)]
/-- the table behind a take, as the class writes it -/
theorem film_end {V V1 : Nat → Nat → Int32} {n : Nat} {len : Int32} {has : Bool} {b : Int32} (hb : b = if V 0 15 = 1 then (if V 0 5 + 1 < 99 then V 0 5 + 1 else 99) else V 0 5)
    (hV1 : ∀ i w, V1 i w = if i = n + 1 then (vrow V n len has w) else if i = 0 ∧ w = 9 then vhead V n len has 9 else V i w) :
    vu (vu (vu (vu V1 0 7 (V 0 7 + len)) 0 10 (V 0 10 + (len + V 0 14))) 0 0 (nI (n + 1))) 0 5 b = vfilm V n len has := by
  funext i w
  unfold vfilm
  by_cases hi : i = n + 1
  · subst hi
    rw [vu_n (by omega), vu_n (by omega), vu_n (by omega), vu_n (by omega), hV1, if_pos rfl, if_pos rfl]
  · rw [if_neg hi]
    by_cases h0 : i = 0
    · subst h0
      rw [if_pos rfl]
      by_cases w5 : w = 5
      · subst w5; rw [vu_s, hb]; rfl
      rw [vu_n (fun q => w5 q.2)]
      by_cases w0 : w = 0
      · subst w0; rw [vu_s]; rfl
      rw [vu_n (fun q => w0 q.2)]
      by_cases w10 : w = 10
      · subst w10; rw [vu_s]; rfl
      rw [vu_n (fun q => w10 q.2)]
      by_cases w7 : w = 7
      · subst w7; rw [vu_s]; rfl
      rw [vu_n (fun q => w7 q.2), hV1, if_neg hi]
      by_cases w9 : w = 9
      · subst w9; rw [if_pos ⟨rfl, rfl⟩]
      rw [if_neg (fun q => w9 q.2)]
      unfold vhead
      split
      · exact absurd rfl w0
      · exact absurd rfl w5
      · exact absurd rfl w7
      · exact absurd rfl w9
      · exact absurd rfl w10
      · rfl
    · rw [if_neg h0, vu_n (by omega), vu_n (by omega), vu_n (by omega), vu_n (by omega), hV1, if_neg hi, if_neg (fun q => h0 q.1)]
theorem e_film {a : Nat → Int32} {n : Nat} {sec snd : Int32} {K : Int32 → (Nat → Int32) → Prop} (hn : vw a 0 0 = nI n) (h24 : n < 24) (k : ∀ a', vw a' = vfilm (vw a) n (vlen (vw a) sec) (vhas (vw a) (vlen (vw a) sec) snd) → K (vlen (vw a) sec) a') : xp_X3_film a sec snd K := by
  unfold xp_X3_film
  refine e_takes hn (e_cameraLeft ?_)
  generalize hl : (if (if (0 : Int32) < vw a 0 12 - vw a 0 7 then vw a 0 12 - vw a 0 7 else 0) < sec then (if (0 : Int32) < vw a 0 12 - vw a 0 7 then vw a 0 12 - vw a 0 7 else 0) else sec) = len
  have hlen : vlen (vw a) sec = len := hl
  rw [hlen] at k
  refine e_putV h24 (w := 0) (by omega) (by omega) rfl rfl (fun a1 h1 => ?_)
  have g1 : ∀ j, j < 16 → a1 j = a j := fun j hj => rd h1 hj
  rw [g1 2 (by omega)]
  refine e_putV h24 (w := 1) (by omega) (by omega) rfl rfl (fun a2 h2 => ?_)
  have g2 : ∀ j, j < 16 → a2 j = a j := fun j hj => (rd h2 hj).trans (g1 j hj)
  rw [g2 3 (by omega)]
  refine e_putV h24 (w := 3) (by omega) (by omega) rfl rfl (fun a3 h3 => ?_)
  have g3 : ∀ j, j < 16 → a3 j = a j := fun j hj => (rd h3 hj).trans (g2 j hj)
  rw [g3 4 (by omega)]
  refine e_putV h24 (w := 4) (by omega) (by omega) rfl rfl (fun a4 h4 => ?_)
  have g4 : ∀ j, j < 16 → a4 j = a j := fun j hj => (rd h4 hj).trans (g3 j hj)
  rw [g4 5 (by omega)]
  refine e_putV h24 (w := 5) (by omega) (by omega) rfl rfl (fun a5 h5 => ?_)
  have g5 : ∀ j, j < 16 → a5 j = a j := fun j hj => (rd h5 hj).trans (g4 j hj)
  rw [g5 6 (by omega)]
  refine e_putV h24 (w := 6) (by omega) (by omega) rfl rfl (fun a6 h6 => ?_)
  have g6 : ∀ j, j < 16 → a6 j = a j := fun j hj => (rd h6 hj).trans (g5 j hj)
  rw [g6 7 (by omega)]
  refine e_putV h24 (w := 7) (by omega) (by omega) rfl rfl (fun a7 h7 => ?_)
  have g7 : ∀ j, j < 16 → a7 j = a j := fun j hj => (rd h7 hj).trans (g6 j hj)
  refine e_putV h24 (w := 8) (by omega) (by omega) rfl rfl (fun a8 h8 => ?_)
  have g8 : ∀ j, j < 16 → a8 j = a j := fun j hj => (rd h8 hj).trans (g7 j hj)
  rw [g8 10 (by omega)]
  refine e_putV h24 (w := 12) (by omega) (by omega) rfl rfl (fun a9 h9 => ?_)
  have g9 : ∀ j, j < 16 → a9 j = a j := fun j hj => (rd h9 hj).trans (g8 j hj)
  rw [g9 10 (by omega), g9 11 (by omega)]
  refine e_putV h24 (w := 13) (by omega) (by omega) rfl rfl (fun b1 i1 => ?_)
  have q1 : ∀ j, j < 16 → b1 j = a j := fun j hj => (rd i1 hj).trans (g9 j hj)
  refine e_putV h24 (w := 14) (by omega) (by omega) rfl rfl (fun b2 i2 => ?_)
  have q2 : ∀ j, j < 16 → b2 j = a j := fun j hj => (rd i2 hj).trans (q1 j hj)
  refine e_putV h24 (w := 15) (by omega) (by omega) rfl rfl (fun b3 i3 => ?_)
  have q3 : ∀ j, j < 16 → b3 j = a j := fun j hj => (rd i3 hj).trans (q2 j hj)
  have hb3 : vw b3 = vu (vu (vu (vu (vu (vu (vu (vu (vu (vu (vu (vu (vw a) (n + 1) 0 (a 1)) (n + 1) 1 (a 2)) (n + 1) 3 (a 3)) (n + 1) 4 (a 4)) (n + 1) 5 (a 5)) (n + 1) 6 (a 6)) (n + 1) 7 (a 7)) (n + 1) 8 len) (n + 1) 12 (a 10)) (n + 1) 13 (a 10 + a 11)) (n + 1) 14 0) (n + 1) 15 0 := by
    rw [i3, i2, i1, h9, h8, h7, h6, h5, h4, h3, h2, h1]
  have e8 : vw b3 (n + 1) 8 = len := by rw [hb3, vu_n (by omega), vu_n (by omega), vu_n (by omega), vu_n (by omega), vu_s]
  have hn3 : vw b3 0 0 = nI n := by rw [vw_h b3 (by omega), q3 0 (by omega), ← vw_h a (w := 0) (by omega)]; exact hn
  have hlat : lat (vw b3) (vw b3 0 8) n = lat (vw a) (vw a 0 8) n := by
    rw [vw_h b3 (by omega), q3 8 (by omega), ← vw_h a (w := 8) (by omega), hb3]
    repeat rw [lat_vu n (Nat.le_refl n)]
  have fin : ∀ (has : Bool) (c : Nat → Int32), (∀ i w, vw c i w = if i = n + 1 then (vrow (vw a) n len has w) else if i = 0 ∧ w = 9 then vhead (vw a) n len has 9 else vw a i w) → vhas (vw a) len snd = has →
      xp_X3_chosen (upd c 7 (c 7 + len)) 2 (fun r2 => xp_X3_chosen (upd (upd (upd c 7 (c 7 + len)) 10 (c 10 + (len + r2))) 0 (nI n + 1)) 3 (fun r3 => (¬ r3 = 1 → K len (upd (upd (upd c 7 (c 7 + len)) 10 (c 10 + (len + r2))) 0 (nI n + 1))) ∧ (r3 = 1 → K len (upd (upd (upd (upd c 7 (c 7 + len)) 10 (c 10 + (len + r2))) 0 (nI n + 1)) 5 (if (c 5 + 1) < 99 then (c 5 + 1) else 99))))) := by
    intro has c hc hh
    rw [hh] at k
    have gc : ∀ j, j < 16 → j ≠ 9 → c j = vw a 0 j := by
      intro j hj h9
      rw [← vw_h c hj, hc, if_neg (by omega), if_neg (fun q => h9 q.2)]
    have u7 : vw (upd c 7 (c 7 + len)) = vu (vw c) 0 7 (c 7 + len) := vw_upd (by omega) (by omega) (Or.inr rfl) rfl
    refine e_chosen (w := 2) (by omega) rfl ?_
    rw [u7, vu_n (by omega), vw_h c (w := 14) (by omega), gc 14 (by omega) (by omega), gc 7 (by omega) (by omega), gc 10 (by omega) (by omega), gc 5 (by omega) (by omega), nI_1]
    have u10 : vw (upd (upd (upd c 7 (vw a 0 7 + len)) 10 (vw a 0 10 + (len + vw a 0 14))) 0 (nI (n + 1))) = vu (vu (vu (vw c) 0 7 (vw a 0 7 + len)) 0 10 (vw a 0 10 + (len + vw a 0 14))) 0 0 (nI (n + 1)) := by
      rw [vw_upd (i := 0) (w := 0) (by omega) (by omega) (Or.inr rfl) rfl, vw_upd (i := 0) (w := 10) (by omega) (by omega) (Or.inr rfl) rfl, vw_upd (i := 0) (w := 7) (by omega) (by omega) (Or.inr rfl) rfl]
    refine e_chosen (w := 3) (by omega) rfl ?_
    rw [u10, vu_n (by omega), vu_n (by omega), vu_n (by omega), vw_h c (w := 15) (by omega), gc 15 (by omega) (by omega)]
    refine ⟨fun c1 => k _ ?_, fun c1 => k _ ?_⟩
    · rw [u10, ← film_end (V1 := vw c) (b := vw a 0 5) (by rw [if_neg c1]) hc]
      funext i w
      by_cases q : i = 0 ∧ w = 5
      · obtain ⟨rfl, rfl⟩ := q
        rw [vu_s, vu_n (by omega), vu_n (by omega), vu_n (by omega), vw_h c (by omega), gc 5 (by omega) (by omega)]
      · rw [vu_n (V := vu (vu (vu (vw c) 0 7 _) 0 10 _) 0 0 _) q]
    · rw [vw_upd (i := 0) (w := 5) (by omega) (by omega) (Or.inr rfl) rfl, u10]
      exact film_end (V1 := vw c) (by rw [if_pos c1]) hc
  have fin0 : vhas (vw a) len snd = false → xp_X3_film_193 K b3 (nI n) len 0 (nI n) := by
    intro hh
    unfold xp_X3_film_193
    refine e_record0 h24 rfl (fun c hc => fin false c (fun i w => ?_) hh)
    rw [hc, hb3]
    by_cases hi : i = n + 1
    · subst hi
      rw [if_pos rfl]
      rcases (by omega : w = 0 ∨ w = 1 ∨ w = 2 ∨ w = 3 ∨ w = 4 ∨ w = 5 ∨ w = 6 ∨ w = 7 ∨ w = 8 ∨ w = 9 ∨ w = 10 ∨ w = 11 ∨ w = 12 ∨ w = 13 ∨ w = 14 ∨ w = 15 ∨ 16 ≤ w) with rfl | rfl | rfl | rfl | rfl | rfl | rfl | rfl | rfl | rfl | rfl | rfl | rfl | rfl | rfl | rfl | h16
      all_goals first
        | (simp only [vu, vrow, vw_h a, reduceIte, Nat.reduceEqDiff, Nat.reduceLT, and_false, and_true, if_false, if_true, Nat.succ_ne_zero, OfNat.ofNat_ne_zero, Bool.false_eq_true, false_and, true_and]; done)
        | (repeat' rw [vu_n (by omega)]
           unfold vrow
           split <;> first | omega | rfl)
        | (simp [vu, vrow, vw_h]; done)
    · rw [if_neg hi]
      simp only [vu, hi, false_and, if_false]
      by_cases q : i = 0 ∧ w = 9
      · obtain ⟨rfl, rfl⟩ := q; simp [vhead]
      · rw [if_neg q]
  have fin1 : vhas (vw a) len snd = true → xp_X3_film_193 K b3 (nI n) len 1 (nI n) := by
    intro hh
    unfold xp_X3_film_193
    refine e_record1 hn3 h24 rfl (fun c hc => fin true c (fun i w => ?_) hh)
    rw [hc, hlat, e8, vw_h b3 (w := 8) (by omega), vw_h b3 (w := 9) (by omega), q3 8 (by omega), q3 9 (by omega), hb3]
    by_cases hi : i = n + 1
    · subst hi
      rw [if_pos rfl]
      rcases (by omega : w = 0 ∨ w = 1 ∨ w = 2 ∨ w = 3 ∨ w = 4 ∨ w = 5 ∨ w = 6 ∨ w = 7 ∨ w = 8 ∨ w = 9 ∨ w = 10 ∨ w = 11 ∨ w = 12 ∨ w = 13 ∨ w = 14 ∨ w = 15 ∨ 16 ≤ w) with rfl | rfl | rfl | rfl | rfl | rfl | rfl | rfl | rfl | rfl | rfl | rfl | rfl | rfl | rfl | rfl | h16
      all_goals first
        | (simp only [vu, vrow, vw_h a, reduceIte, Nat.reduceEqDiff, Nat.reduceLT, and_false, and_true, if_false, if_true, Nat.succ_ne_zero, OfNat.ofNat_ne_zero, Bool.false_eq_true, false_and, true_and]; done)
        | (repeat' rw [vu_n (by omega)]
           unfold vrow
           split <;> first | omega | rfl)
        | (simp [vu, vrow, vw_h]; done)
    · rw [if_neg hi]
      by_cases q : i = 0 ∧ w = 9
      · obtain ⟨rfl, rfl⟩ := q
        rw [vu_s, if_pos ⟨rfl, rfl⟩]
        simp [vhead, vw_h]
      · rw [if_neg q, vu_n q]
        simp only [vu, hi, false_and, if_false]
  refine ⟨fun c => fin0 (by unfold vhas; simp [c]), fun c => e_chosen (w := 1) (by omega) rfl ?_⟩
  have e13 : vw b3 0 (12 + 1) - b3 9 = vw a 0 13 - vw a 0 9 := by rw [vw_h b3 (by omega), q3 _ (by omega), q3 9 (by omega), vw_h a (by omega), vw_h a (by omega)]
  rw [e13]
  exact ⟨fun c1 => fin0 (by unfold vhas; simp [c1]), fun c1 => fin1 (by unfold vhas; simp [c, c1])⟩
