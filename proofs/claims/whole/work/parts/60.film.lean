/-! ===== a take more ===== -/
theorem tI (k : Nat) (h : k < 2147483648) : (Int32.ofNat k).toInt = k := nI_toInt h
theorem vlen_rg {V : Nat → Nat → Int32} {sec : Int32} {B : Int} {n : Nat} (h : Inv B n V) (h1 : 1 ≤ sec) (h2 : sec ≤ 120) (hl : (0 : Int32) < V 0 12 - V 0 7) : rg 1 120 (vlen V sec) ∧ (V 0 7).toInt + (vlen V sec).toInt ≤ 999 := by
  have a : rg 60 999 (V 0 12) := h.2.2.1 12
  have b : rg 0 999 (V 0 7) := h.2.2.1 7
  obtain ⟨a1, a2⟩ := a
  obtain ⟨b1, b2⟩ := b
  have e : (V 0 12 - V 0 7).toInt = (V 0 12).toInt - (V 0 7).toInt := i_sub (by omega) (by omega)
  have o0 : (0 : Int32).toInt = 0 := rfl
  have o1 : (1 : Int32).toInt = 1 := rfl
  have o2 : (120 : Int32).toInt = 120 := rfl
  rw [Int32.le_iff_toInt_le] at h1 h2
  rw [o1] at h1
  rw [o2] at h2
  unfold vlen
  dsimp only
  rw [if_pos hl]
  rw [Int32.lt_iff_toInt_lt, o0, e] at hl
  by_cases c : V 0 12 - V 0 7 < sec
  · rw [if_pos c]
    rw [Int32.lt_iff_toInt_lt, e] at c
    unfold rg
    rw [e]; omega
  · rw [if_neg c]
    rw [Int32.lt_iff_toInt_lt, e] at c
    unfold rg
    omega
theorem vhas_rg {V : Nat → Nat → Int32} {len snd : Int32} {B : Int} {n : Nat} (h : Inv B n V) (hs : vhas V len snd = true) : (V 0 9).toInt + len.toInt ≤ 3600 := by
  have a : rg 60 3600 (V 0 13) := h.2.2.1 13
  have b : rg 0 3600 (V 0 9) := h.2.2.1 9
  obtain ⟨a1, a2⟩ := a
  obtain ⟨b1, b2⟩ := b
  have e : (V 0 13 - V 0 9).toInt = (V 0 13).toInt - (V 0 9).toInt := i_sub (by omega) (by omega)
  have := (of_decide_eq_true hs).2
  rw [Int32.lt_iff_toInt_lt, e] at this
  omega
theorem rs_film {B : Int} {n : Nat} {a r a' r' : Nat → Int32} {len : Int32} {has : Bool} (h : RS B n a r) (h24 : n < 24) (hB : B < 1000000) (hlen : rg 1 120 len) (hcam : (vw a 0 7).toInt + len.toInt ≤ 999) (hsnd : has = true → (vw a 0 9).toInt + len.toInt ≤ 3600)
    (ha : vw a' = vfilm (vw a) n len has) (hr : vm r' = vfilm (vm r) n len has) (hf : r' 12 = if has = true then r 12 + 1 else r 12) : RS B (n + 1) a' r' := by
  obtain ⟨e, ⟨_, hn, hh, ht, hs⟩, hl⟩ := h
  have hI : Inv B n (vw a) := ⟨by omega, hn, hh, ht, hs⟩
  have s1 : rg 1 99 (vw a 0 1) := hh 1
  have s2 : rg 0 25 (vw a 0 2) := hh 2
  have s3 : rg 1 99 (vw a 0 3) := hh 3
  have s4 : rg 0 25 (vw a 0 4) := hh 4
  have s5 : rg 1 99 (vw a 0 5) := hh 5
  have s6 : rg 1 B (vw a 0 6) := hh 6
  have s7 : rg 0 999 (vw a 0 7) := hh 7
  have s8 : rg 1 B (vw a 0 8) := hh 8
  have s9 : rg 0 3600 (vw a 0 9) := hh 9
  have s10 : rg 0 (180 * n) (vw a 0 10) := hh 10
  have s11 : rg (-99) 99 (vw a 0 11) := hh 11
  have s14 : rg 0 60 (vw a 0 14) := hh 14
  have m1 : (-1 : Int32).toInt = -1 := rfl
  have o1 : (1 : Int32).toInt = 1 := rfl
  have ne : vw a 0 8 ≠ -1 := by
    intro c
    have := s8.1
    rw [c, m1] at this
    omega
  have hlat := lat_lt hI ne n (Nat.le_refl n)
  have e0 : ∀ w, vfilm (vw a) n len has 0 w = vhead (vw a) n len has w := by intro w; unfold vfilm; rw [if_neg (by omega), if_pos rfl]
  have en : ∀ w, vfilm (vw a) n len has (n + 1) w = vrow (vw a) n len has w := by intro w; unfold vfilm; rw [if_pos rfl]
  have ei : ∀ i w, i < n → vfilm (vw a) n len has (i + 1) w = vw a (i + 1) w := by intro i w hi; unfold vfilm; rw [if_neg (by omega), if_neg (by omega)]
  have a7 : (vw a 0 7 + len).toInt = (vw a 0 7).toInt + len.toInt := i_add (by have := s7.1; have := hlen.1; omega) (by omega)
  have alp : (len + vw a 0 14).toInt = len.toInt + (vw a 0 14).toInt := i_add (by have := s14.1; have := hlen.1; omega) (by have := s14.2; have := hlen.2; omega)
  have a10 : (vw a 0 10 + (len + vw a 0 14)).toInt = (vw a 0 10).toInt + (len.toInt + (vw a 0 14).toInt) := by
    rw [i_add (by rw [alp]; have := s10.1; have := s14.1; have := hlen.1; omega) (by rw [alp]; have := s10.2; have := s14.2; have := hlen.2; omega), alp]
  have ast : (vw a 0 10 + vw a 0 11).toInt = (vw a 0 10).toInt + (vw a 0 11).toInt := i_add (by have := s10.1; have := s11.1; omega) (by have := s10.2; have := s11.2; omega)
  have alat : (lat (vw a) (vw a 0 8) n + 1).toInt = (lat (vw a) (vw a 0 8) n).toInt + 1 := i_add (b := 1) (by have := hlat.1; rw [o1]; omega) (by have := hlat.2; rw [o1]; omega)
  have b5 := board_on (b := vw a 0 5) ⟨by have := s5.1; omega, s5.2⟩
  refine ⟨by rw [ha, hr, e], ⟨by omega, by rw [ha, e0]; rfl, fun w => ?_, fun i hi w => ?_, fun i hi => ?_⟩, ?_⟩
  · rw [ha, e0]
    rcases (by omega : w = 0 ∨ w = 5 ∨ w = 7 ∨ w = 9 ∨ w = 10 ∨ (w ≠ 0 ∧ w ≠ 5 ∧ w ≠ 7 ∧ w ≠ 9 ∧ w ≠ 10)) with rfl | rfl | rfl | rfl | rfl | ⟨w0, w5, w7, w9, w10⟩
    · trivial
    · show rg 1 99 (if vw a 0 15 = 1 then (if vw a 0 5 + 1 < 99 then vw a 0 5 + 1 else 99) else vw a 0 5)
      split
      · rw [b5]
        split
        · rw [Int32.add_zero]; exact s5
        · rename_i c
          rw [Int32.le_iff_toInt_le] at c
          have o9 : (99 : Int32).toInt = 99 := rfl
          rw [o9] at c
          have := i_add (a := vw a 0 5) (b := 1) (by rw [o1]; have := s5.1; omega) (by rw [o1]; omega)
          unfold rg
          rw [this, o1]
          have := s5.1
          omega
      · exact s5
    · show rg 0 999 (vw a 0 7 + len)
      unfold rg
      rw [a7]
      have := s7.1; have := hlen.1
      omega
    · show rg 0 3600 (if has = true then vw a 0 9 + len else vw a 0 9)
      split
      · rename_i c
        have := hsnd c
        have q : (vw a 0 9 + len).toInt = (vw a 0 9).toInt + len.toInt := i_add (by have := s9.1; have := hlen.1; omega) (by omega)
        unfold rg
        rw [q]
        have := s9.1; have := hlen.1
        omega
      · exact s9
    · show rg 0 (180 * ((n + 1 : Nat) : Int)) (vw a 0 10 + (len + vw a 0 14))
      unfold rg
      rw [a10]
      have := s10.1; have := s10.2; have := s14.1; have := s14.2; have := hlen.1; have := hlen.2
      omega
    · have q : vhead (vw a) n len has w = vw a 0 w := by
        unfold vhead
        split
        · exact absurd rfl w0
        · exact absurd rfl w5
        · exact absurd rfl w7
        · exact absurd rfl w9
        · exact absurd rfl w10
        · rfl
      rw [q]
      exact hR_mono (Int.le_refl B) (by omega) (hh w)
  · by_cases q : i = n
    · subst q
      rw [ha, en]
      unfold tR
      split
      · exact s1
      · exact s2
      · exact s3
      · exact s4
      · exact s5
      · exact s6
      · exact s7
      · exact hlen
      · show rg 0 4320 (vw a 0 10)
        exact rg_mono (by omega) (by omega) s10
      · show rg (-99) 4419 (vw a 0 10 + vw a 0 11)
        unfold rg
        rw [ast]
        have := s10.1; have := s10.2; have := s11.1; have := s11.2
        omega
      · show rg 0 1 (0 : Int32)
        exact ⟨by decide, by decide⟩
      · show rg 0 1 (0 : Int32)
        exact ⟨by decide, by decide⟩
      · trivial
    · rw [ha, ei i w (by omega)]
      exact ht i (by omega) w
  · unfold sOk
    rw [ha, e0]
    by_cases q : i = n
    · subst q
      rw [en, en]
      show (if has = true then vw a 0 8 else -1) = -1 ∨ rg 1 (vw a 0 8).toInt (if has = true then vw a 0 8 else -1) ∧ rg 1 (i + 1) (if has = true then lat (vw a) (vw a 0 8) i + 1 else -1)
      cases has with
      | false => exact Or.inl rfl
      | true =>
        refine Or.inr ⟨⟨s8.1, Int.le_refl _⟩, ?_⟩
        show rg 1 (i + 1) (lat (vw a) (vw a 0 8) i + 1)
        unfold rg
        rw [alat]
        have := hlat.1; have := hlat.2
        omega
    · rw [ei i _ (by omega), ei i _ (by omega)]
      exact hs i (by omega)
  · rw [hf, ha, e0]
    show _ = lat (vfilm (vw a) n len has) (vw a 0 8) (n + 1)
    have pre : ∀ k, k ≤ n → lat (vfilm (vw a) n len has) (vw a 0 8) k = lat (vw a) (vw a 0 8) k := by
      intro k
      induction k with
      | zero => intro _; rfl
      | succ k ih => intro hk; simp only [lat]; rw [ei k _ (by omega), ei k _ (by omega), ih (by omega)]
    simp only [lat]
    rw [en, en, pre n (Nat.le_refl n)]
    show _ = if (if has = true then vw a 0 8 else -1) = vw a 0 8 then (if has = true then lat (vw a) (vw a 0 8) n + 1 else -1) else lat (vw a) (vw a 0 8) n
    cases has with
    | false =>
      rw [if_neg (by decide), if_neg (by simp only [Bool.false_eq_true, if_false]; exact fun c => ne c.symm)]
      exact hl
    | true =>
      simp only [if_true]
      rw [hl]
