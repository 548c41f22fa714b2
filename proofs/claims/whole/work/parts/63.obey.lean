/-! ===== a command's work, on both sides ===== -/
theorem eff_98 {s l m : Int32} {q : St} : eff 98 s l m q = (true, q.1, aWrite q.2 s l m) := by unfold eff; rw [if_pos rfl]
theorem eff_99 {s l m : Int32} {q : St} : eff 99 s l m q = (true, q.1, aMean q.2 s l) := by unfold eff; rw [if_neg (by decide), if_pos rfl]
theorem eff_114 {s l m : Int32} {q : St} : eff 114 s l m q = (true, q.1, aWrite q.2 (q.2 0 1) (q.2 0 2) (nI (nno q.2 q.1))) := by unfold eff; rw [if_neg (by decide), if_neg (by decide), if_pos rfl]
theorem eff_film {c s l m : Int32} {q : St} (h : c = 109 ∨ c = 116) : eff c s l m q = if (1 ≤ m ∧ m ≤ 120) ∧ (q.1 < 24 ∧ (0 : Int32) < q.2 0 12 - q.2 0 7) then (true, q.1 + 1, vfilm q.2 q.1 (vlen q.2 m) (vhas q.2 (vlen q.2 m) (if c = 116 then 1 else 0))) else (false, q) := by
  unfold eff
  rw [if_neg (by rintro rfl; revert h; decide), if_neg (by rintro rfl; revert h; decide), if_neg (by rintro rfl; revert h; decide), if_pos h]
theorem eff_110 {s l m : Int32} {q : St} : eff 110 s l m q = (true, q.1, aCam q.2) := by unfold eff; rw [if_neg (by decide), if_neg (by decide), if_neg (by decide), if_neg (by decide), if_pos rfl]
theorem eff_115 {s l m : Int32} {q : St} : eff 115 s l m q = (true, q.1, aSnd q.2) := by unfold eff; rw [if_neg (by decide), if_neg (by decide), if_neg (by decide), if_neg (by decide), if_neg (by decide), if_pos rfl]
theorem eff_102 {s l m : Int32} {q : St} : eff 102 s l m q = if ¬ m < 0 ∧ m.toNatClampNeg < q.1 then (true, q.1, aMark q.2 m.toNatClampNeg 15 1) else (false, q) := by unfold eff; rw [if_neg (by decide), if_neg (by decide), if_neg (by decide), if_neg (by decide), if_neg (by decide), if_neg (by decide), if_pos rfl]
theorem eff_111 {s l m : Int32} {q : St} : eff 111 s l m q = if ¬ m < 0 ∧ m.toNatClampNeg < q.1 then (true, q.1, aMark q.2 m.toNatClampNeg 14 1) else (false, q) := by unfold eff; rw [if_neg (by decide), if_neg (by decide), if_neg (by decide), if_neg (by decide), if_neg (by decide), if_neg (by decide), if_neg (by decide), if_pos rfl]
theorem eff_off {c s l m : Int32} {q : St} (h : c ≠ 98 ∧ c ≠ 99 ∧ c ≠ 114 ∧ c ≠ 109 ∧ c ≠ 116 ∧ c ≠ 110 ∧ c ≠ 115 ∧ c ≠ 102 ∧ c ≠ 111) : eff c s l m q = (true, q.1, aOff q.2 (m - 50)) := by
  unfold eff
  rw [if_neg h.1, if_neg h.2.1, if_neg h.2.2.1, if_neg (by rintro (q | q); exact h.2.2.2.1 q; exact h.2.2.2.2.1 q), if_neg h.2.2.2.2.2.1, if_neg h.2.2.2.2.2.2.1, if_neg h.2.2.2.2.2.2.2.1, if_neg h.2.2.2.2.2.2.2.2]
theorem ix_nI {x : Int32} {i : Nat} (hi : i < 100) (h : x = nI i) : ¬ x < 0 ∧ x.toNatClampNeg = i := by subst h; exact ⟨nI_pos (by omega), nI_clamp (by omega)⟩
theorem ix_no {x : Int32} {n : Nat} (hn : n ≤ 24) (h : x < 0 ∨ nI n ≤ x) : ¬ (¬ x < 0 ∧ x.toNatClampNeg < n) := by
  rintro ⟨h1, h2⟩
  rcases h with h | h
  · exact h1 h
  · obtain ⟨j, hj, rfl⟩ := nI_of h1
    rw [nI_clamp hj] at h2
    exact nI_ge h2 (by omega) h
theorem e_obey {c s l m : Int32} {a : Nat → Int32} {n : Nat} {K : Int32 → (Nat → Int32) → Prop} (hn : vw a 0 0 = nI n) (h24 : n ≤ 24)
    (k : ∀ a', vw a' = (eff c s l m (n, vw a)).2.2 → K (if (eff c s l m (n, vw a)).1 = true then 1 else 0) a') : xp_X4_obeyCommand c s l m a K := by
  unfold xp_X4_obeyCommand
  have off : (c ≠ 98 ∧ c ≠ 99 ∧ c ≠ 114 ∧ c ≠ 109 ∧ c ≠ 116 ∧ c ≠ 110 ∧ c ≠ 115 ∧ c ≠ 102 ∧ c ≠ 111) → xp_X3_setOff a (m - 50) (fun r7 u7 => K (1 : Int32) (u7)) := by
    intro h
    rw [eff_off h] at k
    exact e_setOff k
  have film : ∀ b : Int32, (c = 109 ∨ c = 116) → b = (if c = 116 then 1 else 0) → xp_X3_tryToFilm a m b (fun r26 u26 => (narrow .boolean (.int r26) = .int r26) ∧ K r26 (u26)) := by
    intro b h hb
    rw [eff_film h] at k
    subst hb
    refine e_tryToFilm hn h24 (fun g1 g2 a' ha => ⟨rfl, ?_⟩) (fun g => ⟨rfl, ?_⟩)
    · rw [if_pos ⟨g1, g2⟩] at k; exact k a' ha
    · rw [if_neg g] at k; exact k a rfl
  have mark : ∀ w : Nat, (c = 102 ∧ w = 15) ∨ (c = 111 ∧ w = 14) → ∀ y : Int32, y = nI w → xp_X3_mark a m y 1 (fun r11 u11 => (narrow .boolean (.int r11) = .int r11) ∧ K r11 (u11)) := by
    intro w h y hy
    have e : eff c s l m (n, vw a) = if ¬ m < 0 ∧ m.toNatClampNeg < n then (true, n, aMark (vw a) m.toNatClampNeg w 1) else (false, (n, vw a)) := by
      rcases h with ⟨rfl, rfl⟩ | ⟨rfl, rfl⟩
      · exact eff_102
      · exact eff_111
    rw [e] at k
    refine e_mark hn h24 (w := w) (by omega) (by omega) hy (fun i hi hx a' ha => ⟨rfl, ?_⟩) (fun g => ⟨rfl, ?_⟩)
    · have q := ix_nI (by omega) hx
      rw [if_pos ⟨q.1, by rw [q.2]; exact hi⟩, q.2] at k
      rw [if_neg (by decide)] at ha
      exact k a' ha
    · rw [if_neg (ix_no h24 g)] at k
      exact k a rfl
  refine ⟨fun h => ?_, fun n98 => ⟨fun h => ?_, fun n99 => ⟨fun h => ?_, fun n100 => ⟨fun h => ?_, fun n101 => ⟨fun h => ?_, fun n102 => ⟨fun h => ?_, fun n103 => ⟨fun h => ?_, fun n104 => ⟨fun h => ?_, fun n105 => ⟨fun h => ?_, fun n106 => ⟨fun h => ?_, fun n107 => ⟨fun h => ?_, fun n108 => ⟨fun h => ?_, fun n109 => ⟨fun h => ?_, fun n110 => ⟨fun h => ?_, fun n111 => ⟨fun h => ?_, fun n112 => ⟨fun h => ?_, fun n113 => ⟨fun h => ?_, fun n114 => ⟨fun h => ?_, fun n115 => ⟨fun h => ?_, fun n116 => ?_⟩⟩⟩⟩⟩⟩⟩⟩⟩⟩⟩⟩⟩⟩⟩⟩⟩⟩⟩
  · rw [h, eff_98] at k; exact e_write k
  · rw [h, eff_99] at k; exact e_mean k
  · exact off (by rw [h]; decide)
  · exact off (by rw [h]; decide)
  · exact mark 15 (Or.inl ⟨h, rfl⟩) 15 rfl
  · exact off (by rw [h]; decide)
  · exact off (by rw [h]; decide)
  · exact off (by rw [h]; decide)
  · exact off (by rw [h]; decide)
  · exact off (by rw [h]; decide)
  · exact off (by rw [h]; decide)
  · exact ⟨fun g => film 0 (Or.inl h) (by rw [if_neg g]), fun g => film 1 (Or.inl h) (by rw [if_pos g])⟩
  · rw [h, eff_110] at k; exact e_loadCamera k
  · exact mark 14 (Or.inr ⟨h, rfl⟩) 14 rfl
  · exact off (by rw [h]; decide)
  · exact off (by rw [h]; decide)
  · rw [h, eff_114] at k; exact e_writeRight hn h24 k
  · rw [h, eff_115] at k; exact e_loadSound k
  · exact ⟨fun g => absurd h g, fun g => film 1 (Or.inr h) (by rw [if_pos g])⟩
  · exact off ⟨n98, n99, n114, n109, n116, n110, n115, n102, n111⟩
/-! ===== the reference alone ===== -/
def ar (r : Nat → Int32) : Nat → Int32 := fun k => vm r (k / 16) (k % 16)
theorem ar_vw (r : Nat → Int32) : vw (ar r) = vm r := by
  funext i w
  by_cases g : i ≤ 24 ∧ w < 16 ∧ ¬ (1 ≤ i ∧ w = 2)
  · rw [vw_at g.1 g.2.1 (by omega)]
    unfold ar
    rw [show (16 * i + w) / 16 = i by omega, show (16 * i + w) % 16 = w by omega]
  · unfold vw vm
    rw [if_neg g, if_neg g]
def MS (B : Int) (n : Nat) (r : Nat → Int32) : Prop := RS B n (ar r) r
theorem RS.cong {B : Int} {n : Nat} {a a' r : Nat → Int32} (h : RS B n a r) (e : vw a' = vw a) : RS B n a' r := ⟨e.trans h.1, e ▸ h.2.1, by rw [h.2.2, e]⟩
theorem RS.ms {B : Int} {n : Nat} {a r : Nat → Int32} (h : RS B n a r) : MS B n r := h.cong (by rw [ar_vw, h.1])
theorem MS.rs {B : Int} {n : Nat} {a r : Nat → Int32} (h : MS B n r) (e : vw a = vm r) : RS B n a r := RS.cong h (by rw [ar_vw, e])
theorem MS.mono {B B' : Int} {n : Nat} {r : Nat → Int32} (hB : B ≤ B') (h : MS B n r) : MS B' n r := RS.mono hB h
theorem MS.n24 {B : Int} {n : Nat} {r : Nat → Int32} (h : MS B n r) : n ≤ 24 := h.2.1.1
theorem MS.n0 {B : Int} {n : Nat} {r : Nat → Int32} (h : MS B n r) : vm r 0 0 = nI n := by rw [← ar_vw]; exact h.2.1.2.1
theorem MS.inv {B : Int} {n : Nat} {r : Nat → Int32} (h : MS B n r) : Inv B n (vm r) := by rw [← ar_vw]; exact h.2.1
theorem MS.f12 {B : Int} {n : Nat} {r : Nat → Int32} (h : MS B n r) : r 12 = lat (vm r) (vm r 0 8) n := by rw [← ar_vw]; exact h.2.2
theorem RS.n24 {B : Int} {n : Nat} {a r : Nat → Int32} (h : RS B n a r) : n ≤ 24 := h.2.1.1
theorem RS.n0 {B : Int} {n : Nat} {a r : Nat → Int32} (h : RS B n a r) : vw a 0 0 = nI n := h.2.1.2.1
theorem sum_rg {B : Int} {n w : Nat} {V : Nat → Nat → Int32} (h : Inv B n V) (hw : w = 14 ∨ w = 15) : ∀ k, k ≤ n → rg 0 k (sumw V w k)
  | 0, _ => ⟨by show (0 : Int) ≤ 0; omega, by show (0 : Int) ≤ 0; omega⟩
  | k + 1, hk => by
    have ih := sum_rg h hw k (by omega)
    have t : rg 0 1 (V (k + 1) w) := by
      have := h.2.2.2.1 k (by omega) w
      rcases hw with rfl | rfl <;> exact this
    have h24 := h.1
    simp only [sumw]
    have e : (sumw V w k + V (k + 1) w).toInt = (sumw V w k).toInt + (V (k + 1) w).toInt := i_add (by have := ih.1; have := t.1; omega) (by have := ih.2; have := t.2; omega)
    unfold rg
    rw [e]
    have := ih.1; have := ih.2; have := t.1; have := t.2
    omega
theorem wrg_le (V : Nat → Nat → Int32) : ∀ k, wrg V k ≤ k
  | 0 => Nat.le_refl _
  | k + 1 => by have := wrg_le V k; simp only [wrg]; split <;> omega
theorem rg_0 {lo hi : Int} {x : Int32} (h : rg lo hi x) (h0 : 0 ≤ lo) : ¬ x < 0 := by
  rw [Int32.lt_iff_toInt_lt]
  have := h.1
  have z : (0 : Int32).toInt = 0 := rfl
  omega
theorem rg_1 {lo hi : Int} {x : Int32} (h : rg lo hi x) (h0 : 1 ≤ lo) : ¬ x ≤ 0 := by
  rw [Int32.le_iff_toInt_le]
  have := h.1
  have z : (0 : Int32).toInt = 0 := rfl
  omega
theorem rg_ix {x : Int32} {h : Int} (hx : rg 0 h x) : ¬ x < 0 ∧ (x.toNatClampNeg : Int) = x.toInt := by
  refine ⟨rg_0 hx (by omega), ?_⟩
  obtain ⟨j, hj, rfl⟩ := nI_of (rg_0 hx (by omega))
  rw [nI_clamp hj, nI_toInt hj]
theorem roll_up {B : Int} {x : Int32} (h : rg 1 B x) (hB : B < 1000000) : rg 2 (B + 1) (x + 1) := by
  have o : (1 : Int32).toInt = 1 := rfl
  have e := i_add (a := x) (b := 1) (by rw [o]; have := h.1; omega) (by rw [o]; have := h.2; omega)
  unfold rg
  rw [e, o]
  have := h.1; have := h.2
  omega
theorem b01 {P : Prop} [Decidable P] : ¬ (if P then (1 : Int32) else 0) < 0 := by split <;> decide
theorem m_done {o x : Int32} {b : Bool} {K : Int32 → Int32 → Prop} (hx : x = if b = true then 1 else 0) (k : K 1 (o + (if b = true then 0 else 1))) : xp_X5_done o x K := by
  unfold xp_X5_done
  cases b with
  | true => subst hx; exact ⟨fun c => absurd c (by decide), fun _ => k⟩
  | false => subst hx; exact ⟨fun _ => k, fun c => absurd rfl c⟩
theorem m_rc {T : Nat → Int32} {k p n : Nat} {B : Int} {out : Int32} {r : Nat → Int32} {K : Int32 → (Int32 × Int32 × (Nat → Int32)) → Prop} (hk : k ≤ 120) (hT : chR T k) (hp : p < k) (h : MS B n r) (hB : B < 999999)
    (k0 : (rc T k p).1 = false → K 0 (nI (rc T k p).2.1, out, r))
    (k1 : (rc T k p).1 = true → ∀ r', vm r' = (eff (rc T k p).2.2.1 (rc T k p).2.2.2.1 (rc T k p).2.2.2.2.1 (rc T k p).2.2.2.2.2 (n, vm r)).2.2 → MS (B + 1) (eff (rc T k p).2.2.1 (rc T k p).2.2.2.1 (rc T k p).2.2.2.2.1 (rc T k p).2.2.2.2.2 (n, vm r)).2.1 r' →
      K 1 (nI (rc T k p).2.1, out + (if (eff (rc T k p).2.2.1 (rc T k p).2.2.2.1 (rc T k p).2.2.2.2.1 (rc T k p).2.2.2.2.2 (n, vm r)).1 = true then 0 else 1), r')) : xp_X5_readCommand T (nI k) (nI p) out r K := by
  have h24 := h.n24
  have hn := h.n0
  have hI := h.inv
  have h1 : MS (B + 1) n r := h.mono (by omega)
  have V6 : rg 1 B (vm r 0 6) := hI.2.2.1 6
  have V8 : rg 1 B (vm r 0 8) := hI.2.2.1 8
  unfold xp_X5_readCommand
  refine ⟨vp_in_nI (by omega) (by omega), ?_⟩
  rw [nI_clamp (by omega), nI_1, nI_pred]
  have bad : T p ≠ 98 → T p ≠ 99 → T p ≠ 102 → T p ≠ 109 → T p ≠ 110 → T p ≠ 111 → T p ≠ 114 → T p ≠ 115 → T p ≠ 116 → T p ≠ 118 → K 0 (nI p, out, r) := by
    intro n1 n2 n3 n4 n5 n6 n7 n8 n9 n10
    have e : rc T k p = (false, p, T p, 0, 0, 0) := by
      unfold rc
      rw [if_neg n1, if_neg n2, if_neg (by rintro (q | q); exact n4 q; exact n9 q), if_neg (by rintro (q | q); exact n3 q; exact n6 q), if_neg n10, if_neg (by rintro (q | q | q); exact n5 q; exact n7 q; exact n8 q)]
    rw [e] at k0
    exact k0 rfl
  have one : T p = 110 ∨ T p = 114 ∨ T p = 115 → ∀ r', vm r' = (eff (T p) 0 0 0 (n, vm r)).2.2 → MS (B + 1) (eff (T p) 0 0 0 (n, vm r)).2.1 r' → K 1 (nI (p + 1), out + (if (eff (T p) 0 0 0 (n, vm r)).1 = true then 0 else 1), r') := by
    intro h
    have e : rc T k p = (true, p + 1, T p, 0, 0, 0) := by
      unfold rc
      rw [if_neg, if_neg, if_neg, if_neg, if_neg, if_pos h] <;> (intro q; rcases h with h | h | h <;> (rw [h] at q; revert q; decide))
    rw [e] at k1
    exact k1 rfl
  have film : T p = 109 ∨ T p = 116 → xp_X5_figures T (nI k) (nI (p + 1)) 0 3 1 120 (fun r30 u30 =>
      ((r30 = (-1 : Int32) → K (0 : Int32) (u30, out, r)) ∧ (¬ r30 = (-1 : Int32) →
        xp_X5_canShoot r (fun r32 =>
          ((r32 = 0 → xp_X5_readCommand_300 T (nI k) K u30 out r 0) ∧ (¬ r32 = 0 →
            ((¬ (T p) = 116 → xp_X5_readCommand_289 T (nI k) K u30 out r 0 r30) ∧ ((T p) = 116 → xp_X5_readCommand_289 T (nI k) K u30 out r 1 r30))))))) ) := by
    intro hc
    have e : rc T k p = ((fg T k 1 120 [100, 10, 1] (p + 1) 0).1, (fg T k 1 120 [100, 10, 1] (p + 1) 0).2.1, T p, 0, 0, (fg T k 1 120 [100, 10, 1] (p + 1) 0).2.2) := by
      unfold rc
      rw [if_neg (by rintro q; rw [q] at hc; revert hc; decide), if_neg (by rintro q; rw [q] at hc; revert hc; decide), if_pos hc]
    rw [e] at k0 k1
    refine m_figures (ws := [100, 10, 1]) hk hT (by decide) (by omega) (Or.inr ⟨rfl, rfl⟩) ?_
    have q3 := fun g => fg3 (T := T) (k := k) (p := p + 1) (lo := 1) (hi := 120) (L := 1) (H := 120) g rfl rfl
    generalize fg T k 1 120 [100, 10, 1] (p + 1) 0 = z at *
    cases hz : z.1 with
    | false => exact ⟨fun _ => k0 hz, fun c => absurd rfl c⟩
    | true =>
      have zr := q3 hz
      have k1' := k1 hz
      dsimp only at k1'
      rw [eff_film hc] at k1'
      have o1 : (1 : Int32).toInt = 1 := rfl
      have o2 : (120 : Int32).toInt = 120 := rfl
      have zl : 1 ≤ z.2.2 ∧ z.2.2 ≤ 120 := by rw [Int32.le_iff_toInt_le, Int32.le_iff_toInt_le, o1, o2]; exact zr
      refine ⟨fun c => absurd c (rg_ne zr (by omega)), fun _ => m_canShoot hn h24 ?_⟩
      dsimp only at k1'
      by_cases d : n < 24 ∧ (0 : Int32) < vm r 0 12 - vm r 0 7
      · rw [if_pos d]
        rw [if_pos ⟨zl, d⟩] at k1'
        have vl := vlen_rg hI zl.1 zl.2 d.2
        have go : ∀ b : Int32, b = (if T p = 116 then 1 else 0) → xp_X5_readCommand_289 T (nI k) K (nI z.2.1) out r b z.2.2 := by
          intro b hb
          subst hb
          unfold xp_X5_readCommand_289
          refine m_shootOn hn d.1 h.f12 (rg_mono (by omega) (by omega) (show rg 1 99 (vm r 0 5) from hI.2.2.1 5)) (fun r' hr' hf => ?_)
          refine ⟨fun c => absurd c (rg_1 vl.1 (by omega)), fun _ => ?_⟩
          unfold xp_X5_readCommand_300
          refine m_done (b := true) rfl ⟨fun c => absurd c (by decide), fun _ => ?_⟩
          refine k1' r' hr' (RS.ms (a := ar r') ?_)
          refine rs_film (a := ar r) (h1 : RS (B + 1) n (ar r) r) d.1 (by omega) vl.1 (by rw [ar_vw]; exact vl.2) (fun g => by rw [ar_vw]; exact vhas_rg hI g) (by rw [ar_vw, ar_vw]; exact hr') hr' hf
        exact ⟨fun c => absurd c (by decide), fun _ => ⟨fun g => go 0 (by rw [if_neg g]), fun g => go 1 (by rw [if_pos g])⟩⟩
      · rw [if_neg d]
        rw [if_neg (fun q => d q.2)] at k1'
        refine ⟨fun _ => ?_, fun c => absurd rfl c⟩
        unfold xp_X5_readCommand_300
        exact m_done (b := false) rfl ⟨fun c => absurd c (by decide), fun _ => k1' r rfl h1⟩
  have mark : T p = 102 ∨ T p = 111 → xp_X5_figures T (nI k) (nI (p + 1)) 0 2 0 23 (fun r18 u18 =>
      ((r18 = (-1 : Int32) → K (0 : Int32) (u18, out, r)) ∧ (¬ r18 = (-1 : Int32) →
        xp_X5_isTake r r18 (fun r20 =>
          ((r20 = 0 → xp_X5_readCommand_397 T (nI k) K u18 out r 0) ∧ (¬ r20 = 0 →
            ((¬ (T p) = 102 → xp_X5_readCommand_385 T (nI k) K u18 out r 13 r18) ∧ ((T p) = 102 → xp_X5_readCommand_385 T (nI k) K u18 out r 14 r18))))))) ) := by
    intro hc
    have e : rc T k p = ((fg T k 0 23 [10, 1] (p + 1) 0).1, (fg T k 0 23 [10, 1] (p + 1) 0).2.1, T p, 0, 0, (fg T k 0 23 [10, 1] (p + 1) 0).2.2) := by
      unfold rc
      rw [if_neg (by rintro q; rw [q] at hc; revert hc; decide), if_neg (by rintro q; rw [q] at hc; revert hc; decide), if_neg (by rintro (q | q) <;> (rw [q] at hc; revert hc; decide)), if_pos hc]
    rw [e] at k0 k1
    refine m_figures (ws := [10, 1]) hk hT (by decide) (by omega) (Or.inl ⟨rfl, rfl⟩) ?_
    have q2 := fun g => fg2 (T := T) (k := k) (p := p + 1) (lo := 0) (hi := 23) (L := 0) (H := 23) g rfl rfl
    generalize fg T k 0 23 [10, 1] (p + 1) 0 = z at *
    cases hz : z.1 with
    | false => exact ⟨fun _ => k0 hz, fun c => absurd rfl c⟩
    | true =>
      have zr := q2 hz
      have k1' := k1 hz
      dsimp only at k1'
      refine ⟨fun c => absurd c (rg_ne zr (by omega)), fun _ => m_isTake hn h24 (fun i hi hx => ⟨fun c => absurd c (by decide), fun _ => ?_⟩) (fun g => ⟨fun _ => ?_, fun c => absurd rfl c⟩)⟩
      · have iq := ix_nI (x := z.2.2) (by omega) hx
        have go : ∀ (y : Int32) (zz w : Nat), y = nI zz → w = zz + 1 → (zz = 13 ∨ zz = 14) → eff (T p) 0 0 z.2.2 (n, vm r) = (true, n, aMark (vm r) i w 1) → xp_X5_readCommand_385 T (nI k) K (nI z.2.1) out r y z.2.2 := by
          intro y zz w hy hw hzz he
          rw [he] at k1'
          unfold xp_X5_readCommand_385
          refine m_markOn hn h24 hi hx hy hw hzz (fun r' hr' hf => ?_)
          rw [if_neg (by decide : ¬ (1 : Int32) = 0)] at hr'
          have ms : MS (B + 1) n r' := RS.ms (a := ar r') (rs_mark (a := ar r) (i := i) (w := w) (x := 1) (h1 : RS (B + 1) n (ar r) r) (by omega) ⟨by decide, by decide⟩ (by rw [ar_vw, ar_vw]; exact hr') hr' hf)
          have nn : ¬ (if zz = 13 then sumw (aMark (vm r) i w (if (1 : Int32) = 0 then 0 else 1)) 14 n else nI (wrg (aMark (vm r) i w (if (1 : Int32) = 0 then 0 else 1)) n)) < 0 := by
            rw [if_neg (by decide : ¬ (1 : Int32) = 0)]
            split
            · have := ms.inv
              rw [hr'] at this
              exact rg_0 (sum_rg this (Or.inl rfl) n (Nat.le_refl n)) (by omega)
            · have := wrg_le (aMark (vm r) i w 1) n
              exact nI_pos (by omega)
          refine ⟨fun c => absurd c nn, fun _ => ?_⟩
          unfold xp_X5_readCommand_397
          exact m_done (b := true) rfl ⟨fun c => absurd c (by decide), fun _ => k1' r' hr' ms⟩
        refine ⟨fun g => ?_, fun g => ?_⟩
        · have h111 : T p = 111 := by rcases hc with q | q; exact absurd q g; exact q
          exact go 13 13 14 rfl rfl (Or.inl rfl) (by rw [h111, eff_111, if_pos ⟨iq.1, by rw [iq.2]; exact hi⟩, iq.2])
        · exact go 14 14 15 rfl rfl (Or.inr rfl) (by rw [g, eff_102, if_pos ⟨iq.1, by rw [iq.2]; exact hi⟩, iq.2])
      · have he : eff (T p) 0 0 z.2.2 (n, vm r) = (false, (n, vm r)) := by
          have g' : z.2.2 < 0 ∨ nI n ≤ z.2.2 := g
          have q := ix_no h24 g'
          rcases hc with c | c
          · rw [c, eff_102, if_neg q]
          · rw [c, eff_111, if_neg q]
        rw [he] at k1'
        unfold xp_X5_readCommand_397
        exact m_done (b := false) rfl ⟨fun c => absurd c (by decide), fun _ => k1' r rfl h1⟩
  have B' : ∀ q : Int32, T p = q → (q ≠ 98 ∧ q ≠ 99 ∧ q ≠ 102 ∧ q ≠ 109 ∧ q ≠ 110 ∧ q ≠ 111 ∧ q ≠ 114 ∧ q ≠ 115 ∧ q ≠ 116 ∧ q ≠ 118) → K 0 (nI p, out, r) := by
    rintro q rfl ⟨n1, n2, n3, n4, n5, n6, n7, n8, n9, n10⟩
    exact bad n1 n2 n3 n4 n5 n6 n7 n8 n9 n10
  refine ⟨fun hc => ?_, fun n98 => ⟨fun hc => ?_, fun n99 => ⟨fun hc => B' _ hc (by decide), fun n100 => ⟨fun hc => B' _ hc (by decide), fun n101 => ⟨fun hc => mark (Or.inl hc), fun n102 => ⟨fun hc => B' _ hc (by decide), fun n103 => ⟨fun hc => B' _ hc (by decide), fun n104 => ⟨fun hc => B' _ hc (by decide), fun n105 => ⟨fun hc => B' _ hc (by decide), fun n106 => ⟨fun hc => B' _ hc (by decide), fun n107 => ⟨fun hc => B' _ hc (by decide), fun n108 => ⟨fun hc => film (Or.inl hc), fun n109 => ⟨fun hc => ?_, fun n110 => ⟨fun hc => mark (Or.inr hc), fun n111 => ⟨fun hc => B' _ hc (by decide), fun n112 => ⟨fun hc => B' _ hc (by decide), fun n113 => ⟨fun hc => ?_, fun n114 => ⟨fun hc => ?_, fun n115 => ⟨fun hc => film (Or.inr hc), fun n116 => ⟨fun hc => B' _ hc (by decide), fun n117 => ⟨fun hc => ?_, fun n118 => bad n98 n99 n102 n109 n110 n111 n114 n115 n116 n118⟩⟩⟩⟩⟩⟩⟩⟩⟩⟩⟩⟩⟩⟩⟩⟩⟩⟩⟩⟩⟩
  -- 98
  · refine m_figures (ws := [10, 1]) hk hT (by decide) (by omega) (Or.inl ⟨rfl, rfl⟩) ?_
    have b1 := (fg_end (T := T) (k := k) (lo := 1) (hi := 99) [10, 1] (p + 1) 0).2.1
    rw [show [(10 : Int32), 1].length = 2 from rfl] at b1
    cases q1 : (fg T k 1 99 [10, 1] (p + 1) 0).1 with
    | false =>
      have e : rc T k p = (false, (fg T k 1 99 [10, 1] (p + 1) 0).2.1, T p, 0, 0, 0) := by unfold rc; rw [if_pos hc, if_neg (by rw [q1]; decide)]
      rw [e] at k0
      exact m_letter0 rfl hk (by omega) (m_figures0 ⟨fun _ => k0 rfl, fun c => absurd rfl c⟩)
    | true =>
      have s1 := fg2 q1 (L := 1) (H := 99) rfl rfl
      refine m_letter hk hT (rg_ne s1 (by omega)) (by omega) ?_
      have b2 := (lt_end (T := T) (k := k) (p := (fg T k 1 99 [10, 1] (p + 1) 0).2.1)).2.1
      cases q2 : (lt T k (fg T k 1 99 [10, 1] (p + 1) 0).2.1).1 with
      | false =>
        have e : rc T k p = (false, (lt T k (fg T k 1 99 [10, 1] (p + 1) 0).2.1).2.1, T p, 0, 0, 0) := by unfold rc; rw [if_pos hc, if_pos q1, if_neg (by rw [q2]; decide)]
        rw [e] at k0
        exact m_figures0 ⟨fun _ => k0 rfl, fun c => absurd rfl c⟩
      | true =>
        have s2 := lt_rg hT q2
        refine m_figures (ws := [10, 1]) hk hT (rg_ne s2 (by omega)) (by omega) (Or.inl ⟨rfl, rfl⟩) ?_
        have e : rc T k p = ((fg T k 1 99 [10, 1] (lt T k (fg T k 1 99 [10, 1] (p + 1) 0).2.1).2.1 0).1, (fg T k 1 99 [10, 1] (lt T k (fg T k 1 99 [10, 1] (p + 1) 0).2.1).2.1 0).2.1, T p, (fg T k 1 99 [10, 1] (p + 1) 0).2.2, (lt T k (fg T k 1 99 [10, 1] (p + 1) 0).2.1).2.2, (fg T k 1 99 [10, 1] (lt T k (fg T k 1 99 [10, 1] (p + 1) 0).2.1).2.1 0).2.2) := by
          unfold rc; rw [if_pos hc, if_pos q1, if_pos q2]
        rw [e] at k0 k1
        cases q3 : (fg T k 1 99 [10, 1] (lt T k (fg T k 1 99 [10, 1] (p + 1) 0).2.1).2.1 0).1 with
        | false => exact ⟨fun _ => k0 q3, fun c => absurd rfl c⟩
        | true =>
          have s3 := fg2 q3 (L := 1) (H := 99) rfl rfl
          have k1' := k1 q3
          dsimp only at k1'
          rw [hc, eff_98] at k1'
          refine ⟨fun c => absurd c (rg_ne s3 (by omega)), fun _ => m_boardOn hn h24 (fun r' hr' hf _ => ⟨fun c => ?_, fun _ => ?_⟩)⟩
          · exact absurd c b01
          · unfold xp_X5_readCommand_224
            exact m_done (b := true) rfl ⟨fun c => absurd c (by decide), fun _ => k1' r' hr' (RS.ms (a := ar r') (rs_write (a := ar r) h1 s1 s2 s3 (by rw [ar_vw, ar_vw]; exact hr') hr' hf))⟩
  -- 99
  · refine m_figures (ws := [10, 1]) hk hT (by decide) (by omega) (Or.inl ⟨rfl, rfl⟩) ?_
    have b1 := (fg_end (T := T) (k := k) (lo := 1) (hi := 99) [10, 1] (p + 1) 0).2.1
    rw [show [(10 : Int32), 1].length = 2 from rfl] at b1
    cases q1 : (fg T k 1 99 [10, 1] (p + 1) 0).1 with
    | false =>
      have e : rc T k p = (false, (fg T k 1 99 [10, 1] (p + 1) 0).2.1, T p, 0, 0, 0) := by unfold rc; rw [if_neg n98, if_pos hc, if_neg (by rw [q1]; decide)]
      rw [e] at k0
      exact m_letter0 rfl hk (by omega) ⟨fun _ => k0 rfl, fun c => absurd rfl c⟩
    | true =>
      have s1 := fg2 q1 (L := 1) (H := 99) rfl rfl
      refine m_letter hk hT (rg_ne s1 (by omega)) (by omega) ?_
      have e : rc T k p = ((lt T k (fg T k 1 99 [10, 1] (p + 1) 0).2.1).1, (lt T k (fg T k 1 99 [10, 1] (p + 1) 0).2.1).2.1, T p, (fg T k 1 99 [10, 1] (p + 1) 0).2.2, (lt T k (fg T k 1 99 [10, 1] (p + 1) 0).2.1).2.2, 0) := by unfold rc; rw [if_neg n98, if_pos hc, if_pos q1]
      rw [e] at k0 k1
      cases q2 : (lt T k (fg T k 1 99 [10, 1] (p + 1) 0).2.1).1 with
      | false => exact ⟨fun _ => k0 q2, fun c => absurd rfl c⟩
      | true =>
        have s2 := lt_rg hT q2
        have k1' := k1 q2
        dsimp only at k1'
        rw [hc, eff_99] at k1'
        refine ⟨fun c => absurd c (rg_ne s2 (by omega)), fun _ => m_callOn hn h24 (fun r' hr' hf => ⟨fun c => ?_, fun _ => ?_⟩)⟩
        · have := nno_rg (V := aMean (vm r) (fg T k 1 99 [10, 1] (p + 1) 0).2.2 (lt T k (fg T k 1 99 [10, 1] (p + 1) 0).2.1).2.2) h24
          exact absurd c (rg_1 this (by omega))
        · unfold xp_X5_readCommand_159
          exact m_done (b := true) rfl ⟨fun c => absurd c (by decide), fun _ => k1' r' hr' (RS.ms (a := ar r') (rs_mean (a := ar r) h1 s1 s2 (by rw [ar_vw, ar_vw]; exact hr') hr' hf))⟩
  -- 110
  · have k1' := one (Or.inl hc)
    rw [hc, eff_110] at k1'
    refine m_newCameraOn (fun r' hr' hf => ⟨fun c => absurd c (rg_1 (roll_up V6 (by omega)) (by omega)), fun _ => m_done (b := true) rfl ⟨rfl, k1' r' hr' (RS.ms (a := ar r') (rs_cam (a := ar r) (h : RS B n (ar r) r) (by omega) (by rw [ar_vw, ar_vw]; exact hr') hr' hf))⟩⟩)
  -- 114
  · have k1' := one (Or.inr (Or.inl hc))
    rw [hc, eff_114] at k1'
    have s1 : rg 1 99 (vm r 0 1) := hI.2.2.1 1
    have s2 : rg 0 25 (vm r 0 2) := hI.2.2.1 2
    refine m_rightOn hn h24 (fun r' hr' hf => ⟨fun c => absurd c (rg_1 (nno_rg h24) (by omega)), fun _ => m_done (b := true) rfl ⟨rfl, k1' r' hr' (RS.ms (a := ar r') (rs_write (a := ar r) h1 s1 s2 (nno_rg h24) (by rw [ar_vw, ar_vw]; exact hr') hr' hf))⟩⟩)
  -- 115
  · have k1' := one (Or.inr (Or.inr hc))
    rw [hc, eff_115] at k1'
    refine m_newSoundOn (fun r' hr' hf => ⟨fun c => absurd c (rg_1 (roll_up V8 (by omega)) (by omega)), fun _ => m_done (b := true) rfl ⟨rfl, k1' r' hr' (RS.ms (a := ar r') (rs_snd (a := ar r) (h : RS B n (ar r) r) (by omega) (by rw [ar_vw, ar_vw]; exact hr') hr' hf))⟩⟩)
  -- 118
  · have e : rc T k p = ((fg T k 0 99 [10, 1] (p + 1) 0).1, (fg T k 0 99 [10, 1] (p + 1) 0).2.1, T p, 0, 0, (fg T k 0 99 [10, 1] (p + 1) 0).2.2) := by
      unfold rc
      rw [if_neg n98, if_neg n99, if_neg (by rw [hc]; decide), if_neg (by rw [hc]; decide), if_pos hc]
    rw [e] at k0 k1
    refine m_figures (ws := [10, 1]) hk hT (by decide) (by omega) (Or.inl ⟨rfl, rfl⟩) ?_
    unfold xp_X5_readCommand_432
    cases q1 : (fg T k 0 99 [10, 1] (p + 1) 0).1 with
    | false => exact ⟨fun _ => ⟨fun _ => k0 q1, fun c => absurd rfl c⟩, fun c => absurd rfl c⟩
    | true =>
      have s1 := fg2 q1 (L := 0) (H := 99) rfl rfl
      have k1' := k1 q1
      dsimp only at k1'
      rw [hc, eff_off (by decide)] at k1'
      have nm := rg_ne s1 (by omega)
      refine ⟨fun c => absurd c nm, fun _ => ⟨fun c => absurd c nm, fun _ => ?_⟩⟩
      have hr' : vm (upd r 11 ((fg T k 0 99 [10, 1] (p + 1) 0).2.2 - 50)) = aOff (vm r) ((fg T k 0 99 [10, 1] (p + 1) 0).2.2 - 50) := w0 (by omega)
      have o50 : (50 : Int32).toInt = 50 := rfl
      have s5 : rg (-99) 99 ((fg T k 0 99 [10, 1] (p + 1) 0).2.2 - 50) := by
        unfold rg
        rw [i_sub (by rw [o50]; have := s1.1; omega) (by rw [o50]; have := s1.2; omega), o50]
        have := s1.1; have := s1.2
        omega
      have := k1' _ hr' (RS.ms (a := ar (upd r 11 ((fg T k 0 99 [10, 1] (p + 1) 0).2.2 - 50))) (rs_off (a := ar r) h1 s5 (by rw [ar_vw, ar_vw]; exact hr') hr' rfl))
      rw [if_pos rfl, Int32.add_zero] at this
      exact this
