/-! ===== simulations ===== -/
def lcg (y : Int64) : Int64 := (y * 6364136223846793005) + 1442695040888963407
theorem lcg_e (y : Int64) : (y * 6364136223846793005) + 1442695040888963407 = lcg y := by
  rw [lcg]
theorem s4_end {now : Nat → Int32} {K : Int32 → ((Nat → Int32)) → Prop} {KX : String → ((Nat → Int32)) → Prop} {n : Nat} {cp : Nat → Int32} {v3 v6 : Int32} {y : Int64} (h : v3 ≤ v6) (k : xp_X3_wrongSlates cp (fun r2 => xp_X3_unlikeSounds cp (fun r3 => K ((1000 * r2) + r3) cp))) : xp_X4_simulate_39 now K KX (n + 1) cp v3 y v6 := by
  rw [xp_X4_simulate_39]
  exact ⟨fun _ => k, fun c => absurd h c⟩
theorem s4_go {now : Nat → Int32} {K : Int32 → ((Nat → Int32)) → Prop} {KX : String → ((Nat → Int32)) → Prop} {n : Nat} {cp : Nat → Int32} {v3 v6 : Int32} {y : Int64} (h : ¬ v3 ≤ v6) (k : xp_X4_doTurn cp (dr (lcg y)) (fun u4 => xp_X4_simulate_39 now K KX n u4 v3 (lcg y) (v6 + 1))) : xp_X4_simulate_39 now K KX (n + 1) cp v3 y v6 := by
  rw [xp_X4_simulate_39]
  rw [dr] at k
  rw [lcg_e]
  exact ⟨fun c => absurd c h, fun _ => k⟩
theorem s5_end {now : Nat → Int32} {K : Int32 → (Int32 × (Nat → Int32)) → Prop} {n : Nat} {f : Int32} {cp : Nat → Int32} {v3 v6 : Int32} {y : Int64} (h : v3 ≤ v6) (k : xp_X5_wrong cp (fun r2 => xp_X5_astray cp (fun r3 => K ((1000 * r2) + r3) (f, cp)))) : xp_X5_simulate_45 now K (n + 1) f cp v3 y v6 := by
  rw [xp_X5_simulate_45]
  exact ⟨fun _ => k, fun c => absurd h c⟩
theorem s5_go {now : Nat → Int32} {K : Int32 → (Int32 × (Nat → Int32)) → Prop} {n : Nat} {f : Int32} {cp : Nat → Int32} {v3 v6 : Int32} {y : Int64} (h : ¬ v3 ≤ v6) (k : xp_X5_turn cp (dr (lcg y)) (fun u4 => xp_X5_simulate_45 now K n f u4 v3 (lcg y) (v6 + 1))) : xp_X5_simulate_45 now K (n + 1) f cp v3 y v6 := by
  rw [xp_X5_simulate_45]
  rw [dr] at k
  rw [lcg_e]
  exact ⟨fun c => absurd c h, fun _ => k⟩
/-- the turns of a simulation, one after another: L makes the next figure, D reads the turn off -/
def sf (L : Int64 → Int64) (D : Int64 → Int32) : Nat → Int64 → St → St
  | 0, _, q => q
  | d + 1, y, q => sf L D d (L y) (tn (D (L y)) q)
theorem sf_0 {L : Int64 → Int64} {D : Int64 → Int32} {y : Int64} {q : St} : sf L D 0 y q = q := by rw [sf]
theorem sf_s {L : Int64 → Int64} {D : Int64 → Int32} {d : Nat} {y : Int64} {q : St} : sf L D (d + 1) y q = sf L D d (L y) (tn (D (L y)) q) := by rw [sf]
def sfa (q : St) : Int32 := 1000 * nI (wrg q.2 q.1) + nI (unl q.2 q.1 q.1)
theorem e_sim {L : Int64 → Int64} {D : Int64 → Int32} {P : Nat → (Nat → Int32) → Int32 → Int64 → Int32 → Prop} {m : Nat} {K : Int32 → ((Nat → Int32)) → Prop}
    (hend : ∀ n cp y v6, nI m ≤ v6 → xp_X3_wrongSlates cp (fun r2 => xp_X3_unlikeSounds cp (fun r3 => K ((1000 * r2) + r3) cp)) → P (n + 1) cp (nI m) y v6)
    (hgo : ∀ n cp y v6, ¬ nI m ≤ v6 → xp_X4_doTurn cp (D (L y)) (fun u4 => P n u4 (nI m) (L y) (v6 + 1)) → P (n + 1) cp (nI m) y v6)
    (hm : m ≤ 80) (d : Nat) : ∀ (i n : Nat) (y : Int64) (cp : Nat → Int32), i + d = m → vw cp 0 0 = nI n → n ≤ 24 → (∀ cp', K (sfa (sf L D d y (n, vw cp))) cp') → P (d + 1) cp (nI m) y (nI i) := by
  induction d with
  | zero =>
    intro i n y cp hi hn h24 k
    rw [sf_0] at k
    exact hend _ _ _ _ (nI_le (by omega) (by omega)) (e_wrongSlates hn h24 (e_unlikeSounds hn h24 (k cp)))
  | succ d ih =>
    intro i n y cp hi hn h24 k
    rw [sf_s] at k
    refine hgo _ _ _ _ (fun c => absurd c (nI_ge (by omega) (by omega))) ?_
    generalize L y = y' at *
    generalize D y' = x at *
    refine e_turn hn h24 (fun a' ha => ?_)
    have z := tn_n0 (x := x) hn h24
    have ha' : vw a' = (tn x (n, vw cp)).2 := ha
    rw [← ha'] at z
    have e : tn x (n, vw cp) = ((tn x (n, vw cp)).1, vw a') := by rw [ha']
    rw [e] at k
    rw [nI_1]
    exact ih (i + 1) _ _ a' (by omega) z.1 z.2 k
theorem m_sim {L : Int64 → Int64} {D : Int64 → Int32} {P : Nat → Int32 → (Nat → Int32) → Int32 → Int64 → Int32 → Prop} {m : Nat} {K : Int32 → (Int32 × (Nat → Int32)) → Prop}
    (hend : ∀ n f cp y v6, nI m ≤ v6 → xp_X5_wrong cp (fun r2 => xp_X5_astray cp (fun r3 => K ((1000 * r2) + r3) (f, cp))) → P (n + 1) f cp (nI m) y v6)
    (hgo : ∀ n f cp y v6, ¬ nI m ≤ v6 → xp_X5_turn cp (D (L y)) (fun u4 => P n f u4 (nI m) (L y) (v6 + 1)) → P (n + 1) f cp (nI m) y v6)
    (hD : ∀ y, ∃ X, X < 2147483648 ∧ D y = nI X)
    (hm : m ≤ 80) (d : Nat) : ∀ (i n : Nat) (B : Int) (y : Int64) (r : Nat → Int32), i + d = m → MS B n r → B + d < 999999 → (∀ r', K (sfa (sf L D d y (n, vm r))) (0, r')) → P (d + 1) 0 r (nI m) y (nI i) := by
  induction d with
  | zero =>
    intro i n B y r hi h hB k
    rw [sf_0] at k
    exact hend _ _ _ _ _ (nI_le (by omega) (by omega)) (m_wrong h.n0 h.n24 (m_astray h.n0 h.n24 h.inv.okO (k r)))
  | succ d ih =>
    intro i n B y r hi h hB k
    rw [sf_s] at k
    refine hgo _ _ _ _ _ (fun c => absurd c (nI_ge (by omega) (by omega))) ?_
    generalize L y = y' at *
    obtain ⟨X, hX, hx⟩ := hD y'
    generalize D y' = x at *
    refine m_turn h (by omega) hX hx (fun r' hr ms => ?_)
    have hr' : vm r' = (tn x (n, vm r)).2 := hr
    have ms' : MS (B + 1) (tn x (n, vm r)).1 r' := ms
    have e : tn x (n, vm r) = ((tn x (n, vm r)).1, vm r') := by rw [hr']
    rw [e] at k
    rw [nI_1]
    exact ih (i + 1) _ (B + 1) _ r' (by omega) ms' (by omega) k
theorem r_1799 {xs : Nat → Int32} {L : Nat} {X : SX → SM → (Nat → Int64) → Int32 → Prop} {sx : SX} {sm : SM} {out : Nat → Int64} {v4 : Int32} {B : Int} (hR : RR B sx sm) (hB : B < 900000) (h1 : vp_in (v4 + 1) L) (h2 : vp_in (v4 + 2) L) (h3 : vp_in (v4 + 3) L) (hX : ∀ sx' sm' out', RR (B + 1) sx' sm' → X sx' sm' out' (v4 + 5)) : xp_L_law_1799 xs L X sx sm out v4 := by
  obtain ⟨⟨n, S⟩, hT, hD, hK⟩ := hR
  have S' := S.mono (B' := B + 1) (by omega)
  have D' := hD.mono (B' := B + 1) (by omega)
  have K' := hK.mono (B' := B + 1) (by omega)
  unfold xp_L_law_1799 xp_L_simulate xp_X4_simulate xp_X4_simulate_11 xp_X5_simulate xp_X5_simulate_18
  generalize ((((xs (v4 + 1).toNatClampNeg).toInt64) <<< ((32 : Int32).toInt64 &&& 63)) ||| (((xs (v4 + 2).toNatClampNeg).toInt64) &&& 4294967295)) = y
  generalize xs (v4 + 3).toNatClampNeg = x
  have o : (1 : Int32).toInt = 1 := rfl
  have o8 : (80 : Int32).toInt = 80 := rfl
  refine ⟨h1, h2, h3, ?_⟩
  by_cases hx : 1 ≤ x ∧ x ≤ 80
  · obtain ⟨e, hb⟩ := rg_nv (rg_mono (show (0 : Int) ≤ 1 by omega) (Int.le_refl 80) ((i_le o o8).mp hx))
    generalize x.toNatClampNeg = m at *
    subst e
    have hm : m ≤ 80 := by omega
    refine ⟨fun c => absurd c (Int32.not_lt.mpr hx.1), fun _ => ⟨fun _ => e_copyFrom (fun cp hcp => ⟨m + 1, ?_⟩), fun c => absurd hx.2 c⟩⟩
    refine e_sim (L := lcg) (D := dr) (P := fun n9 cp v3 y v6 => xp_X4_simulate_39 sx.1 _ _ n9 cp v3 y v6) (fun _ _ _ _ => s4_end) (fun _ _ _ _ => s4_go) hm m 0 n y cp (by omega) (by rw [hcp]; exact S.n0) S.n24 (fun cp' => ⟨h1, h2, h3, m_inI (lo := 1) (hi := 80) rfl rfl ?_⟩)
    rw [if_pos hx]
    refine ⟨fun q => absurd q (by decide), fun _ => m_ref0 ⟨fun _ => m_copy (p := 0) (q := 0) rfl rfl (by omega) (by omega) (by omega) (by omega) (fun u q1 q2 => ⟨m + 1, ?_⟩), fun q => absurd rfl q⟩⟩
    have q1' : ∀ j, j < 377 → u j = sm.2.2.2.1 j := fun j hj => by have := q1 j hj; rw [Nat.zero_add] at this; exact this
    have R : RS B n sx.1 u := rs_copy S rfl q1'
    refine m_sim (L := lcg) (D := dr) (P := fun n9 f cp v3 y v6 => xp_X5_simulate_45 sm.2.2.2.1 _ n9 f cp v3 y v6) (fun _ _ _ _ _ => s5_end) (fun _ _ _ _ _ => s5_go) dr_nI hm m 0 n B y u (by omega) R.ms (by omega) (fun r' => c_ok rfl ?_ (hX _ _ _ ⟨⟨n, S'⟩, hT, D', K'⟩))
    rw [hcp, R.1]; exact uL0 (f := out)
  · refine ⟨fun c => ⟨rfl, h1, h2, h3, m_inI (lo := 1) (hi := 80) rfl rfl ?_⟩, fun c => ⟨fun c1 => absurd ⟨Int32.not_lt.mp c, c1⟩ hx, fun c1 => ⟨rfl, h1, h2, h3, m_inI (lo := 1) (hi := 80) rfl rfl ?_⟩⟩⟩
    all_goals
      rw [if_neg hx]
      exact ⟨fun _ => m_ref1 ⟨fun q => absurd q (by decide), fun _ => c_th rfl (by decide) (hX _ _ _ ⟨⟨n, S'⟩, hT, D', K'⟩)⟩, fun q => absurd rfl q⟩
