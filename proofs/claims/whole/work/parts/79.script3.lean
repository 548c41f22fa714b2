theorem p10_lt {d : Nat} (h : d ≤ 3) : 100000 ^ d < 2 ^ 63 :=
  Nat.lt_of_le_of_lt (Nat.pow_le_pow_right (by decide) h) (by decide)
theorem p10_pos (d : Nat) : 0 < 100000 ^ d := Nat.pow_pos (by decide)
theorem l100 : (100000 : Int64) = lN 100000 := rfl
theorem e_wgL {j : Nat} {K : Int64 → Prop} (hj : j ≤ 3) (d : Nat) : ∀ i t : Nat, i + d = j → t < 2 ^ 63 → K (lN (t / 100000 ^ d)) → xp_X4_withoutGroups_5 K (d + 1) (nI j) (lN t) (nI i) := by
  induction d with
  | zero =>
    intro i t hi ht k
    rw [xp_X4_withoutGroups_5]
    rw [Nat.pow_zero, Nat.div_one] at k
    exact ⟨fun _ => k, fun c => absurd (nI_le (by omega) (by omega)) c⟩
  | succ d ih =>
    intro i t hi ht k
    rw [xp_X4_withoutGroups_5]
    refine ⟨fun c => absurd c (nI_ge (by omega) (by omega)), fun _ => ?_⟩
    rw [l100, pk_lDiv ht (by decide) (by decide), nI_1]
    refine ih (i + 1) _ (by omega) (Nat.lt_of_le_of_lt (Nat.div_le_self _ _) ht) ?_
    rw [Nat.div_div_eq_div_mul, Nat.mul_comm, ← Nat.pow_succ]
    exact k
theorem e_wg {s j : Nat} {K : Int64 → Prop} (hs : s < 2 ^ 63) (hj : j ≤ 3) (k : K (lN (s / 100000 ^ j))) : xp_X4_withoutGroups (lN s) (nI j) K :=
  ⟨j + 1, e_wgL hj j 0 s (by omega) hs k⟩
theorem grp {q : Nat} (h : q < 2 ^ 63) : (lN q - lN q / 100000 * 100000).toInt32 = nI (q % 100000) := by
  rw [l100, pk_lRem h (by decide) (by decide), lN_i]
def cmg (g : Nat) (q : St) : Bool × St := cm (g / 10000) (g / 100 % 100) (g % 100) (g / 1000 % 10) (g % 1000) q
/-- the answer of a script, d commands before its end -/
def rn (s j : Nat) : Nat → St → Int32
  | 0, _ => -1
  | d + 1, q => if (cmg (s / 100000 ^ d % 100000) q).1 = true then rn s j d (cmg (s / 100000 ^ d % 100000) q).2 else nI (j - (d + 1))
theorem rn_0 {s j : Nat} {q : St} : rn s j 0 q = -1 := by rw [rn]
theorem rn_s {s j d : Nat} {q : St} : rn s j (d + 1) q = if (cmg (s / 100000 ^ d % 100000) q).1 = true then rn s j d (cmg (s / 100000 ^ d % 100000) q).2 else nI (j - (d + 1)) := by rw [rn]
theorem e_run {now : Nat → Int32} {s j : Nat} {K : Int32 → ((Nat → Int32)) → Prop} {KX : String → ((Nat → Int32)) → Prop} (hs : s < 2 ^ 63) (hj : j ≤ 3) (d : Nat) : ∀ (i n : Nat) (cp : Nat → Int32), i + d = j → vw cp 0 0 = nI n → n ≤ 24 → (∀ cp', K (rn s j d (n, vw cp)) cp') → xp_X4_runScript_62 now K KX (d + 1) cp (nI j) (lN s) (nI i) := by
  induction d with
  | zero =>
    intro i n cp hi hn h24 k
    rw [rn_0] at k
    rw [xp_X4_runScript_62]
    exact ⟨fun _ => k cp, fun c => absurd (nI_le (by omega) (by omega)) c⟩
  | succ d ih =>
    intro i n cp hi hn h24 k
    rw [rn_s] at k
    rw [xp_X4_runScript_62]
    refine ⟨fun c => absurd c (nI_ge (by omega) (by omega)), fun _ => ?_⟩
    rw [show (1 : Int32) = nI 1 from rfl, pk_sub (by omega), pk_sub (by omega), show j - 1 - i = d by omega]
    refine e_wg hs (by omega) ?_
    have hq : s / 100000 ^ d < 2 ^ 63 := Nat.lt_of_le_of_lt (Nat.div_le_self _ _) hs
    generalize s / 100000 ^ d = q at *
    rw [grp hq]
    have hg : q % 100000 < 100000 := Nat.mod_lt _ (by decide)
    generalize q % 100000 = g at *
    have z := cm_n0 (c := g / 10000) (a := g / 100 % 100) (b := g % 100) (d := g / 1000 % 10) (m := g % 1000) hn h24
    refine e_cm hg rfl rfl rfl rfl rfl hn h24 (fun a' ha => ?_)
    have ha' : vw a' = (cmg g (n, vw cp)).2.2 := ha
    have z' : (cmg g (n, vw cp)).2.2 0 0 = nI (cmg g (n, vw cp)).2.1 ∧ (cmg g (n, vw cp)).2.1 ≤ 24 := z
    show ((¬ (if (cmg g (n, vw cp)).1 = true then (1 : Int32) else 0) = 0 → _) ∧ ((if (cmg g (n, vw cp)).1 = true then (1 : Int32) else 0) = 0 → _))
    by_cases w : (cmg g (n, vw cp)).1 = true
    · rw [if_pos w] at k ⊢
      refine ⟨fun _ => ?_, fun q => absurd q (by decide)⟩
      rw [nI_add]
      refine ih (i + 1) _ a' (by omega) (by rw [ha']; exact z'.1) z'.2 ?_
      rw [ha']
      exact k
    · rw [if_neg w] at k ⊢
      refine ⟨fun q => absurd rfl q, fun _ => ?_⟩
      rw [show j - (d + 1) = i by omega] at k
      exact k a'
theorem m_run {now : Nat → Int32} {s j : Nat} {K : Int32 → (Int32 × (Nat → Int32)) → Prop} (hs : s < 2 ^ 63) (hj : j ≤ 3) (d : Nat) : ∀ (i n : Nat) (B : Int) (r : Nat → Int32), i + d = j → MS B n r → B + d < 999999 → (∀ r', K (rn s j d (n, vm r)) (0, r')) → xp_X5_runScript_86 now K (d + 1) 0 r (nI j) (lN s) (lN (100000 ^ d)) (nI i) := by
  induction d with
  | zero =>
    intro i n B r hi h hB k
    rw [rn_0] at k
    rw [xp_X5_runScript_86]
    exact ⟨fun _ => k r, fun c => absurd (nI_le (by omega) (by omega)) c⟩
  | succ d ih =>
    intro i n B r hi h hB k
    rw [rn_s] at k
    rw [xp_X5_runScript_86]
    refine ⟨fun c => absurd c (nI_ge (by omega) (by omega)), fun _ => ?_⟩
    have e : lN (100000 ^ (d + 1)) / 100000 = lN (100000 ^ d) := by
      rw [l100, pk_lDiv (p10_lt (by omega)) (by decide) (by decide), Nat.pow_succ, Nat.mul_div_cancel _ (by decide)]
    rw [e, pk_lDiv hs (p10_pos d) (p10_lt (by omega))]
    refine ⟨fun c => absurd ((pk_lEQ (a := 100000 ^ d) (b := 0) (p10_lt (by omega)) (by decide)).mp c) (by have := p10_pos d; omega), ?_⟩
    have hq : s / 100000 ^ d < 2 ^ 63 := Nat.lt_of_le_of_lt (Nat.div_le_self _ _) hs
    have ih' := fun i n B r => ih i n B r
    generalize s / 100000 ^ d = q at k hq ⊢
    rw [grp hq]
    have hg : q % 100000 < 100000 := Nat.mod_lt _ (by decide)
    generalize q % 100000 = g at *
    rw [show (10000 : Int32) = nI 10000 from rfl, mod_n (by omega) (by omega), div_n (by omega) (by omega)]
    refine m_cm (a := g / 100 % 100) (b := g % 100) (d := g / 1000 % 10) (m := g % 1000) (Nat.mod_lt _ (by decide)) (by omega) (by omega) (by omega) (by omega) (by omega) h (by omega) (fun r' hr ms => ?_)
    have hr' : vm r' = (cmg g (n, vm r)).2.2 := hr
    have ms' : MS (B + 1) (cmg g (n, vm r)).2.1 r' := ms
    show ((¬ (if (cmg g (n, vm r)).1 = true then (1 : Int32) else 0) = 0 → _) ∧ ((if (cmg g (n, vm r)).1 = true then (1 : Int32) else 0) = 0 → _))
    by_cases w : (cmg g (n, vm r)).1 = true
    · rw [if_pos w] at k ⊢
      refine ⟨fun _ => ?_, fun q => absurd q (by decide)⟩
      rw [nI_1]
      refine ih (i + 1) _ (B + 1) r' (by omega) ms' (by omega) ?_
      rw [hr']
      exact k
    · rw [if_neg w] at k ⊢
      refine ⟨fun q => absurd rfl q, fun _ => ?_⟩
      rw [show j - (d + 1) = i by omega] at k
      exact k r'
theorem m_preX {now : Nat → Int32} {f : Int32} {tr : Nat → Int32} {x1 : Int32} {x2 : Int64} {K : Int32 → (Int32 × (Nat → Int32)) → Prop} (k : ∀ v4, xp_X5_runScript_32 now K f tr x1 x2 v4) : xp_X5_runScript now f tr x1 x2 K := by
  have go : ∀ (d i : Nat) (v4 : Int64), i + d = 3 → xp_X5_runScript_6 now K (d + 1) f tr x1 x2 v4 (nI i) := by
    intro d
    induction d with
    | zero =>
      intro i v4 hi
      rw [xp_X5_runScript_6]
      exact ⟨fun _ => k v4, fun _ => ⟨fun _ => k v4, fun c => absurd (nI_le (a := 3) (by omega) (by omega)) c⟩⟩
    | succ d ih =>
      intro i v4 hi
      rw [xp_X5_runScript_6]
      refine ⟨fun _ => k v4, fun _ => ⟨fun _ => k v4, fun _ => ?_⟩⟩
      rw [nI_1]
      exact ih (i + 1) _ (by omega)
  exact ⟨4, go 3 0 1 rfl⟩
theorem m_preJ {now : Nat → Int32} {f : Int32} {tr : Nat → Int32} {j : Nat} {x2 : Int64} {K : Int32 → (Int32 × (Nat → Int32)) → Prop} (hj : j ≤ 3) (k : xp_X5_runScript_32 now K f tr (nI j) x2 (lN (100000 ^ j))) : xp_X5_runScript now f tr (nI j) x2 K := by
  have go : ∀ (d i : Nat), i + d = j → xp_X5_runScript_6 now K (d + 1) f tr (nI j) x2 (lN (100000 ^ i)) (nI i) := by
    intro d
    induction d with
    | zero =>
      intro i hi
      rw [xp_X5_runScript_6]
      have e : i = j := by omega
      subst e
      exact ⟨fun _ => k, fun c => absurd (nI_le (by omega) (by omega)) c⟩
    | succ d ih =>
      intro i hi
      rw [xp_X5_runScript_6]
      refine ⟨fun c => absurd c (nI_ge (by omega) (by omega)), fun _ => ⟨fun c => absurd c (nI_ge (b := 3) (by omega) (by omega)), fun _ => ?_⟩⟩
      rw [nI_1, l100, lN_mul, ← Nat.pow_succ]
      exact ih (i + 1) (by omega)
  exact ⟨j + 1, go j 0 (by omega)⟩
theorem r_1699 {xs : Nat → Int32} {L : Nat} {X : SX → SM → (Nat → Int64) → Int32 → Prop} {sx : SX} {sm : SM} {out : Nat → Int64} {v4 : Int32} {B : Int} (hR : RR B sx sm) (hB : B < 900000) (h1 : vp_in (v4 + 1) L) (h2 : vp_in (v4 + 2) L) (h3 : vp_in (v4 + 3) L) (hX : ∀ sx' sm' out', RR (B + 1) sx' sm' → X sx' sm' out' (v4 + 5)) : xp_L_law_1699 xs L X sx sm out v4 := by
  obtain ⟨⟨n, S⟩, hT, hD, hK⟩ := hR
  have S' := S.mono (B' := B + 1) (by omega)
  have D' := hD.mono (B' := B + 1) (by omega)
  have K' := hK.mono (B' := B + 1) (by omega)
  unfold xp_L_law_1699 xp_L_runScript xp_X4_runScript xp_X4_runScript_10 xp_X4_runScript_37
  generalize ((((xs (v4 + 2).toNatClampNeg).toInt64) <<< ((32 : Int32).toInt64 &&& 63)) ||| (((xs (v4 + 3).toNatClampNeg).toInt64) &&& 4294967295)) = y
  generalize xs (v4 + 1).toNatClampNeg = x
  have o : (1 : Int32).toInt = 1 := rfl
  have o3 : (3 : Int32).toInt = 3 := rfl
  refine ⟨h1, h2, h3, ?_⟩
  by_cases hx : 1 ≤ x ∧ x ≤ 3
  · obtain ⟨e, hb⟩ := rg_nv (rg_mono (show (0 : Int) ≤ 1 by omega) (Int.le_refl 3) ((i_le o o3).mp hx))
    generalize x.toNatClampNeg = j at *
    subst e
    have hj : j ≤ 3 := by omega
    refine ⟨fun c => absurd c (Int32.not_lt.mpr hx.1), fun _ => ⟨fun _ => ?_, fun c => absurd hx.2 c⟩⟩
    have ref : (¬ (0 ≤ y ∧ y ≤ lN (100000 ^ j) - 1)) → ∀ (u : Nat → Int32) (uo : Nat → Int64) (K : Int32 → (Int32 × (Nat → Int32)) → Prop), K 0 (1, sm.2.2.2.2.1) → xp_X5_runScript sm.2.2.2.1 sm.1 sm.2.2.2.2.1 (nI j) y K := by
      intro hy u uo K k
      refine m_preJ hj (m_inI (lo := 1) (hi := 3) rfl rfl ?_)
      rw [if_pos hx]
      refine ⟨fun q => absurd q (by decide), fun _ => m_in ?_⟩
      rw [if_neg hy]
      exact ⟨fun _ => m_ref1 ⟨fun q => absurd q (by decide), fun _ => k⟩, fun q => absurd rfl q⟩
    refine ⟨fun c => ⟨rfl, h1, h2, h3, ref (fun q => ?_) sx.2.1 out _ (c_th rfl (by decide) (hX _ _ _ ⟨⟨n, S'⟩, hT, D', K'⟩))⟩, fun c => ?_⟩
    · exact absurd ((lg_cmp_lt _ _).mp c) (Int64.not_lt.mpr q.1)
    · obtain ⟨s, hs, hy⟩ := pk_lOf (x := y) (fun q => c ((lg_cmp_lt _ _).mpr q))
      subst hy
      refine e_wg hs hj ?_
      have hq : s / 100000 ^ j < 2 ^ 63 := Nat.lt_of_le_of_lt (Nat.div_le_self _ _) hs
      have hp := p10_pos j
      have hp2 := p10_lt hj
      have e1 : lN (100000 ^ j) - 1 = lN (100000 ^ j - 1) := lN_sub (b := 1) (by omega)
      have z0 : (0 : Int64) = lN 0 := rfl
      refine ⟨fun c1 => e_copyFrom (fun cp hcp => ⟨j + 1, ?_⟩), fun c1 => ⟨rfl, h1, h2, h3, ref (fun q => ?_) sx.2.1 out _ (c_th rfl (by decide) (hX _ _ _ ⟨⟨n, S'⟩, hT, D', K'⟩))⟩⟩
      · rw [lg_cmp_le, z0, pk_lLE hq (by decide)] at c1
        have hlt : s < 100000 ^ j := by
          rcases Nat.lt_or_ge s (100000 ^ j) with g | g
          · exact g
          · have := Nat.div_pos g hp
            omega
        refine e_run hs hj j 0 n cp (by omega) (by rw [hcp]; exact S.n0) S.n24 (fun cp' => ⟨h1, h2, h3, m_preJ hj (m_inI (lo := 1) (hi := 3) rfl rfl ?_)⟩)
        rw [if_pos hx]
        refine ⟨fun q => absurd q (by decide), fun _ => m_in ?_⟩
        rw [if_pos ⟨by rw [z0, pk_lLE (by decide) hs]; omega, by rw [e1, pk_lLE hs (by omega)]; omega⟩]
        refine ⟨fun q => absurd q (by decide), fun _ => m_ref0 ⟨fun _ => m_copy (p := 0) (q := 0) rfl rfl (by omega) (by omega) (by omega) (by omega) (fun u q1 q2 => ⟨j + 1, ?_⟩), fun q => absurd rfl q⟩⟩
        have q1' : ∀ i, i < 377 → u i = sm.2.2.2.1 i := fun i hi => by have := q1 i hi; rw [Nat.zero_add] at this; exact this
        have R : RS B n sx.1 u := rs_copy S rfl q1'
        refine m_run hs hj j 0 n B u (by omega) R.ms (by omega) (fun r' => c_ok rfl ?_ (hX _ _ _ ⟨⟨n, S'⟩, hT, D', K'⟩))
        rw [hcp, R.1]; exact uL0 (f := out)
      · apply c1
        rw [lg_cmp_le, z0, pk_lLE hq (by decide)]
        have q2 := q.2
        rw [e1, pk_lLE hs (by omega)] at q2
        rw [Nat.div_eq_of_lt (by omega)]
        omega
  · have ref : ∀ (K : Int32 → (Int32 × (Nat → Int32)) → Prop), K 0 (1, sm.2.2.2.2.1) → xp_X5_runScript sm.2.2.2.1 sm.1 sm.2.2.2.2.1 x y K := by
      intro K k
      refine m_preX (fun v4 => m_inI (lo := 1) (hi := 3) rfl rfl ?_)
      rw [if_neg hx]
      exact ⟨fun _ => m_ref1 ⟨fun q => absurd q (by decide), fun _ => k⟩, fun q => absurd rfl q⟩
    exact ⟨fun c => ⟨rfl, h1, h2, h3, ref _ (c_th rfl (by decide) (hX _ _ _ ⟨⟨n, S'⟩, hT, D', K'⟩))⟩, fun c => ⟨fun c1 => absurd ⟨Int32.not_lt.mp c, c1⟩ hx, fun c1 => ⟨rfl, h1, h2, h3, ref _ (c_th rfl (by decide) (hX _ _ _ ⟨⟨n, S'⟩, hT, D', K'⟩))⟩⟩⟩
