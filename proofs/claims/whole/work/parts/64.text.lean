/-! ===== a whole text ===== -/
/-- the run of a text from p on: where it is wrong (-1: nowhere), where reading ends, how many are left out, the state -/
def rt (T : Nat → Int32) (k : Nat) : Nat → Nat → Int32 → St → Int32 × Nat × Int32 × St
  | 0, p, o, q => (-1, p, o, q)
  | d + 1, p, o, q =>
    if p < k then
      (if (rc T k p).1 = true then rt T k d (rc T k p).2.1 (o + (if (eff (rc T k p).2.2.1 (rc T k p).2.2.2.1 (rc T k p).2.2.2.2.1 (rc T k p).2.2.2.2.2 q).1 = true then 0 else 1)) (eff (rc T k p).2.2.1 (rc T k p).2.2.2.1 (rc T k p).2.2.2.2.1 (rc T k p).2.2.2.2.2 q).2
      else (nI (rc T k p).2.1, (rc T k p).2.1, o, q))
    else (-1, p, o, q)
theorem rt_congr {T T' : Nat → Int32} {k : Nat} (h : ∀ j, j < k → T j = T' j) : ∀ d p o q, rt T k d p o q = rt T' k d p o q
  | 0, _, _, _ => rfl
  | d + 1, p, o, q => by
    unfold rt
    by_cases c : p < k
    · rw [rc_congr h c, rt_congr h d]
    · rw [if_neg c, if_neg c]
theorem rc_end {T : Nat → Int32} {k p : Nat} (hp : p < k) (h : (rc T k p).1 = true) : p < (rc T k p).2.1 ∧ (rc T k p).2.1 ≤ k := by
  unfold rc at h ⊢
  have f : ∀ {lo hi : Int32} {ws : List Int32}, (fg T k lo hi ws (p + 1) 0).1 = true → p < (fg T k lo hi ws (p + 1) 0).2.1 ∧ (fg T k lo hi ws (p + 1) 0).2.1 ≤ k := by
    intro lo hi ws g
    obtain ⟨a, _, c⟩ := fg_end (T := T) (k := k) (lo := lo) (hi := hi) ws (p + 1) 0
    exact ⟨by omega, c g (by omega)⟩
  split at h
  · rename_i c98
    rw [if_pos c98]
    split at h
    · rename_i g1
      rw [if_pos g1]
      split at h
      · rename_i g2
        rw [if_pos g2]
        have a := f g1
        obtain ⟨b1, _, b3⟩ := lt_end (T := T) (k := k) (p := (fg T k 1 99 [10, 1] (p + 1) 0).2.1)
        obtain ⟨d1, _, d3⟩ := fg_end (T := T) (k := k) (lo := 1) (hi := 99) [10, 1] (lt T k (fg T k 1 99 [10, 1] (p + 1) 0).2.1).2.1 0
        have b4 := b3 g2 a.2
        exact ⟨by show p < (fg T k 1 99 [10, 1] (lt T k (fg T k 1 99 [10, 1] (p + 1) 0).2.1).2.1 0).2.1; omega, d3 h b4⟩
      · exact absurd h Bool.false_ne_true
    · exact absurd h Bool.false_ne_true
  · rename_i c98
    rw [if_neg c98]
    split at h
    · rename_i c99
      rw [if_pos c99]
      split at h
      · rename_i g1
        rw [if_pos g1]
        have a := f g1
        obtain ⟨b1, _, b3⟩ := lt_end (T := T) (k := k) (p := (fg T k 1 99 [10, 1] (p + 1) 0).2.1)
        exact ⟨by show p < (lt T k (fg T k 1 99 [10, 1] (p + 1) 0).2.1).2.1; omega, b3 h a.2⟩
      · exact absurd h Bool.false_ne_true
    · rename_i c99
      rw [if_neg c99]
      split at h
      · rename_i c; rw [if_pos c]; exact f h
      · rename_i c; rw [if_neg c]
        split at h
        · rename_i c; rw [if_pos c]; exact f h
        · rename_i c; rw [if_neg c]
          split at h
          · rename_i c; rw [if_pos c]; exact f h
          · rename_i c; rw [if_neg c]
            split at h
            · rename_i c; rw [if_pos c]; exact ⟨by show p < p + 1; omega, by show p + 1 ≤ k; omega⟩
            · exact absurd h Bool.false_ne_true
theorem e_hasMore {k p : Nat} {K : Int32 → Prop} (hk : k ≤ 120) (hp : p ≤ 200) (k1 : p < k → K 1) (k0 : k ≤ p → K 0) : xp_X0_hasMore (nI k) (nI p) K := by
  unfold xp_X0_hasMore
  refine ⟨fun c => k0 ?_, fun c => k1 ?_⟩
  · rcases Nat.lt_or_ge p k with q | q
    · exact absurd c (nI_ge q (by omega))
    · exact q
  · rcases Nat.lt_or_ge p k with q | q
    · exact q
    · exact absurd (nI_le q (by omega)) c
theorem e_fe {T : Nat → Int32} {k : Nat} {K : Int32 → (Int32 × Int32 × Int32 × Int32 × Int32) → Prop} (hk : k ≤ 120) (hT : chR T k) : ∀ (d p v1 : Nat) (co sc le nu : Int32) (o : Int32) (q : St), k ≤ p + d → v1 + 1 ≤ p → p ≤ k → (∀ c s l m, K (rt T k d p o q).1 (nI (rt T k d p o q).2.1, c, s, l, m)) → xp_X0_firstError_14 T (nI k) K (d + 1) (nI p) co sc le nu (nI v1)
  | 0, p, v1, co, sc, le, nu, o, q, hd, hv, hp, kk => by
    rw [xp_X0_firstError_14]
    exact ⟨fun _ => kk _ _ _ _, fun _ => e_hasMore hk (by omega) (fun c => absurd c (by omega)) (fun _ => ⟨fun _ => kk _ _ _ _, fun c => absurd rfl c⟩)⟩
  | d + 1, p, v1, co, sc, le, nu, o, q, hd, hv, hp, kk => by
    rw [xp_X0_firstError_14]
    unfold rt at kk
    refine ⟨fun c => absurd c (nI_ge (b := 120) (by omega) (by omega)), fun _ => e_hasMore hk (by omega) (fun c => ⟨fun g => absurd g (by decide), fun _ => ?_⟩) (fun c => ⟨fun _ => ?_, fun g => absurd rfl g⟩)⟩
    · rw [if_pos c] at kk
      refine e_rc hk hT c (fun co' s l m hh => ?_)
      cases hr : (rc T k p).1 with
      | true =>
        rw [if_pos hr] at kk
        have en := rc_end c hr
        refine ⟨fun _ => ?_, fun g => absurd g (by decide)⟩
        rw [nI_1]
        exact e_fe hk hT d _ (v1 + 1) _ _ _ _ _ _ (by omega) (by omega) en.2 kk
      | false =>
        rw [if_neg (by rw [hr]; decide)] at kk
        exact ⟨fun g => absurd rfl g, fun _ => kk _ _ _ _⟩
    · rw [if_neg (by omega)] at kk
      exact kk _ _ _ _
/-- .. of the whole text -/
def rtx (T : Nat → Int32) (k : Nat) : Int32 × Nat × Int32 × St := if 0 < k ∧ T 0 = 84 then rt T k 120 1 0 (0, v0) else (0, 0, 0, (0, v0))
theorem rtx_congr {T T' : Nat → Int32} {k : Nat} (h : ∀ j, j < k → T j = T' j) : rtx T k = rtx T' k := by
  unfold rtx
  by_cases c : 0 < k
  · rw [h 0 c, rt_congr h]
  · rw [if_neg (fun q => c q.1), if_neg (fun q => c q.1)]
theorem e_start {T : Nat → Int32} {k : Nat} {at0 : Int32} {K : Int32 → Int32 → Prop} (hk : k ≤ 120) (k1 : 0 < k ∧ T 0 = 84 → K 1 (nI 1)) (k0 : ¬ (0 < k ∧ T 0 = 84) → K 0 (nI 0)) : xp_X0_startReading T (nI k) at0 K := by
  unfold xp_X0_startReading
  refine e_sign (p := 0) hk (fun g1 g2 g3 => ?_) (fun g => ⟨fun _ => k0 (fun q => g ⟨q.1, by rw [q.2]; decide, by rw [q.2]; decide⟩), fun c => absurd rfl c⟩) (by omega)
  have e : T 0 = 84 := Int32.le_antisymm g3 g2
  rw [e]
  exact ⟨fun c => absurd c (by decide), fun _ => k1 ⟨g1, e⟩⟩
theorem e_firstError {T : Nat → Int32} {k : Nat} {at0 co sc le nu : Int32} {K : Int32 → (Int32 × Int32 × Int32 × Int32 × Int32) → Prop} (hk : k ≤ 120) (hT : chR T k) (kk : ∀ c s l m, K (rtx T k).1 (nI (rtx T k).2.1, c, s, l, m)) : xp_X0_firstError T (nI k) at0 co sc le nu K := by
  unfold xp_X0_firstError
  unfold rtx at kk
  refine e_start hk (fun g => ⟨fun _ => ⟨120 + 1, ?_⟩, fun c => absurd c (by decide)⟩) (fun g => ⟨fun c => absurd rfl c, fun _ => ?_⟩)
  · rw [if_pos g] at kk
    exact e_fe hk hT 120 1 0 _ _ _ _ _ _ (by omega) (by omega) (by omega) kk
  · rw [if_neg g] at kk
    exact kk _ _ _ _
theorem m_rt {T : Nat → Int32} {k : Nat} {K : Int32 → (Int32 × Int32 × (Nat → Int32)) → Prop} (hk : k ≤ 120) (hT : chR T k) : ∀ (d p n : Nat) (B : Int) (o : Int32) (r : Nat → Int32), k ≤ p + d → p ≤ k → MS B n r → B + d < 999999 → (∀ r', vm r' = (rt T k d p o (n, vm r)).2.2.2.2 → MS (B + d) (rt T k d p o (n, vm r)).2.2.2.1 r' → K (rt T k d p o (n, vm r)).1 (nI (rt T k d p o (n, vm r)).2.1, (rt T k d p o (n, vm r)).2.2.1, r')) → xp_X5_readText_39 T (nI k) K (d + 1) (nI p) o r
  | 0, p, n, B, o, r, hd, hp, h, hB, kk => by
    rw [xp_X5_readText_39]
    exact ⟨fun _ => kk r rfl (h.mono (by omega)), fun c => absurd (nI_le (by omega) (by omega)) c⟩
  | d + 1, p, n, B, o, r, hd, hp, h, hB, kk => by
    rw [xp_X5_readText_39]
    unfold rt at kk
    refine ⟨fun c => ?_, fun c => ?_⟩
    · rw [if_neg (fun q => nI_ge q (by omega) c)] at kk
      exact kk r rfl (h.mono (by omega))
    · have hpk : p < k := by
        rcases Nat.lt_or_ge p k with q | q
        · exact q
        · exact absurd (nI_le q (by omega)) c
      rw [if_pos hpk] at kk
      refine m_rc hk hT hpk h (by omega) (fun hr => ⟨fun g => absurd rfl g, fun _ => ?_⟩) (fun hr r' hr' ms => ⟨fun _ => ?_, fun g => absurd g (by decide)⟩)
      · rw [if_neg (by rw [hr]; decide)] at kk
        exact kk r rfl (h.mono (by omega))
      · rw [if_pos hr] at kk
        have en := rc_end hpk hr
        have e : (eff (rc T k p).2.2.1 (rc T k p).2.2.2.1 (rc T k p).2.2.2.2.1 (rc T k p).2.2.2.2.2 (n, vm r)).2 = ((eff (rc T k p).2.2.1 (rc T k p).2.2.2.1 (rc T k p).2.2.2.2.1 (rc T k p).2.2.2.2.2 (n, vm r)).2.1, vm r') := by rw [hr']
        rw [e] at kk
        exact m_rt hk hT d _ _ (B + 1) _ r' (by omega) en.2 ms (by omega) (fun r'' h1 h2 => kk r'' h1 (h2.mono (by omega)))
theorem m_readText {T : Nat → Int32} {k : Nat} {sp o : Int32} {r : Nat → Int32} {K : Int32 → (Int32 × Int32 × (Nat → Int32)) → Prop} (hk : k ≤ 120) (hT : chR T k) (kk : ∀ r', vm r' = (rtx T k).2.2.2.2 → MS 121 (rtx T k).2.2.2.1 r' → K (rtx T k).1 (nI (rtx T k).2.1, (rtx T k).2.2.1, r')) : xp_X5_readText T (nI k) sp o r K := by
  unfold xp_X5_readText
  refine m_begin (fun r' hr' hf => ?_)
  have ms : MS 1 0 r' := rs_v0 (by omega) (by rw [ar_vw, hr']) hr' hf
  unfold rtx at kk
  refine ⟨fun c => ?_, fun c => ⟨fun g => ⟨120 + 1, ?_⟩, fun g => ?_⟩⟩
  · have : k = 0 := nI_inj (b := 0) (by omega) (by omega) c
    rw [if_neg (by omega)] at kk
    exact kk r' hr' (ms.mono (by omega))
  · have k0 : 0 < k := by
      rcases Nat.eq_zero_or_pos k with q | q
      · exact absurd (by rw [q]; rfl) c
      · exact q
    rw [if_pos ⟨k0, g⟩, ← hr'] at kk
    exact m_rt hk hT 120 1 0 1 0 r' (by omega) (by omega) ms (by omega) kk
  · rw [if_neg (fun q => g q.2)] at kk
    exact kk r' hr' (ms.mono (by omega))
/-- the number of takes stands in the head -/
theorem eff_n0 {c s l m : Int32} {n : Nat} {V : Nat → Nat → Int32} (hn : V 0 0 = nI n) (h24 : n ≤ 24) : (eff c s l m (n, V)).2.2 0 0 = nI (eff c s l m (n, V)).2.1 ∧ (eff c s l m (n, V)).2.1 ≤ 24 := by
  have w1 : ∀ s l t, aWrite V s l t 0 0 = V 0 0 := by intro s l t; unfold aWrite; rw [vu_n (by omega), vu_n (by omega), vu_n (by omega)]
  have w2 : ∀ s l, aMean V s l 0 0 = V 0 0 := by intro s l; unfold aMean; rw [vu_n (by omega), vu_n (by omega)]
  have w3 : ∀ i w x, aMark V i w x 0 0 = V 0 0 := by intro i w x; unfold aMark; rw [vu_n (by omega)]
  have w4 : aCam V 0 0 = V 0 0 := by unfold aCam; rw [vu_n (by omega), vu_n (by omega)]
  have w5 : aSnd V 0 0 = V 0 0 := by unfold aSnd; rw [vu_n (by omega), vu_n (by omega)]
  have w6 : ∀ x, aOff V x 0 0 = V 0 0 := by intro x; unfold aOff; rw [vu_n (by omega)]
  unfold eff
  dsimp only
  split
  · exact ⟨(w1 s l m).trans hn, h24⟩
  split
  · exact ⟨(w2 s l).trans hn, h24⟩
  split
  · exact ⟨(w1 (V 0 1) (V 0 2) (nI (nno V n))).trans hn, h24⟩
  split
  · split
    · rename_i g
      refine ⟨?_, by show n + 1 ≤ 24; omega⟩
      show vfilm V n (vlen V m) (vhas V (vlen V m) (if c = 116 then 1 else 0)) 0 0 = nI (n + 1)
      unfold vfilm
      rw [if_neg (by omega), if_pos rfl]; rfl
    · exact ⟨hn, h24⟩
  split
  · exact ⟨w4.trans hn, h24⟩
  split
  · exact ⟨w5.trans hn, h24⟩
  split
  · split
    · exact ⟨(w3 m.toNatClampNeg 15 1).trans hn, h24⟩
    · exact ⟨hn, h24⟩
  split
  · split
    · exact ⟨(w3 m.toNatClampNeg 14 1).trans hn, h24⟩
    · exact ⟨hn, h24⟩
  · exact ⟨(w6 (m - 50)).trans hn, h24⟩
theorem e_ot {T : Nat → Int32} {k : Nat} {K : Int32 → ((Nat → Int32) × Int32 × Int32 × Int32 × Int32 × Int32) → Prop} (hk : k ≤ 120) (hT : chR T k) : ∀ (d p v2 n : Nat) (co sc le nu : Int32) (o : Int32) (a : Nat → Int32), k ≤ p + d → v2 + 1 ≤ p → p ≤ k → vw a 0 0 = nI n → n ≤ 24 → (∀ a' c s l m, vw a' = (rt T k d p o (n, vw a)).2.2.2.2 → K (rt T k d p o (n, vw a)).2.2.1 (a', nI (rt T k d p o (n, vw a)).2.1, c, s, l, m)) → xp_X4_obeyText_12 T (nI k) K (d + 1) a (nI p) co sc le nu o (nI v2)
  | 0, p, v2, n, co, sc, le, nu, o, a, hd, hv, hp, hn, h24, kk => by
    rw [xp_X4_obeyText_12]
    exact ⟨fun _ => kk _ _ _ _ _ rfl, fun _ => e_hasMore hk (by omega) (fun c => absurd c (by omega)) (fun _ => ⟨fun _ => kk _ _ _ _ _ rfl, fun c => absurd rfl c⟩)⟩
  | d + 1, p, v2, n, co, sc, le, nu, o, a, hd, hv, hp, hn, h24, kk => by
    rw [xp_X4_obeyText_12]
    unfold rt at kk
    refine ⟨fun c => absurd c (nI_ge (b := 120) (by omega) (by omega)), fun _ => e_hasMore hk (by omega) (fun c => ⟨fun g => absurd g (by decide), fun _ => ?_⟩) (fun c => ⟨fun _ => ?_, fun g => absurd rfl g⟩)⟩
    · rw [if_pos c] at kk
      refine e_rc hk hT c (fun co' s l m hh => ?_)
      cases hr : (rc T k p).1 with
      | true =>
        rw [if_pos hr] at kk
        have en := rc_end c hr
        obtain ⟨h1, h2, _⟩ := hh hr
        refine ⟨fun g => absurd g (by decide), fun _ => e_obey hn h24 (fun a' ha' => ?_)⟩
        dsimp only at ha' ⊢
        rw [h2, h1] at ha' ⊢
        have e : (eff (rc T k p).2.2.1 (rc T k p).2.2.2.1 (rc T k p).2.2.2.2.1 (rc T k p).2.2.2.2.2 (n, vw a)).2 = ((eff (rc T k p).2.2.1 (rc T k p).2.2.2.1 (rc T k p).2.2.2.2.1 (rc T k p).2.2.2.2.2 (n, vw a)).2.1, vw a') := by rw [ha']
        have z := eff_n0 (c := (rc T k p).2.2.1) (s := (rc T k p).2.2.2.1) (l := (rc T k p).2.2.2.2.1) (m := (rc T k p).2.2.2.2.2) hn h24
        rw [← ha'] at z
        rw [e] at kk
        rw [nI_1]
        cases he : (eff (rc T k p).2.2.1 (rc T k p).2.2.2.1 (rc T k p).2.2.2.2.1 (rc T k p).2.2.2.2.2 (n, vw a)).1 with
        | true =>
          rw [he] at kk
          rw [if_pos rfl, Int32.add_zero] at kk
          exact ⟨fun _ => e_ot hk hT d _ (v2 + 1) _ _ _ _ _ _ a' (by omega) (by omega) en.2 z.1 z.2 kk, fun g => absurd g (by decide)⟩
        | false =>
          rw [he] at kk
          rw [if_neg Bool.false_ne_true] at kk
          exact ⟨fun g => absurd rfl g, fun _ => e_ot hk hT d _ (v2 + 1) _ _ _ _ _ _ a' (by omega) (by omega) en.2 z.1 z.2 kk⟩
      | false =>
        rw [if_neg (by rw [hr]; decide)] at kk
        exact ⟨fun _ => kk _ _ _ _ _ rfl, fun g => absurd rfl g⟩
    · rw [if_neg (by omega)] at kk
      exact kk _ _ _ _ _ rfl
theorem e_obeyText {T : Nat → Int32} {k : Nat} {at0 co sc le nu : Int32} {a : Nat → Int32} {K : Int32 → ((Nat → Int32) × Int32 × Int32 × Int32 × Int32 × Int32) → Prop} (hk : k ≤ 120) (hT : chR T k) (ha : vw a = v0) (g : 0 < k ∧ T 0 = 84)
    (kk : ∀ a' t c s l m, vw a' = (rtx T k).2.2.2.2 → K (rtx T k).2.2.1 (a', t, c, s, l, m)) : xp_X4_obeyText T (nI k) a at0 co sc le nu K := by
  unfold xp_X4_obeyText
  unfold rtx at kk
  rw [if_pos g, ← ha] at kk
  refine e_start hk (fun _ => ⟨120 + 1, ?_⟩) (fun q => absurd g q)
  exact e_ot hk hT 120 1 0 0 _ _ _ _ _ a (by omega) (by omega) (by omega) (by rw [ha]; rfl) (by omega) (fun a' c s l m h => kk a' _ c s l m h)
