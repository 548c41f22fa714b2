theorem m_cm {B : Int} {c a b d m f n : Nat} {r : Nat → Int32} {K : Int32 → (Nat → Int32) → Prop} (hf : f < 10000) (ha : f / 100 = a) (hb : f % 100 = b) (hd : f / 1000 = d) (hm : f % 1000 = m) (c9 : c < 10) (h : MS B n r) (hB : B < 999999) (k : ∀ r', vm r' = (cm c a b d m (n, vm r)).2.2 → MS (B + 1) (cm c a b d m (n, vm r)).2.1 r' → K (if (cm c a b d m (n, vm r)).1 = true then 1 else 0) r') : xp_X5_command r (nI c) (nI f) K := by
  have h24 := h.n24
  have hn := h.n0
  have hI := h.inv
  have hM : MS (B + 1) n r := h.mono (by omega)
  have e3 : nI f - nI f / 1000 * 1000 = nI m := by
    rw [show (1000 : Int32) = nI 1000 from rfl, mod_n (by omega) (by omega), hm]
  have e4 : nI f / 100 = nI a := by
    rw [show (100 : Int32) = nI 100 from rfl, div_n (by omega) (by omega), ha]
  have e5 : nI f - nI f / 100 * 100 = nI b := by
    rw [show (100 : Int32) = nI 100 from rfl, mod_n (by omega) (by omega), hb]
  have fd : f = 1000 * d + m := by omega
  have fa : f = 100 * a + b := by omega
  have a9 : a < 100 := by omega
  have b9 : b < 100 := by omega
  have d9 : d < 10 := by omega
  have m9 : m < 1000 := by omega
  clear ha hb hd hm
  have kk : ∀ (x : Bool × St), cm c a b d m (n, vm r) = x → ∀ r', vm r' = x.2.2 → MS (B + 1) x.2.1 r' → K (if x.1 = true then 1 else 0) r' := fun x e => by subst e; exact k
  have yes : cm c a b d m (n, vm r) = (true, (n, vm r)) → K 1 r := fun e => kk _ e r rfl hM
  have no : cm c a b d m (n, vm r) = (false, (n, vm r)) → K 0 r := fun e => kk _ e r rfl hM
  have core : ∀ t0 : Int32, t0 = (if 2 ≤ b then 0 else 1) → xp_X5_command_22 K r (nI c) (nI f) (nI a) (nI b) t0 := by
    intro t0 ht
    have t1 : t0 = 0 ↔ 2 ≤ b := by
      rw [ht]
      split
      · exact ⟨fun _ => by assumption, fun _ => rfl⟩
      · exact ⟨fun q => absurd q (by decide), fun q => by omega⟩
    clear ht
    unfold xp_X5_command_22
    rw [e3]
    refine pk_eq c 1 (fun h => ?_) (fun h1 => pk_eq c 2 (fun h => ?_) (fun h2 => pk_eq c 3 (fun h => ?_) (fun h3 => pk_eq c 4 (fun h => ?_) (fun h4 => pk_eq c 5 (fun h => ?_) (fun h5 => pk_eq c 6 (fun h => ?_) (fun h6 => pk_eq c 7 (fun h => ?_) (fun h7 => pk_eq c 8 (fun h => ?_) (fun h8 => pk_eq c 9 (fun h => ?_) (fun h9 => no (cm_x (by omega)))))))))))
    · subst h
      rw [cm_1] at kk no
      refine pk_le 2000 f (fun h => no (if_neg (fun q => by omega))) (fun hf2 => m_inI (lo := 1) (hi := 120) rfl rfl ?_)
      by_cases s : 1 ≤ nI m ∧ nI m ≤ 120
      · rw [if_pos s]
        have m1 := (nI_leI (a := 1) (b := m) (by omega) (by omega)).mp s.1
        have m2 := (nI_leI (a := m) (b := 120) (by omega) (by omega)).mp s.2
        refine ⟨fun q => absurd q (by decide), fun _ => m_canShoot hn h24 ?_⟩
        by_cases w : n < 24 ∧ (0 : Int32) < vm r 0 12 - vm r 0 7
        · rw [if_pos w]
          have vl := vlen_rg hI s.1 s.2 w.2
          have film : ∀ x : Int32, x = (if d = 1 then 1 else 0) → xp_X5_command_124 K r x (nI m) := by
            intro x hx
            subst hx
            unfold xp_X5_command_124
            refine m_shootOn hn w.1 h.f12 (rg_mono (by omega) (by omega) (show rg 1 99 (vm r 0 5) from hI.2.2.1 5)) (fun r' hr hf => ⟨fun q => absurd q (rg_1 vl.1 (by omega)), fun _ => ?_⟩)
            exact kk _ (if_pos ⟨⟨by omega, m1, m2⟩, w⟩) r' hr (RS.ms (a := ar r') (film_rs (a := ar r) (hM : RS (B + 1) n (ar r) r) (by omega) w.1 s (by rw [ar_vw]; exact w.2) (by rw [ar_vw, ar_vw]; exact hr) hr hf))
          exact ⟨fun q => absurd q (by decide), fun _ => pk_lt f 1000 (fun g => film 0 (by rw [if_neg (by omega)])) (fun g => film 1 (by rw [if_pos (by omega)]))⟩
        · rw [if_neg w]
          exact ⟨fun _ => no (if_neg (fun q => w q.2)), fun q => absurd rfl q⟩
      · rw [if_neg s]
        exact ⟨fun _ => no (if_neg (fun q => s ⟨nI_le (a := 1) (by omega) (by omega), nI_le (b := 120) (by omega) (by omega)⟩)), fun q => absurd rfl q⟩
    · subst h
      rw [cm_2] at kk no
      refine (pk_eq a 0 (fun ha => ⟨fun q => no (if_neg (fun q' => by have := t1.mp q; omega)), fun q => ?_⟩) (fun h => no (if_neg (fun q => h q.1)))).symm
      have hb1 : b ≤ 1 := by
        by_cases g : 2 ≤ b
        · exact absurd (t1.mpr g) q
        · omega
      refine (pk_eq b 1 (fun hb => m_newSoundOn (fun r' hr hf => ⟨fun q => absurd q (rg_1 (roll_up (hI.2.2.1 8) (by omega)) (by omega)), fun _ => ?_⟩)) (fun hb => m_newCameraOn (fun r' hr hf => ⟨fun q => absurd q (rg_1 (roll_up (hI.2.2.1 6) (by omega)) (by omega)), fun _ => ?_⟩))).symm
      · have hr' : vm r' = (if b = 1 then aSnd (vm r) else aCam (vm r)) := by rw [if_pos hb]; exact hr
        exact kk _ (if_pos ⟨ha, hb1⟩) r' hr' (RS.ms (a := ar r') (rs_snd (a := ar r) (h : RS B n (ar r) r) (by omega) (by rw [ar_vw, ar_vw]; exact hr) hr hf))
      · have hr' : vm r' = (if b = 1 then aSnd (vm r) else aCam (vm r)) := by rw [if_neg hb]; exact hr
        exact kk _ (if_pos ⟨ha, hb1⟩) r' hr' (RS.ms (a := ar r') (rs_cam (a := ar r) (h : RS B n (ar r) r) (by omega) (by rw [ar_vw, ar_vw]; exact hr) hr hf))
    · subst h
      rw [cm_3] at kk no
      refine ⟨fun q => no (if_neg (fun q' => by have := t1.mp q; omega)), fun q => ?_⟩
      have hb1 : b ≤ 1 := by
        by_cases g : 2 ≤ b
        · exact absurd (t1.mpr g) q
        · omega
      have mark : a < n → ∀ x : Int32, x = (if b = 1 then 1 else 0) → xp_X5_command_199 K r x (nI a) := by
        intro hi x hx
        have hx' : (if x = 0 then (0 : Int32) else 1) = (if b = 1 then 1 else 0) := by
          subst hx; split <;> rfl
        have hx2 : rg 0 1 (if b = 1 then (1 : Int32) else 0) := by split <;> exact ⟨by decide, by decide⟩
        unfold xp_X5_command_199
        refine m_markOn (z := 14) (w := 15) hn h24 hi rfl rfl rfl (Or.inr rfl) (fun r' hr hf => ?_)
        rw [hx'] at hr
        have wl := wrg_le (aMark (vm r) a 15 (if x = 0 then 0 else 1)) n
        rw [if_neg (by decide)]
        refine ⟨fun q => absurd q (nI_pos (by omega)), fun _ => ?_⟩
        exact kk _ (if_pos ⟨hb1, hi⟩) r' hr (RS.ms (a := ar r') (rs_mark (a := ar r) (i := a) (w := 15) (hM : RS (B + 1) n (ar r) r) (Or.inr rfl) hx2 (by rw [ar_vw, ar_vw]; exact hr) hr hf))
      refine m_has hn h24 a9 (fun hi => ⟨fun q => absurd q (by decide), fun _ => (pk_eq b 1 (fun h' => mark hi 1 (by rw [if_pos h'])) (fun h' => mark hi 0 (by rw [if_neg h']))).symm⟩) (fun hi => ⟨fun _ => no (if_neg (fun q => hi q.2)), fun q => absurd rfl q⟩)
    · subst h
      rw [cm_4] at kk no
      refine m_isSetup ?_
      by_cases s : (1 ≤ nI a ∧ nI a ≤ 99) ∧ (0 ≤ nI b ∧ nI b ≤ 25)
      · rw [if_pos s]
        have m1 := (nI_leI (a := 1) (b := a) (by omega) (by omega)).mp s.1.1
        have m2 := (nI_leI (a := a) (b := 99) (by omega) (by omega)).mp s.1.2
        have m3 := (nI_leI (a := b) (b := 25) (by omega) (by omega)).mp s.2.2
        have nl : ¬ nI (nno (aMean (vm r) (nI a) (nI b)) n) ≤ 0 := rg_1 (nno_rg h24) (by omega)
        exact ⟨fun q => absurd q (by decide), fun _ => m_callOn hn h24 (fun r' hr hf => ⟨fun q => absurd q nl, fun _ => kk _ (if_pos ⟨⟨m1, m2⟩, m3⟩) r' hr (RS.ms (a := ar r') (rs_mean (a := ar r) (hM : RS (B + 1) n (ar r) r) (rgN (lo := 1) (hi := 99) m1 m2 (by omega)) (rgN (lo := 0) (hi := 25) (by omega) m3 (by omega)) (by rw [ar_vw, ar_vw]; exact hr) hr hf))⟩)⟩
      · rw [if_neg s]
        exact ⟨fun _ => no (if_neg (fun q => s ⟨⟨nI_le (a := 1) (by omega) (by omega), nI_le (b := 99) (by omega) (by omega)⟩, nI_le (a := 0) (by omega) (by omega), nI_le (b := 25) (by omega) (by omega)⟩)), fun q => absurd rfl q⟩
    · subst h
      rw [cm_5] at kk no
      have s1 : rg 1 99 (vm r 0 1) := hI.2.2.1 1
      have s2 : rg 0 25 (vm r 0 2) := hI.2.2.1 2
      have nl : ¬ nI (nno (vm r) n) ≤ 0 := rg_1 (nno_rg h24) (by omega)
      refine (pk_eq f 0 (fun h' => m_rightOn hn h24 (fun r' hr hf => ⟨fun q => absurd q nl, fun _ => ?_⟩)) (fun h' => no (if_neg (fun q => h' (by omega))))).symm
      exact kk _ (if_pos ⟨by omega, by omega⟩) r' hr (RS.ms (a := ar r') (rs_write (a := ar r) (hM : RS (B + 1) n (ar r) r) s1 s2 (nno_rg h24) (by rw [ar_vw, ar_vw]; exact hr) hr hf))
    · subst h
      rw [cm_6] at yes no
      refine ⟨fun q => no (by rw [decide_eq_false (fun q' => by have := t1.mp q; omega)]), fun q => ?_⟩
      have hb1 : b ≤ 1 := by
        by_cases g : 2 ≤ b
        · exact absurd (t1.mpr g) q
        · omega
      refine m_has hn h24 a9 (fun hi => ⟨fun q => absurd q (by decide), fun _ => m_isRight (i := a) (by omega) rfl ?_⟩) (fun hi => ⟨fun _ => no (by rw [decide_eq_false (fun q => hi q.2.1)]), fun q => absurd rfl q⟩)
      by_cases s : isr (vm r) a = true
      · rw [if_pos s]
        exact (pk_eq b 1 (fun h' => ⟨fun q => absurd rfl q, fun _ => yes (by rw [decide_eq_true ⟨hb1, hi, ⟨fun _ => h', fun _ => s⟩⟩])⟩) (fun h' => ⟨fun _ => no (by rw [decide_eq_false (fun q => h' (q.2.2.mp s))]), fun q => absurd q (by decide)⟩)).symm
      · rw [if_neg s]
        exact (pk_eq b 1 (fun h' => ⟨fun _ => no (by rw [decide_eq_false (fun q => s (q.2.2.mpr h'))]), fun q => absurd q (by decide)⟩) (fun h' => ⟨fun q => absurd rfl q, fun _ => yes (by rw [decide_eq_true ⟨hb1, hi, ⟨fun q => absurd q s, fun q => absurd q h'⟩⟩])⟩)).symm
    · subst h
      rw [cm_7] at yes no
      have wl := wrg_le (vm r) n
      refine (pk_eq a 0 (fun h => m_wrong hn h24 (pk_lt b (wrg (vm r) n) (fun h' => no (by rw [decide_eq_false (fun q => by have q2 : wrg (vm r) n ≤ b := q.2; omega)])) (fun h' => yes (by rw [decide_eq_true ⟨h, h'⟩])))) (fun h => no (by rw [decide_eq_false (fun q => h q.1)]))).symm
    · subst h
      rw [cm_8] at yes no
      refine m_has hn h24 a9 (fun hi => ⟨fun q => absurd q (by decide), fun _ => m_has hn h24 b9 (fun hj => ⟨fun q => absurd q (by decide), fun _ => m_syncedBy hn h24 (i := a) (by omega) rfl ⟨by decide, by decide⟩ (hI.okO a hi) ⟨fun q => ?_, fun q => ?_⟩⟩) (fun hj => ⟨fun _ => no (by rw [decide_eq_false (fun q => hj q.2.1)]), fun q => absurd rfl q⟩)⟩) (fun hi => ⟨fun _ => no (by rw [decide_eq_false (fun q => hi q.1)]), fun q => absurd rfl q⟩)
      · exact no (by rw [decide_eq_false (fun q' => q q'.2.2)])
      · exact yes (by rw [decide_eq_true ⟨hi, hj, q⟩])
    · subst h
      rw [cm_9] at yes no
      refine pk_le 1000 f (fun h => no (by rw [decide_eq_false (fun q => by have := q.1; omega)])) (fun hf2 => m_left ⟨fun q => ?_, fun q => ?_⟩)
      · have e : f = m := by omega
        rw [e] at q
        exact no (by rw [decide_eq_false (fun q' => q'.2 q)])
      · have e : f = m := by omega
        rw [e] at q
        exact yes (by rw [decide_eq_true ⟨by omega, q⟩])
  unfold xp_X5_command
  rw [e5, e4]
  exact pk_le 2 b (fun g => core 0 (by rw [if_pos g])) (fun g => core 1 (by rw [if_neg (by omega)]))
