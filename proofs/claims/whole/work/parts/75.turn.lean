/-! ===== turns of a simulation ===== -/
theorem u64_lN (u : UInt64) : u.toInt64 = lN u.toNat := by
  show (⟨u⟩ : Int64) = ⟨UInt64.ofNat u.toNat⟩
  rw [UInt64.ofNat_toNat]
def dr (y : Int64) : Int32 := (((y.toUInt64 >>> ((33 : Int32).toInt64.toUInt64 &&& Int64.toUInt64 63)).toInt64).toInt32)
theorem dr_nI (y : Int64) : ∃ X, X < 2147483648 ∧ dr y = nI X := by
  refine ⟨(y.toUInt64 >>> ((33 : Int32).toInt64.toUInt64 &&& Int64.toUInt64 63)).toNat, ?_, ?_⟩
  · rw [UInt64.toNat_shiftRight, show ((33 : Int32).toInt64.toUInt64 &&& Int64.toUInt64 63).toNat % 64 = 33 from rfl, Nat.shiftRight_eq_div_pow]
    have := y.toUInt64.toNat_lt
    omega
  · unfold dr
    rw [u64_lN, lN_i]
/-- what a turn does -/
def tn (x : Int32) (q : St) : St :=
  if (x - x / 16 * 16) = 0 then (q.1, aMean q.2 (1 + ((x / 16) - (x / 16) / 4 * 4)) ((x / 64) - (x / 64) / 3 * 3))
  else if (x - x / 16 * 16) = 1 then (q.1, aWrite q.2 (q.2 0 1) (q.2 0 2) (nI (nno q.2 q.1)))
  else if (x - x / 16 * 16) = 2 then (q.1, aWrite q.2 (1 + ((x / 16) - (x / 16) / 4 * 4)) ((x / 64) - (x / 64) / 3 * 3) (1 + ((x / 256) - (x / 256) / 5 * 5)))
  else if (x - x / 16 * 16) = 3 then (q.1, aCam q.2)
  else if (x - x / 16 * 16) = 4 then (q.1, aSnd q.2)
  else if (x - x / 16 * 16) = 5 then (if ¬ ((x / 16) - (x / 16) / 24 * 24) < 0 ∧ ((x / 16) - (x / 16) / 24 * 24).toNatClampNeg < q.1 then (q.1, aMark q.2 ((x / 16) - (x / 16) / 24 * 24).toNatClampNeg 15 1) else q)
  else if (x - x / 16 * 16) = 6 then (if ¬ ((x / 16) - (x / 16) / 24 * 24) < 0 ∧ ((x / 16) - (x / 16) / 24 * 24).toNatClampNeg < q.1 then (q.1, aMark q.2 ((x / 16) - (x / 16) / 24 * 24).toNatClampNeg 14 1) else q)
  else if (x - x / 16 * 16) = 7 then (q.1, aOff q.2 (((x / 16) - (x / 16) / 199 * 199) - 99))
  else if (x - x / 16 * 16) = 8 then (if ¬ ((x / 16) - (x / 16) / 24 * 24) < 0 ∧ ((x / 16) - (x / 16) / 24 * 24).toNatClampNeg < q.1 then (q.1, aFix q.2 ((x / 16) - (x / 16) / 24 * 24).toNatClampNeg) else q)
  else (if (1 ≤ 1 + ((x / 32) - (x / 32) / 120 * 120) ∧ 1 + ((x / 32) - (x / 32) / 120 * 120) ≤ 120) ∧ (q.1 < 24 ∧ (0 : Int32) < q.2 0 12 - q.2 0 7) then (q.1 + 1, vfilm q.2 q.1 (vlen q.2 (1 + ((x / 32) - (x / 32) / 120 * 120))) (vhas q.2 (vlen q.2 (1 + ((x / 32) - (x / 32) / 120 * 120))) (if ((x / 16) - (x / 16) / 2 * 2) = 0 then 1 else 0))) else q)
theorem st_n0 {n : Nat} {V : Nat → Nat → Int32} (hn : V 0 0 = nI n) : (∀ s l t, aWrite V s l t 0 0 = nI n) ∧ (∀ s l, aMean V s l 0 0 = nI n) ∧ (∀ i w x, aMark V i w x 0 0 = nI n) ∧ aCam V 0 0 = nI n ∧ aSnd V 0 0 = nI n ∧ (∀ x, aOff V x 0 0 = nI n) ∧ (∀ i, aFix V i 0 0 = nI n) ∧ (∀ len has, vfilm V n len has 0 0 = nI (n + 1)) := by
  refine ⟨fun s l t => ?_, fun s l => ?_, fun i w x => ?_, ?_, ?_, fun x => ?_, fun i => ?_, fun len has => ?_⟩
  · unfold aWrite; rw [vu_n (by omega), vu_n (by omega), vu_n (by omega)]; exact hn
  · unfold aMean; rw [vu_n (by omega), vu_n (by omega)]; exact hn
  · unfold aMark; rw [vu_n (by omega)]; exact hn
  · unfold aCam; rw [vu_n (by omega), vu_n (by omega)]; exact hn
  · unfold aSnd; rw [vu_n (by omega), vu_n (by omega)]; exact hn
  · unfold aOff; rw [vu_n (by omega)]; exact hn
  · unfold aFix; rw [vu_n (by omega), vu_n (by omega), vu_n (by omega)]; exact hn
  · unfold vfilm; rw [if_neg (by omega), if_pos rfl]; rfl
theorem tn_n0 {x : Int32} {n : Nat} {V : Nat → Nat → Int32} (hn : V 0 0 = nI n) (h24 : n ≤ 24) : (tn x (n, V)).2 0 0 = nI (tn x (n, V)).1 ∧ (tn x (n, V)).1 ≤ 24 := by
  obtain ⟨z1, z2, z3, z4, z5, z6, z7, z8⟩ := st_n0 hn
  unfold tn
  dsimp only
  by_cases c0 : (x - x / 16 * 16) = 0
  · rw [if_pos c0]; exact ⟨z2 (1 + ((x / 16) - (x / 16) / 4 * 4)) ((x / 64) - (x / 64) / 3 * 3), h24⟩
  rw [if_neg c0]
  by_cases c1 : (x - x / 16 * 16) = 1
  · rw [if_pos c1]; exact ⟨z1 (V 0 1) (V 0 2) (nI (nno V n)), h24⟩
  rw [if_neg c1]
  by_cases c2 : (x - x / 16 * 16) = 2
  · rw [if_pos c2]; exact ⟨z1 (1 + ((x / 16) - (x / 16) / 4 * 4)) ((x / 64) - (x / 64) / 3 * 3) (1 + ((x / 256) - (x / 256) / 5 * 5)), h24⟩
  rw [if_neg c2]
  by_cases c3 : (x - x / 16 * 16) = 3
  · rw [if_pos c3]; exact ⟨z4, h24⟩
  rw [if_neg c3]
  by_cases c4 : (x - x / 16 * 16) = 4
  · rw [if_pos c4]; exact ⟨z5, h24⟩
  rw [if_neg c4]
  by_cases c5 : (x - x / 16 * 16) = 5
  · rw [if_pos c5]
    by_cases d : ¬ ((x / 16) - (x / 16) / 24 * 24) < 0 ∧ ((x / 16) - (x / 16) / 24 * 24).toNatClampNeg < n
    · rw [if_pos d]; exact ⟨z3 ((x / 16) - (x / 16) / 24 * 24).toNatClampNeg 15 1, h24⟩
    · rw [if_neg d]; exact ⟨hn, h24⟩
  rw [if_neg c5]
  by_cases c6 : (x - x / 16 * 16) = 6
  · rw [if_pos c6]
    by_cases d : ¬ ((x / 16) - (x / 16) / 24 * 24) < 0 ∧ ((x / 16) - (x / 16) / 24 * 24).toNatClampNeg < n
    · rw [if_pos d]; exact ⟨z3 ((x / 16) - (x / 16) / 24 * 24).toNatClampNeg 14 1, h24⟩
    · rw [if_neg d]; exact ⟨hn, h24⟩
  rw [if_neg c6]
  by_cases c7 : (x - x / 16 * 16) = 7
  · rw [if_pos c7]; exact ⟨z6 (((x / 16) - (x / 16) / 199 * 199) - 99), h24⟩
  rw [if_neg c7]
  by_cases c8 : (x - x / 16 * 16) = 8
  · rw [if_pos c8]
    by_cases d : ¬ ((x / 16) - (x / 16) / 24 * 24) < 0 ∧ ((x / 16) - (x / 16) / 24 * 24).toNatClampNeg < n
    · rw [if_pos d]; exact ⟨z7 ((x / 16) - (x / 16) / 24 * 24).toNatClampNeg, h24⟩
    · rw [if_neg d]; exact ⟨hn, h24⟩
  rw [if_neg c8]
  by_cases d : (1 ≤ 1 + ((x / 32) - (x / 32) / 120 * 120) ∧ 1 + ((x / 32) - (x / 32) / 120 * 120) ≤ 120) ∧ (n < 24 ∧ (0 : Int32) < V 0 12 - V 0 7)
  · rw [if_pos d]
    exact ⟨z8 (vlen V (1 + ((x / 32) - (x / 32) / 120 * 120))) (vhas V (vlen V (1 + ((x / 32) - (x / 32) / 120 * 120))) (if ((x / 16) - (x / 16) / 2 * 2) = 0 then 1 else 0)), by show n + 1 ≤ 24; omega⟩
  · rw [if_neg d]; exact ⟨hn, h24⟩
theorem e_turn {x : Int32} {a : Nat → Int32} {n : Nat} {K : (Nat → Int32) → Prop} (hn : vw a 0 0 = nI n) (h24 : n ≤ 24) (k : ∀ a', vw a' = (tn x (n, vw a)).2 → K a') : xp_X4_doTurn a x K := by
  unfold xp_X4_doTurn
  unfold tn at k
  dsimp only at k
  refine ⟨fun c => ?_, fun c => ⟨fun c1 => ?_, fun c1 => ⟨fun c2 => ?_, fun c2 => ⟨fun c3 => ?_, fun c3 => ⟨fun c4 => ?_, fun c4 => ⟨fun c5 => ?_, fun c5 => ⟨fun c6 => ?_, fun c6 => ⟨fun c7 => ?_, fun c7 => ⟨fun c8 => ?_, fun c8 => ?_⟩⟩⟩⟩⟩⟩⟩⟩⟩
  · rw [if_pos c] at k; exact e_mean k
  · rw [if_neg c, if_pos c1] at k; exact e_writeRight hn h24 k
  · rw [if_neg c, if_neg c1, if_pos c2] at k; exact e_write k
  · rw [if_neg c, if_neg c1, if_neg c2, if_pos c3] at k; exact e_loadCamera k
  · rw [if_neg c, if_neg c1, if_neg c2, if_neg c3, if_pos c4] at k; exact e_loadSound k
  · rw [if_neg c, if_neg c1, if_neg c2, if_neg c3, if_neg c4, if_pos c5] at k
    refine e_mark hn h24 (w := 15) (by omega) (by omega) rfl (fun i hi hx a' ha => ?_) (fun g => ?_)
    · have q := ix_nI (by omega) hx
      rw [if_pos ⟨q.1, by rw [q.2]; exact hi⟩, q.2] at k
      rw [if_neg (by decide)] at ha
      exact k a' ha
    · rw [if_neg (ix_no h24 g)] at k
      exact k a rfl
  · rw [if_neg c, if_neg c1, if_neg c2, if_neg c3, if_neg c4, if_neg c5, if_pos c6] at k
    refine e_mark hn h24 (w := 14) (by omega) (by omega) rfl (fun i hi hx a' ha => ?_) (fun g => ?_)
    · have q := ix_nI (by omega) hx
      rw [if_pos ⟨q.1, by rw [q.2]; exact hi⟩, q.2] at k
      rw [if_neg (by decide)] at ha
      exact k a' ha
    · rw [if_neg (ix_no h24 g)] at k
      exact k a rfl
  · rw [if_neg c, if_neg c1, if_neg c2, if_neg c3, if_neg c4, if_neg c5, if_neg c6, if_pos c7] at k; exact e_setOff k
  · rw [if_neg c, if_neg c1, if_neg c2, if_neg c3, if_neg c4, if_neg c5, if_neg c6, if_neg c7, if_pos c8] at k
    refine e_putRight hn h24 (fun i hi hx a' ha => ?_) (fun g => ?_)
    · have q := ix_nI (by omega) hx
      rw [if_pos ⟨q.1, by rw [q.2]; exact hi⟩, q.2] at k
      exact k a' ha
    · rw [if_neg (ix_no h24 g)] at k
      exact k a rfl
  · rw [if_neg c, if_neg c1, if_neg c2, if_neg c3, if_neg c4, if_neg c5, if_neg c6, if_neg c7, if_neg c8] at k
    unfold xp_X4_doTurn_239
    refine ⟨fun g => ?_, fun g => ?_⟩
    · rw [if_neg g] at k
      refine e_tryToFilm hn h24 (fun g1 g2 a' ha => ?_) (fun g' => ?_)
      · rw [if_pos ⟨g1, g2⟩] at k; exact k a' ha
      · rw [if_neg g'] at k; exact k a rfl
    · rw [if_pos g] at k
      refine e_tryToFilm hn h24 (fun g1 g2 a' ha => ?_) (fun g' => ?_)
      · rw [if_pos ⟨g1, g2⟩] at k; exact k a' ha
      · rw [if_neg g'] at k; exact k a rfl
theorem rem_n {X d e : Nat} (hX : X < 2147483648) (hd : 0 < d ∧ d < 1000) (he : 0 < e ∧ e < 1000) : (nI X / nI d) - (nI X / nI d) / nI e * nI e = nI (X / d % e) := by
  rw [pk_div hX hd.1 (by omega), pk_rem (Nat.lt_of_le_of_lt (Nat.div_le_self _ _) hX) he.1 (by omega)]
theorem rgN {n lo hi : Nat} (h1 : lo ≤ n) (h2 : n ≤ hi) (h : n < 2147483648) : rg lo hi (nI n) := by
  unfold rg
  rw [nI_toInt h]
  omega
theorem m_turn {B : Int} {x : Int32} {r : Nat → Int32} {n X : Nat} {K : (Nat → Int32) → Prop} (h : MS B n r) (hB : B < 999999) (hX : X < 2147483648) (hx : x = nI X) (k : ∀ r', vm r' = (tn x (n, vm r)).2 → MS (B + 1) (tn x (n, vm r)).1 r' → K r') : xp_X5_turn r x K := by
  have h24 := h.n24
  have hn := h.n0
  have hI := h.inv
  have h1 : MS (B + 1) n r := h.mono (by omega)
  have r4 : rg 1 99 (1 + ((x / 16) - (x / 16) / 4 * 4)) := by
    rw [hx, show (16 : Int32) = nI 16 from rfl, show (4 : Int32) = nI 4 from rfl, rem_n hX (by omega) (by omega), show (1 : Int32) = nI 1 from rfl, nI_add]
    have := Nat.mod_lt (X / 16) (show 0 < 4 by omega)
    exact rgN (lo := 1) (hi := 99) (by omega) (by omega) (by omega)
  have r3 : rg 0 25 ((x / 64) - (x / 64) / 3 * 3) := by
    rw [hx, show (64 : Int32) = nI 64 from rfl, show (3 : Int32) = nI 3 from rfl, rem_n hX (by omega) (by omega)]
    have := Nat.mod_lt (X / 64) (show 0 < 3 by omega)
    exact rgN (lo := 0) (hi := 25) (by omega) (by omega) (by omega)
  have r5 : rg 1 99 (1 + ((x / 256) - (x / 256) / 5 * 5)) := by
    rw [hx, show (256 : Int32) = nI 256 from rfl, show (5 : Int32) = nI 5 from rfl, rem_n hX (by omega) (by omega), show (1 : Int32) = nI 1 from rfl, nI_add]
    have := Nat.mod_lt (X / 256) (show 0 < 5 by omega)
    exact rgN (lo := 1) (hi := 99) (by omega) (by omega) (by omega)
  have r99 : rg (-99) 99 (((x / 16) - (x / 16) / 199 * 199) - 99) := by
    rw [hx, show (16 : Int32) = nI 16 from rfl, show (199 : Int32) = nI 199 from rfl, rem_n hX (by omega) (by omega)]
    have := Nat.mod_lt (X / 16) (show 0 < 199 by omega)
    have o : (99 : Int32).toInt = 99 := rfl
    unfold rg
    rw [i_sub (by rw [nI_toInt (by omega), o]; omega) (by rw [nI_toInt (by omega), o]; omega), nI_toInt (by omega), o]
    omega
  have r120 : 1 ≤ 1 + ((x / 32) - (x / 32) / 120 * 120) ∧ 1 + ((x / 32) - (x / 32) / 120 * 120) ≤ 120 := by
    rw [hx, show (32 : Int32) = nI 32 from rfl, show (120 : Int32) = nI 120 from rfl, rem_n hX (by omega) (by omega), show (1 : Int32) = nI 1 from rfl, nI_add]
    have := Nat.mod_lt (X / 32) (show 0 < 120 by omega)
    exact ⟨nI_le (by omega) (by omega), nI_le (by omega) (by omega)⟩
  unfold xp_X5_turn
  unfold tn at k
  dsimp only at k
  refine ⟨fun c => ?_, fun c => ⟨fun c1 => ?_, fun c1 => ⟨fun c2 => ?_, fun c2 => ⟨fun c3 => ?_, fun c3 => ⟨fun c4 => ?_, fun c4 => ⟨fun c5 => ?_, fun c5 => ⟨fun c6 => ?_, fun c6 => ⟨fun c7 => ?_, fun c7 => ⟨fun c8 => ?_, fun c8 => ?_⟩⟩⟩⟩⟩⟩⟩⟩⟩
  · rw [if_pos c] at k
    exact m_callOn hn h24 (fun r' hr hf => k r' hr (RS.ms (a := ar r') (rs_mean (a := ar r) h1 r4 r3 (by rw [ar_vw, ar_vw]; exact hr) hr hf)))
  · rw [if_neg c, if_pos c1] at k
    have s1 : rg 1 99 (vm r 0 1) := hI.2.2.1 1
    have s2 : rg 0 25 (vm r 0 2) := hI.2.2.1 2
    exact m_rightOn hn h24 (fun r' hr hf => k r' hr (RS.ms (a := ar r') (rs_write (a := ar r) h1 s1 s2 (nno_rg h24) (by rw [ar_vw, ar_vw]; exact hr) hr hf)))
  · rw [if_neg c, if_neg c1, if_pos c2] at k
    exact m_boardOn hn h24 (fun r' hr hf _ => k r' hr (RS.ms (a := ar r') (rs_write (a := ar r) h1 r4 r3 r5 (by rw [ar_vw, ar_vw]; exact hr) hr hf)))
  · rw [if_neg c, if_neg c1, if_neg c2, if_pos c3] at k
    exact m_newCameraOn (fun r' hr hf => k r' hr (RS.ms (a := ar r') (rs_cam (a := ar r) (h : RS B n (ar r) r) (by omega) (by rw [ar_vw, ar_vw]; exact hr) hr hf)))
  · rw [if_neg c, if_neg c1, if_neg c2, if_neg c3, if_pos c4] at k
    exact m_newSoundOn (fun r' hr hf => k r' hr (RS.ms (a := ar r') (rs_snd (a := ar r) (h : RS B n (ar r) r) (by omega) (by rw [ar_vw, ar_vw]; exact hr) hr hf)))
  · rw [if_neg c, if_neg c1, if_neg c2, if_neg c3, if_neg c4, if_pos c5] at k
    unfold xp_X5_turn_160
    refine m_isTake hn h24 (fun i hi hx => ⟨fun q => absurd q (by decide), fun _ => ⟨fun q => absurd c5 q, fun _ => ?_⟩⟩) (fun g => ⟨fun _ => ?_, fun q => absurd rfl q⟩)
    · have q := ix_nI (by omega) hx
      rw [if_pos ⟨q.1, by rw [q.2]; exact hi⟩, q.2] at k
      refine m_markOn (z := 14) (w := 15) hn h24 hi hx rfl rfl (Or.inr rfl) (fun r' hr hf => k r' ?_ (RS.ms (a := ar r') (rs_mark (a := ar r) (i := i) (w := 15) (x := 1) h1 (Or.inr rfl) ⟨by decide, by decide⟩ (by rw [ar_vw, ar_vw]; exact hr) hr hf)))
      exact hr
    · rw [if_neg (ix_no h24 g)] at k
      exact k r rfl h1
  · rw [if_neg c, if_neg c1, if_neg c2, if_neg c3, if_neg c4, if_neg c5, if_pos c6] at k
    unfold xp_X5_turn_160
    refine m_isTake hn h24 (fun i hi hx => ⟨fun q => absurd q (by decide), fun _ => ⟨fun _ => ?_, fun q => absurd q c5⟩⟩) (fun g => ⟨fun _ => ?_, fun q => absurd rfl q⟩)
    · have q := ix_nI (by omega) hx
      rw [if_pos ⟨q.1, by rw [q.2]; exact hi⟩, q.2] at k
      refine m_markOn (z := 13) (w := 14) hn h24 hi hx rfl rfl (Or.inl rfl) (fun r' hr hf => k r' ?_ (RS.ms (a := ar r') (rs_mark (a := ar r) (i := i) (w := 14) (x := 1) h1 (Or.inl rfl) ⟨by decide, by decide⟩ (by rw [ar_vw, ar_vw]; exact hr) hr hf)))
      exact hr
    · rw [if_neg (ix_no h24 g)] at k
      exact k r rfl h1
  · rw [if_neg c, if_neg c1, if_neg c2, if_neg c3, if_neg c4, if_neg c5, if_neg c6, if_pos c7] at k
    have hr : vm (upd r 11 (((x / 16) - (x / 16) / 199 * 199) - 99)) = aOff (vm r) (((x / 16) - (x / 16) / 199 * 199) - 99) := w0 (by omega)
    exact k _ hr (RS.ms (a := ar (upd r 11 (((x / 16) - (x / 16) / 199 * 199) - 99))) (rs_off (a := ar r) h1 r99 (by rw [ar_vw, ar_vw]; exact hr) hr rfl))
  · rw [if_neg c, if_neg c1, if_neg c2, if_neg c3, if_neg c4, if_neg c5, if_neg c6, if_neg c7, if_pos c8] at k
    refine m_isTake hn h24 (fun i hi hx => ⟨fun q => absurd q (by decide), fun _ => ?_⟩) (fun g => ⟨fun _ => ?_, fun q => absurd rfl q⟩)
    · have q := ix_nI (by omega) hx
      rw [if_pos ⟨q.1, by rw [q.2]; exact hi⟩, q.2] at k
      exact m_fixOn h24 hi hx (fun r' hr hf => k r' hr (RS.ms (a := ar r') (rs_fix (a := ar r) h1 hi (by rw [ar_vw, ar_vw]; exact hr) hr hf)))
    · rw [if_neg (ix_no h24 g)] at k
      exact k r rfl h1
  · rw [if_neg c, if_neg c1, if_neg c2, if_neg c3, if_neg c4, if_neg c5, if_neg c6, if_neg c7, if_neg c8] at k
    refine m_canShoot hn h24 ?_
    by_cases d : n < 24 ∧ (0 : Int32) < vm r 0 12 - vm r 0 7
    · rw [if_pos d]
      rw [if_pos ⟨r120, d⟩] at k
      unfold xp_X5_turn_228
      have go : ∀ b : Int32, b = (if ((x / 16) - (x / 16) / 2 * 2) = 0 then 1 else 0) → xp_X5_shootOn r (1 + ((x / 32) - (x / 32) / 120 * 120)) b (fun r1 u1 => K u1) := by
        intro b hb
        subst hb
        exact m_shootOn hn d.1 h.f12 (rg_mono (by omega) (by omega) (show rg 1 99 (vm r 0 5) from hI.2.2.1 5)) (fun r' hr hf => k r' hr (RS.ms (a := ar r') (film_rs (a := ar r) (h1 : RS (B + 1) n (ar r) r) (by omega) d.1 r120 (by rw [ar_vw]; exact d.2) (by rw [ar_vw, ar_vw]; exact hr) hr hf)))
      exact ⟨fun q => absurd q (by decide), fun _ => ⟨fun g => go 0 (by rw [if_neg g]), fun g => go 1 (by rw [if_pos g])⟩⟩
    · rw [if_neg d]
      rw [if_neg (fun q => d q.2)] at k
      exact ⟨fun _ => k r rfl h1, fun q => absurd rfl q⟩
