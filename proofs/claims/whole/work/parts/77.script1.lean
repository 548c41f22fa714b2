/-! ===== scripts of commands ===== -/
/-- what a command does: its first figure, the two pairs behind it, its second figure, its last three -/
def cm (c a b d m : Nat) (q : St) : Bool × St :=
  if c = 1 then (if (d ≤ 1 ∧ 1 ≤ m ∧ m ≤ 120) ∧ (q.1 < 24 ∧ (0 : Int32) < q.2 0 12 - q.2 0 7) then (true, q.1 + 1, vfilm q.2 q.1 (vlen q.2 (nI m)) (vhas q.2 (vlen q.2 (nI m)) (if d = 1 then 1 else 0))) else (false, q))
  else if c = 2 then (if a = 0 ∧ b ≤ 1 then (true, q.1, if b = 1 then aSnd q.2 else aCam q.2) else (false, q))
  else if c = 3 then (if b ≤ 1 ∧ a < q.1 then (true, q.1, aMark q.2 a 15 (if b = 1 then 1 else 0)) else (false, q))
  else if c = 4 then (if (1 ≤ a ∧ a ≤ 99) ∧ b ≤ 25 then (true, q.1, aMean q.2 (nI a) (nI b)) else (false, q))
  else if c = 5 then (if a = 0 ∧ b = 0 then (true, q.1, aWrite q.2 (q.2 0 1) (q.2 0 2) (nI (nno q.2 q.1))) else (false, q))
  else if c = 6 then (decide (b ≤ 1 ∧ a < q.1 ∧ (isr q.2 a = true ↔ b = 1)), q)
  else if c = 7 then (decide (a = 0 ∧ wrg q.2 q.1 ≤ b), q)
  else if c = 8 then (decide (a < q.1 ∧ b < q.1 ∧ syn q.2 q.1 a 0 = nI b), q)
  else if c = 9 then (decide (d = 0 ∧ ¬ (if (0 : Int32) < q.2 0 12 - q.2 0 7 then q.2 0 12 - q.2 0 7 else 0) < nI m), q)
  else (false, q)
theorem cm_1 {a b d m : Nat} {q : St} : cm 1 a b d m q = (if (d ≤ 1 ∧ 1 ≤ m ∧ m ≤ 120) ∧ (q.1 < 24 ∧ (0 : Int32) < q.2 0 12 - q.2 0 7) then (true, q.1 + 1, vfilm q.2 q.1 (vlen q.2 (nI m)) (vhas q.2 (vlen q.2 (nI m)) (if d = 1 then 1 else 0))) else (false, q)) := by
  unfold cm; rw [if_pos rfl]
theorem cm_2 {a b d m : Nat} {q : St} : cm 2 a b d m q = (if a = 0 ∧ b ≤ 1 then (true, q.1, if b = 1 then aSnd q.2 else aCam q.2) else (false, q)) := by
  unfold cm; rw [if_neg (by decide), if_pos rfl]
theorem cm_3 {a b d m : Nat} {q : St} : cm 3 a b d m q = (if b ≤ 1 ∧ a < q.1 then (true, q.1, aMark q.2 a 15 (if b = 1 then 1 else 0)) else (false, q)) := by
  unfold cm; rw [if_neg (by decide), if_neg (by decide), if_pos rfl]
theorem cm_4 {a b d m : Nat} {q : St} : cm 4 a b d m q = (if (1 ≤ a ∧ a ≤ 99) ∧ b ≤ 25 then (true, q.1, aMean q.2 (nI a) (nI b)) else (false, q)) := by
  unfold cm; rw [if_neg (by decide), if_neg (by decide), if_neg (by decide), if_pos rfl]
theorem cm_5 {a b d m : Nat} {q : St} : cm 5 a b d m q = (if a = 0 ∧ b = 0 then (true, q.1, aWrite q.2 (q.2 0 1) (q.2 0 2) (nI (nno q.2 q.1))) else (false, q)) := by
  unfold cm; rw [if_neg (by decide), if_neg (by decide), if_neg (by decide), if_neg (by decide), if_pos rfl]
theorem cm_6 {a b d m : Nat} {q : St} : cm 6 a b d m q = (decide (b ≤ 1 ∧ a < q.1 ∧ (isr q.2 a = true ↔ b = 1)), q) := by
  unfold cm; rw [if_neg (by decide), if_neg (by decide), if_neg (by decide), if_neg (by decide), if_neg (by decide), if_pos rfl]
theorem cm_7 {a b d m : Nat} {q : St} : cm 7 a b d m q = (decide (a = 0 ∧ wrg q.2 q.1 ≤ b), q) := by
  unfold cm; rw [if_neg (by decide), if_neg (by decide), if_neg (by decide), if_neg (by decide), if_neg (by decide), if_neg (by decide), if_pos rfl]
theorem cm_8 {a b d m : Nat} {q : St} : cm 8 a b d m q = (decide (a < q.1 ∧ b < q.1 ∧ syn q.2 q.1 a 0 = nI b), q) := by
  unfold cm; rw [if_neg (by decide), if_neg (by decide), if_neg (by decide), if_neg (by decide), if_neg (by decide), if_neg (by decide), if_neg (by decide), if_pos rfl]
theorem cm_9 {a b d m : Nat} {q : St} : cm 9 a b d m q = (decide (d = 0 ∧ ¬ (if (0 : Int32) < q.2 0 12 - q.2 0 7 then q.2 0 12 - q.2 0 7 else 0) < nI m), q) := by
  unfold cm; rw [if_neg (by decide), if_neg (by decide), if_neg (by decide), if_neg (by decide), if_neg (by decide), if_neg (by decide), if_neg (by decide), if_neg (by decide), if_pos rfl]
theorem cm_x {c a b d m : Nat} {q : St} (h : c = 0 ∨ 9 < c) : cm c a b d m q = (false, q) := by
  unfold cm; rw [if_neg (by omega), if_neg (by omega), if_neg (by omega), if_neg (by omega), if_neg (by omega), if_neg (by omega), if_neg (by omega), if_neg (by omega), if_neg (by omega)]
theorem cm_n0 {c a b d m n : Nat} {V : Nat → Nat → Int32} (hn : V 0 0 = nI n) (h24 : n ≤ 24) : (cm c a b d m (n, V)).2.2 0 0 = nI (cm c a b d m (n, V)).2.1 ∧ (cm c a b d m (n, V)).2.1 ≤ 24 := by
  obtain ⟨z1, z2, z3, z4, z5, z6, z7, z8⟩ := st_n0 hn
  by_cases h : c = 0 ∨ 9 < c
  · rw [cm_x h]; exact ⟨hn, h24⟩
  have hc : c = 1 ∨ c = 2 ∨ c = 3 ∨ c = 4 ∨ c = 5 ∨ c = 6 ∨ c = 7 ∨ c = 8 ∨ c = 9 := by omega
  rcases hc with rfl | rfl | rfl | rfl | rfl | rfl | rfl | rfl | rfl
  · rw [cm_1]
    dsimp only
    by_cases g : (d ≤ 1 ∧ 1 ≤ m ∧ m ≤ 120) ∧ (n < 24 ∧ (0 : Int32) < V 0 12 - V 0 7)
    · rw [if_pos g]
      exact ⟨z8 (vlen V (nI m)) (vhas V (vlen V (nI m)) (if d = 1 then 1 else 0)), by show n + 1 ≤ 24; omega⟩
    · rw [if_neg g]; exact ⟨hn, h24⟩
  · rw [cm_2]
    dsimp only
    by_cases g : a = 0 ∧ b ≤ 1
    · rw [if_pos g]
      by_cases g1 : b = 1
      · rw [if_pos g1]; exact ⟨z5, h24⟩
      · rw [if_neg g1]; exact ⟨z4, h24⟩
    · rw [if_neg g]; exact ⟨hn, h24⟩
  · rw [cm_3]
    dsimp only
    by_cases g : b ≤ 1 ∧ a < n
    · rw [if_pos g]; exact ⟨z3 a 15 (if b = 1 then 1 else 0), h24⟩
    · rw [if_neg g]; exact ⟨hn, h24⟩
  · rw [cm_4]
    dsimp only
    by_cases g : (1 ≤ a ∧ a ≤ 99) ∧ b ≤ 25
    · rw [if_pos g]; exact ⟨z2 (nI a) (nI b), h24⟩
    · rw [if_neg g]; exact ⟨hn, h24⟩
  · rw [cm_5]
    dsimp only
    by_cases g : a = 0 ∧ b = 0
    · rw [if_pos g]; exact ⟨z1 (V 0 1) (V 0 2) (nI (nno V n)), h24⟩
    · rw [if_neg g]; exact ⟨hn, h24⟩
  · rw [cm_6]; exact ⟨hn, h24⟩
  · rw [cm_7]; exact ⟨hn, h24⟩
  · rw [cm_8]; exact ⟨hn, h24⟩
  · rw [cm_9]; exact ⟨hn, h24⟩
theorem div_n {g e : Nat} (hg : g < 2147483648) (he : 0 < e ∧ e < 100000) : nI g / nI e = nI (g / e) := pk_div hg he.1 (by omega)
theorem mod_n {g e : Nat} (hg : g < 2147483648) (he : 0 < e ∧ e < 100000) : nI g - nI g / nI e * nI e = nI (g % e) := pk_rem hg he.1 (by omega)
theorem e_has {cp : Nat → Int32} {n z : Nat} {K : Int32 → Prop} (hn : vw cp 0 0 = nI n) (h24 : n ≤ 24) (hz : z < 100) (k1 : z < n → K 1) (k0 : ¬ z < n → K 0) : xp_X3_hasTake cp (nI z) K :=
  e_hasTake hn h24 (fun i hi hx => k1 (by have := nI_inj (a := z) (b := i) (by omega) (by omega) hx; omega)) (fun g => k0 (fun q => ix_no h24 g (by have e := ix_nI (x := nI z) (i := z) hz rfl; exact ⟨e.1, by rw [e.2]; exact q⟩)))
theorem m_has {r : Nat → Int32} {n z : Nat} {K : Int32 → Prop} (hn : vm r 0 0 = nI n) (h24 : n ≤ 24) (hz : z < 100) (k1 : z < n → K 1) (k0 : ¬ z < n → K 0) : xp_X5_isTake r (nI z) K :=
  m_isTake hn h24 (fun i hi hx => k1 (by have := nI_inj (a := z) (b := i) (by omega) (by omega) hx; omega)) (fun g => k0 (fun q => ix_no h24 g (by have e := ix_nI (x := nI z) (i := z) hz rfl; exact ⟨e.1, by rw [e.2]; exact q⟩)))
theorem e_cm {c a b d m g n : Nat} {cp : Nat → Int32} {K : Int32 → (Nat → Int32) → Prop} (hg : g < 100000) (hc : g / 10000 = c) (ha : g / 100 % 100 = a) (hb : g % 100 = b) (hd : g / 1000 % 10 = d) (hm : g % 1000 = m) (hn : vw cp 0 0 = nI n) (h24 : n ≤ 24) (k : ∀ a', vw a' = (cm c a b d m (n, vw cp)).2.2 → K (if (cm c a b d m (n, vw cp)).1 = true then 1 else 0) a') : xp_X4_succeeds cp (nI g) K := by
  have e1 : nI g / 10000 = nI c := by
    rw [show (10000 : Int32) = nI 10000 from rfl, div_n (by omega) (by omega), hc]
  have e2 : (nI g / 1000) - (nI g / 1000) / 10 * 10 = nI d := by
    rw [show (1000 : Int32) = nI 1000 from rfl, show (10 : Int32) = nI 10 from rfl, div_n (by omega) (by omega), mod_n (by omega) (by omega), hd]
  have e3 : nI g - nI g / 1000 * 1000 = nI m := by
    rw [show (1000 : Int32) = nI 1000 from rfl, mod_n (by omega) (by omega), hm]
  have e4 : (nI g / 100) - (nI g / 100) / 100 * 100 = nI a := by
    rw [show (100 : Int32) = nI 100 from rfl, div_n (by omega) (by omega), mod_n (by omega) (by omega), ha]
  have e5 : nI g - nI g / 100 * 100 = nI b := by
    rw [show (100 : Int32) = nI 100 from rfl, mod_n (by omega) (by omega), hb]
  have c9 : c < 10 := by omega
  have a9 : a < 100 := by omega
  have b9 : b < 100 := by omega
  have d9 : d < 10 := by omega
  have m9 : m < 1000 := by omega
  clear hc ha hb hd hm
  unfold xp_X4_succeeds
  rw [e1, e2, e3, e4, e5]
  clear e1 e2 e3 e4 e5
  have kk : ∀ (x : Bool × St), cm c a b d m (n, vw cp) = x → ∀ a', vw a' = x.2.2 → K (if x.1 = true then 1 else 0) a' := fun x e => by subst e; exact k
  have yes : cm c a b d m (n, vw cp) = (true, (n, vw cp)) → K 1 cp := fun e => kk _ e cp rfl
  have no : cm c a b d m (n, vw cp) = (false, (n, vw cp)) → K 0 cp := fun e => kk _ e cp rfl
  have o100 : (100 : Nat) < 2147483648 := by decide
  refine pk_eq c 1 (fun h => ?_) (fun h1 => pk_eq c 2 (fun h => ?_) (fun h2 => pk_eq c 3 (fun h => ?_) (fun h3 => pk_eq c 4 (fun h => ?_) (fun h4 => pk_eq c 5 (fun h => ?_) (fun h5 => pk_eq c 6 (fun h => ?_) (fun h6 => pk_eq c 7 (fun h => ?_) (fun h7 => pk_eq c 8 (fun h => ?_) (fun h8 => pk_eq c 9 (fun h => ?_) (fun h9 => no (cm_x (by omega)))))))))))
  · subst h
    rw [cm_1] at kk no
    have film : ∀ x : Int32, d ≤ 1 → x = (if d = 1 then 1 else 0) → xp_X4_succeeds_104 K cp x (nI m) := by
      intro x hd1 hx
      subst hx
      unfold xp_X4_succeeds_104
      refine e_tryToFilm hn h24 (fun g1 g2 a' ha => ⟨fun q => absurd q (by decide), fun _ => ?_⟩) (fun g' => ⟨fun _ => ?_, fun q => absurd rfl q⟩)
      · have m1 := (nI_leI (a := 1) (b := m) (by omega) (by omega)).mp g1.1
        have m2 := (nI_leI (a := m) (b := 120) (by omega) (by omega)).mp g1.2
        exact kk _ (if_pos ⟨⟨hd1, m1, m2⟩, g2⟩) a' ha
      · exact no (if_neg (fun q => g' ⟨⟨nI_le (a := 1) (by omega) (by omega), nI_le (b := 120) (by omega) (by omega)⟩, q.2⟩))
    refine pk_lt 1 d (fun h => no (if_neg (fun q => by omega))) (fun h => (pk_eq d 1 (fun h' => film 1 h (by rw [if_pos h'])) (fun h' => film 0 h (by rw [if_neg h']))).symm)
  · subst h
    rw [cm_2] at kk no
    have roll : ∀ x : Int32, a = 0 → b ≤ 1 → x = (if b = 1 then 1 else 0) → xp_X4_succeeds_138 K cp x := by
      intro x ha1 hb1 hx
      subst hx
      unfold xp_X4_succeeds_138 xp_X4_loadRoll
      by_cases h1 : b = 1
      · rw [if_pos h1]
        refine ⟨fun q => absurd q (by decide), fun _ => e_loadSound (fun a' ha => ⟨fun q => absurd q (by decide), fun _ => ?_⟩)⟩
        exact kk _ (if_pos ⟨ha1, hb1⟩) a' (by dsimp only; rw [if_pos h1]; exact ha)
      · rw [if_neg h1]
        refine ⟨fun _ => e_loadCamera (fun a' ha => ⟨fun q => absurd q (by decide), fun _ => ?_⟩), fun q => absurd rfl q⟩
        exact kk _ (if_pos ⟨ha1, hb1⟩) a' (by dsimp only; rw [if_neg h1]; exact ha)
    refine (pk_eq a 0 (fun h => pk_lt 1 b (fun h' => no (if_neg (fun q => by omega))) (fun h' => (pk_eq b 1 (fun h'' => roll 1 h h' (by rw [if_pos h''])) (fun h'' => roll 0 h h' (by rw [if_neg h'']))).symm)) (fun h => no (if_neg (fun q => h q.1)))).symm
  · subst h
    rw [cm_3] at kk no
    have mark : ∀ x : Int32, b ≤ 1 → x = (if b = 1 then 1 else 0) → xp_X4_succeeds_174 K cp x (nI a) := by
      intro x hb1 hx
      have hx' : (if x = 0 then (0 : Int32) else 1) = (if b = 1 then 1 else 0) := by
        subst hx; split <;> rfl
      unfold xp_X4_succeeds_174
      refine e_mark hn h24 (w := 15) (by omega) (by omega) rfl (fun i hi hx a' ha => ⟨fun q => absurd q (by decide), fun _ => ?_⟩) (fun g => ⟨fun _ => ?_, fun q => absurd rfl q⟩)
      · have e := nI_inj (a := a) (b := i) (by omega) (by omega) hx
        subst e
        rw [hx'] at ha
        exact kk _ (if_pos ⟨hb1, hi⟩) a' ha
      · exact no (if_neg (fun q => ix_no h24 g (by have e := ix_nI (x := nI a) (i := a) (by omega) rfl; exact ⟨e.1, by rw [e.2]; exact q.2⟩)))
    refine pk_lt 1 b (fun h => no (if_neg (fun q => by omega))) (fun h => (pk_eq b 1 (fun h' => mark 1 h (by rw [if_pos h'])) (fun h' => mark 0 h (by rw [if_neg h']))).symm)
  · subst h
    rw [cm_4] at kk no
    refine e_isSetup ?_
    by_cases s : (1 ≤ nI a ∧ nI a ≤ 99) ∧ (0 ≤ nI b ∧ nI b ≤ 25)
    · rw [if_pos s]
      have m1 := (nI_leI (a := 1) (b := a) (by omega) (by omega)).mp s.1.1
      have m2 := (nI_leI (a := a) (b := 99) (by omega) (by omega)).mp s.1.2
      have m3 := (nI_leI (a := b) (b := 25) (by omega) (by omega)).mp s.2.2
      exact ⟨fun q => absurd q (by decide), fun _ => e_mean (fun a' ha => ⟨fun q => absurd q (by decide), fun _ => kk _ (if_pos ⟨⟨m1, m2⟩, m3⟩) a' ha⟩)⟩
    · rw [if_neg s]
      exact ⟨fun _ => no (if_neg (fun q => s ⟨⟨nI_le (a := 1) (by omega) (by omega), nI_le (b := 99) (by omega) (by omega)⟩, nI_le (a := 0) (by omega) (by omega), nI_le (b := 25) (by omega) (by omega)⟩)), fun q => absurd rfl q⟩
  · subst h
    rw [cm_5] at kk no
    refine (pk_eq a 0 (fun h => (pk_eq b 0 (fun h' => e_writeRight hn h24 (fun a' ha => ⟨fun q => absurd q (by decide), fun _ => kk _ (if_pos ⟨h, h'⟩) a' ha⟩)) (fun h' => no (if_neg (fun q => h' q.2)))).symm) (fun h => no (if_neg (fun q => h q.1)))).symm
  · subst h
    rw [cm_6] at yes no
    refine pk_lt 1 b (fun h => no (by rw [decide_eq_false (fun q => by omega)])) (fun h => e_has hn h24 a9 (fun hi => ⟨fun q => absurd q (by decide), fun _ => e_isRight (i := a) (by omega) rfl ?_⟩) (fun hi => ⟨fun _ => no (by rw [decide_eq_false (fun q => hi q.2.1)]), fun q => absurd rfl q⟩))
    by_cases s : isr (vw cp) a = true
    · rw [if_pos s]
      exact (pk_eq b 1 (fun h' => ⟨fun q => absurd rfl q, fun _ => yes (by rw [decide_eq_true ⟨h, hi, ⟨fun _ => h', fun _ => s⟩⟩])⟩) (fun h' => ⟨fun _ => no (by rw [decide_eq_false (fun q => h' (q.2.2.mp s))]), fun q => absurd q (by decide)⟩)).symm
    · rw [if_neg s]
      exact (pk_eq b 1 (fun h' => ⟨fun _ => no (by rw [decide_eq_false (fun q => s (q.2.2.mpr h'))]), fun q => absurd q (by decide)⟩) (fun h' => ⟨fun q => absurd rfl q, fun _ => yes (by rw [decide_eq_true ⟨h, hi, ⟨fun q => absurd q s, fun q => absurd q h'⟩⟩])⟩)).symm
  · subst h
    rw [cm_7] at yes no
    have wl := wrg_le (vw cp) n
    refine (pk_eq a 0 (fun h => e_wrongSlates hn h24 (pk_lt b (wrg (vw cp) n) (fun h' => no (by rw [decide_eq_false (fun q => by have q2 : wrg (vw cp) n ≤ b := q.2; omega)])) (fun h' => yes (by rw [decide_eq_true ⟨h, h'⟩])))) (fun h => no (by rw [decide_eq_false (fun q => h q.1)]))).symm
  · subst h
    rw [cm_8] at yes no
    refine e_has hn h24 a9 (fun hi => ⟨fun q => absurd q (by decide), fun _ => e_has hn h24 b9 (fun hj => ⟨fun q => absurd q (by decide), fun _ => e_soundFor hn h24 (i := a) (by omega) rfl ⟨fun q => ?_, fun q => ?_⟩⟩) (fun hj => ⟨fun _ => no (by rw [decide_eq_false (fun q => hj q.2.1)]), fun q => absurd rfl q⟩)⟩) (fun hi => ⟨fun _ => no (by rw [decide_eq_false (fun q => hi q.1)]), fun q => absurd rfl q⟩)
    · exact no (by rw [decide_eq_false (fun q' => q q'.2.2)])
    · exact yes (by rw [decide_eq_true ⟨hi, hj, q⟩])
  · subst h
    rw [cm_9] at yes no
    refine (pk_eq d 0 (fun h => e_cameraLeft ⟨fun q => ?_, fun q => ?_⟩) (fun h => no (by rw [decide_eq_false (fun q => h q.1)]))).symm
    · exact no (by rw [decide_eq_false (fun q' => q'.2 q)])
    · exact yes (by rw [decide_eq_true ⟨h, q⟩])
