/-! ===== remembered states ===== -/
theorem sl_vw {a b : Nat → Int32} {p : Nat} (h : ∀ j, j < 400 → b (p + j) = a (p + j)) : vw (sl b p) = vw (sl a p) := vw_ext (fun j hj => h j hj)
def PR (c o : Nat) (past now past' : Nat → Int32) (c' o' : Nat) : Prop :=
  (c < 14 ∧ c' = c + 1 ∧ o' = o ∧ vw (sl past' (400 * ((o + c) % 14))) = vw now ∧ ∀ j, j < 14 → j ≠ (o + c) % 14 → vw (sl past' (400 * j)) = vw (sl past (400 * j))) ∨
  (c = 14 ∧ c' = 14 ∧ o' = (o + 1) % 14 ∧ vw (sl past' (400 * o)) = vw now ∧ ∀ j, j < 14 → j ≠ o → vw (sl past' (400 * j)) = vw (sl past (400 * j)))
def MR (c : Nat) (diary now diary' : Nat → Int32) (c' : Nat) : Prop :=
  (c < 14 ∧ c' = c + 1 ∧ (∀ i, i < 377 → diary' (377 * c + i) = now i) ∧ ∀ j, j < 14 → j ≠ c → ∀ i, i < 377 → diary' (377 * j + i) = diary (377 * j + i)) ∨
  (c = 14 ∧ c' = 14 ∧ (∀ i, i < 377 → diary' (377 * 13 + i) = now i) ∧ ∀ j, j < 13 → ∀ i, i < 377 → diary' (377 * j + i) = diary (377 * (j + 1) + i))
theorem rem14 (a : Nat) (ha : a < 2147483648) : nI a - nI a / 14 * 14 = nI (a % 14) := by
  rw [show (14 : Int32) = nI 14 from rfl, pk_rem ha (by omega) (by omega)]
theorem e_remember {now past : Nat → Int32} {rem old : Int32} {c o : Nat} {K : ((Nat → Int32) × Int32 × Int32) → Prop} (hr : rem = nI c) (ho : old = nI o) (hc : c ≤ 14) (o14 : o < 14)
    (k : ∀ past' c' o', PR c o past now past' c' o' → K (past', nI c', nI o')) : xp_X4_remember now past rem old K := by
  subst hr ho
  unfold xp_X4_remember
  refine ⟨fun h => ?_, fun h => ?_⟩
  · have c14 : c < 14 := by
      rcases Nat.lt_or_ge c 14 with q | q
      · exact q
      · exact absurd (by rw [show c = 14 by omega]; rfl) h
    unfold xp_X4_remember_32
    rw [nI_add, rem14 _ (by omega), nI_1]
    refine e_store (P := 14) (s := (o + c) % 14) rfl (Nat.mod_lt _ (by omega)) (by omega) rfl (fun past' h1 h2 => k past' (c + 1) o (Or.inl ⟨c14, rfl, rfl, h1, fun j hj hne => sl_vw (fun i hi => h2 _ ?_)⟩))
    rcases Nat.lt_or_ge j ((o + c) % 14) with q | q
    · exact Or.inl (by omega)
    · exact Or.inr (by omega)
  · have c14 : c = 14 := nI_inj (b := 14) (by omega) (by omega) h
    subst c14
    unfold xp_X4_remember_32
    rw [nI_1 o, rem14 _ (by omega), show nI 14 - 1 = nI 13 from rfl, nI_add, rem14 _ (by omega), nI_1]
    have e : ((o + 1) % 14 + 13) % 14 = o := by omega
    rw [e]
    refine e_store (P := 14) (s := o) rfl o14 (by omega) rfl (fun past' h1 h2 => k past' 14 ((o + 1) % 14) (Or.inr ⟨rfl, rfl, rfl, h1, fun j hj hne => sl_vw (fun i hi => h2 _ ?_)⟩))
    rcases Nat.lt_or_ge j o with q | q
    · exact Or.inl (by omega)
    · exact Or.inr (by omega)
theorem m_remember {now diary : Nat → Int32} {acts : Int32} {c : Nat} {K : ((Nat → Int32) × Int32) → Prop} (ha : acts = nI c) (hc : c ≤ 14)
    (k : ∀ diary' c', MR c diary now diary' c' → K (diary', nI c')) : xp_X5_remember now diary acts K := by
  subst ha
  unfold xp_X5_remember
  refine ⟨fun h => ?_, fun h => ?_⟩
  · have c14 : c < 14 := by
      rcases Nat.lt_or_ge c 14 with q | q
      · exact q
      · exact absurd (by rw [show c = 14 by omega]; rfl) h
    unfold xp_X5_remember_50
    rw [nI_1]
    refine m_copy (p := 0) (q := 377 * c) rfl (by rw [show (377 : Int32) = nI 377 from rfl, pk_mul]) (by omega) (by omega) (by omega) (by omega) (fun d' h1 h2 => k d' (c + 1) (Or.inl ⟨c14, rfl, fun i hi => ?_, fun j hj hne i hi => h2 _ ?_⟩))
    · rw [h1 i hi, Nat.zero_add]
    · rcases Nat.lt_or_ge j c with q | q
      · exact Or.inl (by omega)
      · exact Or.inr (by omega)
  · have c14 : c = 14 := nI_inj (b := 14) (by omega) (by omega) h
    subst c14
    refine ⟨4901 + 1, ?_⟩
    have key : ∀ d i (u : Nat → Int32), i + d = 4901 → (∀ j, j < i → u j = diary (j + 377)) → (∀ j, i ≤ j → u j = diary j) → xp_X5_remember_11 now K (d + 1) u (nI 14) (nI i) := by
      intro d
      induction d with
      | zero =>
        intro i u hi hu hv
        have : i = 4901 := by omega
        subst this
        rw [xp_X5_remember_11]
        refine ⟨fun _ => ?_, fun c => absurd (nI_le (Nat.le_refl 4901) (by omega)) c⟩
        unfold xp_X5_remember_50
        rw [show nI 14 - 1 = nI 13 from rfl, nI_1]
        refine m_copy (p := 0) (q := 377 * 13) rfl rfl (by omega) (by omega) (by omega) (by omega) (fun d' h1 h2 => k d' 14 (Or.inr ⟨rfl, rfl, fun i hi => ?_, fun j hj i hi => ?_⟩))
        · rw [h1 i hi, Nat.zero_add]
        · rw [h2 _ (Or.inl (by omega)), hu _ (by omega)]
          congr 1; omega
      | succ d ih =>
        intro i u hi hu hv
        rw [xp_X5_remember_11]
        rw [show (377 : Int32) = nI 377 from rfl, nI_add]
        refine ⟨fun c => absurd c (nI_ge (b := 4901) (by omega) (by omega)), fun _ => ⟨vp_in_nI (by omega) (by omega), vp_in_nI (by omega) (by omega), ?_⟩⟩
        rw [nI_clamp (by omega), nI_clamp (by omega), nI_1]
        refine ih (i + 1) _ (by omega) (fun j hj => ?_) (fun j hj => ?_)
        · by_cases q : j = i
          · subst q; rw [pk_us, hv _ (by omega)]
          · rw [pk_un q]; exact hu j (by omega)
        · rw [pk_un (by omega)]; exact hv j (by omega)
    exact key 4901 0 diary (by omega) (fun j hj => absurd hj (by omega)) (fun j _ => rfl)
/-- the remembered states of both sides -/
def RD (B : Int) (past : Nat → Int32) (rem old : Int32) (diary : Nat → Int32) (acts : Int32) : Prop :=
  ∃ c o : Nat, c ≤ 14 ∧ o < 14 ∧ rem = nI c ∧ old = nI o ∧ acts = nI c ∧ ∀ j, j < c → ∃ n, RS B n (sl past (400 * ((o + j) % 14))) (sl diary (377 * j))
theorem RD.mono {B B' : Int} {past diary : Nat → Int32} {rem old acts : Int32} (hB : B ≤ B') (h : RD B past rem old diary acts) : RD B' past rem old diary acts := by
  obtain ⟨c, o, h1, h2, h3, h4, h5, h6⟩ := h
  exact ⟨c, o, h1, h2, h3, h4, h5, fun j hj => by obtain ⟨n, h⟩ := h6 j hj; exact ⟨n, h.mono hB⟩⟩
theorem rd_0 {B : Int} {past diary : Nat → Int32} : RD B past 0 0 diary 0 := ⟨0, 0, by omega, by omega, rfl, rfl, rfl, fun j hj => absurd hj (by omega)⟩
theorem rd_step {B : Int} {n c o c' o' : Nat} {c'' : Nat} {past diary past' diary' a r : Nat → Int32} (o14 : o < 14) (h : ∀ j, j < c → ∃ n, RS B n (sl past (400 * ((o + j) % 14))) (sl diary (377 * j))) (hp : PR c o past a past' c' o') (hm : MR c diary r diary' c'') (hs : RS B n a r) : RD B past' (nI c') (nI o') diary' (nI c'') := by
  rcases hp with ⟨h1, rfl, rfl, h2, h3⟩ | ⟨rfl, rfl, rfl, h2, h3⟩
  · rcases hm with ⟨_, rfl, g2, g3⟩ | ⟨g, _⟩
    · refine ⟨c + 1, o', by omega, o14, rfl, rfl, rfl, fun j hj => ?_⟩
      by_cases q : j = c
      · subst q
        exact ⟨n, rs_copy hs h2 (fun i hi => g2 i hi)⟩
      · obtain ⟨m, hm⟩ := h j (by omega)
        exact ⟨m, rs_copy hm (h3 _ (Nat.mod_lt _ (by omega)) (by omega)) (fun i hi => g3 j (by omega) q i hi)⟩
    · omega
  · rcases hm with ⟨g, _⟩ | ⟨_, rfl, g2, g3⟩
    · omega
    · refine ⟨14, (o + 1) % 14, by omega, Nat.mod_lt _ (by omega), rfl, rfl, rfl, fun j hj => ?_⟩
      by_cases q : j = 13
      · subst q
        rw [show ((o + 1) % 14 + 13) % 14 = o by omega]
        exact ⟨n, rs_copy hs h2 (fun i hi => g2 i hi)⟩
      · obtain ⟨m, hm⟩ := h (j + 1) (by omega)
        rw [show (o + (j + 1)) % 14 = ((o + 1) % 14 + j) % 14 by omega] at hm
        exact ⟨m, rs_copy hm (h3 _ (Nat.mod_lt _ (by omega)) (by omega)) (fun i hi => g3 j (by omega) i hi)⟩
/-- the save slots of both sides -/
def RK (B : Int) (slots saved kept isKept : Nat → Int32) : Prop := ∀ s, s < 2 → saved s = isKept s ∧ (¬ saved s = 0 → ∃ n, RS B n (sl slots (400 * s)) (sl kept (377 * s)))
theorem RK.mono {B B' : Int} {slots saved kept isKept : Nat → Int32} (hB : B ≤ B') (h : RK B slots saved kept isKept) : RK B' slots saved kept isKept := fun s hs => ⟨(h s hs).1, fun g => by obtain ⟨n, q⟩ := (h s hs).2 g; exact ⟨n, q.mono hB⟩⟩
theorem m_refused {f x : Int32} {K : Int32 → Int32 → Prop} (k0 : x ≤ 0 → K 0 x) (k1 : ¬ x ≤ 0 → K 1 x) : xp_X5_refused f x K := ⟨k0, k1⟩
theorem m_ref0 {f : Int32} {K : Int32 → Int32 → Prop} (k : K 0 0) : xp_X5_refused f 0 K := ⟨fun _ => k, fun c => absurd (by decide) c⟩
theorem m_ref1 {f : Int32} {K : Int32 → Int32 → Prop} (k : K 1 1) : xp_X5_refused f 1 K := ⟨fun c => absurd c (by decide), fun _ => k⟩
theorem m_ref2 {f : Int32} {K : Int32 → Int32 → Prop} (k : K 1 2) : xp_X5_refused f 2 K := ⟨fun c => absurd c (by decide), fun _ => k⟩
/-! ===== all of both sides ===== -/
def RX (signs : Nat → Int32) (len : Int32) (text : Nat → Int32) (size : Int32) : Prop := ∃ k, k ≤ 120 ∧ len = nI k ∧ size = nI k ∧ chR signs k ∧ ∀ j, j < k → signs j = text j
def RR (B : Int) (sx : SX) (sm : SM) : Prop :=
  (∃ n, RS B n sx.1 sm.2.2.2.1) ∧ RX sx.2.2.2.2.2.1 sx.2.2.2.2.2.2.1 sm.2.1 sm.2.2.1 ∧
  RD B sx.2.2.1 sx.2.2.2.2.2.2.2.2.2.2.2.2.2.2.1 sx.2.2.2.2.2.2.2.2.2.2.2.2.2.2.2 sm.2.2.2.2.2.1 sm.2.2.2.2.2.2.1 ∧
  RK B sx.2.2.2.1 sx.2.2.2.2.1 sm.2.2.2.2.2.2.2.1 sm.2.2.2.2.2.2.2.2.1
theorem c_ok {r3 : Int32} {A1 A2 : Prop} {x y : Int64} (h3 : r3 = 0) (hxy : x = y) (a : A2) : ((r3 = 0 → ((¬ (0 : Int32) = 0 → A1) ∧ ((0 : Int32) = 0 → (((lg_cmp x y) = 0 → A2) ∧ (¬ (lg_cmp x y) = 0 → False))))) ∧ (¬ r3 = 0 → False)) :=
  ⟨fun _ => ⟨fun c => absurd rfl c, fun _ => ⟨fun _ => a, fun c => c ((lg_cmp_eq x y).mpr hxy)⟩⟩, fun c => c h3⟩
theorem c_th {r1 r3 : Int32} {A1 A2 : Prop} (h3 : r3 = r1) (h1 : ¬ r1 = 0) (a : A1) : ((r3 = r1 → ((¬ r1 = 0 → A1) ∧ (r1 = 0 → A2))) ∧ (¬ r3 = r1 → False)) :=
  ⟨fun _ => ⟨fun _ => a, fun c => absurd c h1⟩, fun c => c h3⟩
theorem c_eq {r1 r2 : Int32} {A : Prop} (h : r1 = r2) (a : A) : ((r1 = r2 → A) ∧ (¬ r1 = r2 → False)) := ⟨fun _ => a, fun c => c h⟩
