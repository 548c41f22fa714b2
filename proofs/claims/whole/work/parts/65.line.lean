/-! ===== the line of a take ===== -/
theorem rg_nv {x : Int32} {h : Int} (hx : rg 0 h x) : x = nI x.toNatClampNeg ∧ (x.toNatClampNeg : Int) ≤ h := by
  obtain ⟨j, hj, e⟩ := nI_of (rg_0 hx (by omega))
  have := hx.2
  rw [e, nI_toInt hj] at this
  rw [e, nI_clamp hj]
  exact ⟨rfl, this⟩
/-- what stands in the first places -/
def Ln (l : List Nat) (f : Nat → Int32) (n : Int32) : Prop := n = nI l.length ∧ ∀ j, j < l.length → f j = nI (l.getD j 0)
theorem ln_0 {f : Nat → Int32} : Ln [] f 0 := ⟨rfl, fun j hj => absurd hj (Nat.not_lt_zero j)⟩
theorem gd_l {l m : List Nat} {j : Nat} (h : j < l.length) : (l ++ m).getD j 0 = l.getD j 0 := by
  rw [List.getD_eq_getElem?_getD, List.getD_eq_getElem?_getD, List.getElem?_append_left h]
theorem gd_r {l : List Nat} {c : Nat} : (l ++ [c]).getD l.length 0 = c := by
  rw [List.getD_eq_getElem?_getD, List.getElem?_append_right (Nat.le_refl _), Nat.sub_self]; rfl
theorem ln_add {l : List Nat} {f : Nat → Int32} {n : Int32} {c : Nat} (h : Ln l f n) (hl : l.length < 1000) : Ln (l ++ [c]) (upd f n.toNatClampNeg (nI c)) (n + 1) := by
  refine ⟨by rw [h.1, nI_1, List.length_append]; rfl, fun j hj => ?_⟩
  rw [h.1, nI_clamp (by omega)]
  rw [List.length_append] at hj
  have hj' : j < l.length + 1 := hj
  by_cases q : j = l.length
  · subst q
    rw [pk_us, gd_r]
  · rw [pk_un q, h.2 j (by omega), gd_l (by omega)]
theorem nar_c {c : Nat} (hc : c < 65536) : vp_nar .char (nI c) = nI c := by
  unfold vp_nar
  rw [(pk_charN hc).1]
theorem cast_c {c : Nat} (hc : c < 65536) : ((nI c).toUInt32 % 65536).toInt32 = nI c := by
  rw [pk_char, pk_tn (by omega), Nat.mod_eq_of_lt hc]
theorem e_add {l : List Nat} {f : Nat → Int32} {n x : Int32} {c : Nat} {K : ((Nat → Int32) × Int32) → Prop} (h : Ln l f n) (hl : l.length < 80) (hx : x = nI c) (hc : c < 65536) (k : ∀ f' n', Ln (l ++ [c]) f' n' → K (f', n')) : xp_X1_add f n x K := by
  unfold xp_X1_add
  subst hx
  have e := h.1
  rw [nar_c hc]
  refine ⟨fun q => absurd q (by rw [e]; exact nI_ge (b := 80) hl (by omega)), fun _ => ⟨by rw [e]; exact vp_in_nI hl (by omega), k _ _ (ln_add h (by omega))⟩⟩
theorem m_write {l : List Nat} {f : Nat → Int32} {n x : Int32} {c : Nat} {K : ((Nat → Int32) × Int32) → Prop} (h : Ln l f n) (hl : l.length < 60) (hx : x = nI c) (k : ∀ f' n', Ln (l ++ [c]) f' n' → K (f', n')) : xp_X5_write f n x K := by
  unfold xp_X5_write
  subst hx
  exact ⟨by rw [h.1]; exact vp_in_nI hl (by omega), k _ _ (ln_add h (by omega))⟩
/-- a number's digits, from the weight of e zeros down -/
def dg (v : Nat) : Nat → List Nat
  | 0 => [48 + v % 10]
  | e + 1 => if 10 ^ (e + 1) ≤ v then (48 + v / 10 ^ (e + 1) % 10) :: dg v e else dg v e
theorem dg_len (v : Nat) : ∀ e, (dg v e).length ≤ e + 1
  | 0 => Nat.le_refl _
  | e + 1 => by
    have := dg_len v e
    unfold dg
    split
    · rw [List.length_cons]; omega
    · omega
theorem dg_up {v e : Nat} (h : v < 10 ^ (e + 1)) : ∀ d, dg v (e + d) = dg v e
  | 0 => rfl
  | d + 1 => by
    have m : 10 ^ (e + 1) ≤ 10 ^ (e + d + 1) := Nat.pow_le_pow_right (by omega) (by omega)
    show dg v (e + d + 1) = dg v e
    conv => lhs; unfold dg
    rw [if_neg (by omega)]
    exact dg_up h d
theorem dg6 {v : Nat} (h : v < 1000000) : (dg v 9).length ≤ 6 := by
  rw [show 9 = 5 + 4 from rfl, dg_up (e := 5) (by omega)]
  exact dg_len v 5
theorem p9 {e : Nat} (h : e ≤ 9) : 10 ^ e ≤ 1000000000 := by
  have := Nat.pow_le_pow_right (n := 10) (by omega) h
  omega
theorem p1 : ∀ e : Nat, 1 ≤ 10 ^ e
  | 0 => Nat.le_refl 1
  | e + 1 => by have := p1 e; rw [Nat.pow_succ]; omega
theorem dgt {v e : Nat} (hv : v < 2147483648) (he : e ≤ 9) : (nI v / nI (10 ^ e)) - (nI v / nI (10 ^ e)) / 10 * 10 = nI (v / 10 ^ e % 10) := by
  have a := p9 he
  have b := p1 e
  rw [pk_div hv (by omega) (by omega), show (10 : Int32) = nI 10 from rfl, pk_rem (Nat.lt_of_le_of_lt (Nat.div_le_self _ _) hv) (by omega) (by omega)]
theorem e_num17 {l : List Nat} {f : Nat → Int32} {n : Int32} {v e : Nat} {K : ((Nat → Int32) × Int32) → Prop} {X3 : (Nat → Int32) → Int32 → Int32 → Int32 → Prop} (hv : v < 2147483648) (he : e ≤ 9) (h : Ln l f n) (hl : l.length < 80) (k : ∀ f' n', Ln (l ++ [48 + v / 10 ^ e % 10]) f' n' → X3 f' n' (nI v) (nI (10 ^ e) / 10)) : xp_X1_addNumber_17 K X3 f n (nI v) (nI (10 ^ e)) := by
  unfold xp_X1_addNumber_17
  have a := p9 he
  have b := p1 e
  refine ⟨nI_ne0 (by omega) (by omega), ?_⟩
  have m : v / 10 ^ e % 10 < 10 := Nat.mod_lt _ (by omega)
  rw [dgt hv he, show (48 : Int32) = nI 48 from rfl, nI_add, cast_c (by omega)]
  exact e_add h hl rfl (by omega) k
theorem e_num3 {v : Nat} {K : ((Nat → Int32) × Int32) → Prop} (hv : v < 2147483648) : ∀ (e : Nat) (l : List Nat) (f : Nat → Int32) (n : Int32), e ≤ 9 → Ln l f n → l.length + (dg v e).length ≤ 80 → (∀ f' n', Ln (l ++ dg v e) f' n' → K (f', n')) → xp_X1_addNumber_3 K (e + 2) f n (nI v) (nI (10 ^ e))
  | 0, l, f, n, he, h, hl, k => by
    rw [xp_X1_addNumber_3]
    have hl' : l.length + 1 ≤ 80 := hl
    refine ⟨fun c => absurd c (by decide), fun _ => ⟨fun _ => e_num17 hv he h (by omega) (fun f' n' h' => ?_), fun c => absurd rfl c⟩⟩
    rw [xp_X1_addNumber_3]
    refine ⟨fun _ => k f' n' ?_, fun c => absurd (by decide) c⟩
    rw [Nat.pow_zero, Nat.div_one] at h'
    exact h'
  | e + 1, l, f, n, he, h, hl, k => by
    rw [xp_X1_addNumber_3]
    have a := p9 he
    have b := p1 e
    have s : 10 ^ (e + 1) = 10 * 10 ^ e := by rw [Nat.pow_succ]; omega
    have nx : nI (10 ^ (e + 1)) / 10 = nI (10 ^ e) := by
      rw [show (10 : Int32) = nI 10 from rfl, pk_div (by omega) (by omega) (by omega), s, Nat.mul_div_cancel_left _ (by omega)]
    refine ⟨fun c => absurd c (nI_nle (by omega) (by omega)), fun _ => ⟨fun c => absurd (nI_inj (b := 1) (by omega) (by omega) c) (by omega), fun _ => ⟨fun c => ?_, fun c => ?_⟩⟩⟩
    · have c' : v < 10 ^ (e + 1) := (nI_ltI (by omega) (by omega)).mp c
      rw [nx]
      have d : dg v (e + 1) = dg v e := by
        conv => lhs; unfold dg
        rw [if_neg (by omega)]
      rw [d] at hl k
      exact e_num3 hv e l f n (by omega) h hl k
    · have c' : ¬ v < 10 ^ (e + 1) := fun q => c ((nI_ltI (by omega) (by omega)).mpr q)
      have d : dg v (e + 1) = (48 + v / 10 ^ (e + 1) % 10) :: dg v e := by
        conv => lhs; unfold dg
        rw [if_pos (by omega)]
      rw [d] at hl k
      rw [List.length_cons] at hl
      refine e_num17 hv he h (by omega) (fun f' n' h' => ?_)
      rw [nx]
      refine e_num3 hv e _ f' n' (by omega) h' (by rw [List.length_append]; show l.length + 1 + _ ≤ 80; omega) (fun f'' n'' h'' => k f'' n'' ?_)
      rw [List.append_assoc] at h''
      exact h''
theorem e_addNumber {l : List Nat} {f : Nat → Int32} {n x : Int32} {v : Nat} {K : ((Nat → Int32) × Int32) → Prop} (h : Ln l f n) (hv : v < 1000000) (hx : x = nI v) (hl : l.length + 6 ≤ 80) (k : ∀ f' n', Ln (l ++ dg v 9) f' n' → K (f', n')) : xp_X1_addNumber f n x K := by
  subst hx
  have := dg6 hv
  exact ⟨9 + 2, e_num3 (by omega) 9 l f n (by omega) h (by omega) k⟩
/-- the digits all from the weight of e zeros -/
def dq (v : Nat) : Nat → List Nat
  | 0 => [48 + v % 10]
  | e + 1 => (48 + v / 10 ^ (e + 1) % 10) :: dq v e
theorem dq_len (v : Nat) : ∀ e, (dq v e).length = e + 1
  | 0 => rfl
  | e + 1 => by unfold dq; rw [List.length_cons, dq_len v e]
theorem dq_dg {v : Nat} : ∀ e, (e = 0 ∨ 10 ^ e ≤ v) → dg v e = dq v e
  | 0, _ => rfl
  | e + 1, h => by
    have h' : 10 ^ (e + 1) ≤ v := by rcases h with h | h; omega; exact h
    have m : 10 ^ e ≤ 10 ^ (e + 1) := Nat.pow_le_pow_right (by omega) (by omega)
    unfold dg dq
    rw [if_pos h', dq_dg e (Or.inr (by omega))]
theorem m_num18 {v : Nat} {K : ((Nat → Int32) × Int32) → Prop} (hv : v < 2147483648) : ∀ (e : Nat) (l : List Nat) (f : Nat → Int32) (n : Int32), e ≤ 9 → Ln l f n → l.length + (e + 1) ≤ 60 → (∀ f' n', Ln (l ++ dq v e) f' n' → K (f', n')) → xp_X5_writeNumber_18 K (e + 2) f n (nI v) (nI (10 ^ e))
  | 0, l, f, n, he, h, hl, k => by
    rw [xp_X5_writeNumber_18]
    refine ⟨fun c => absurd c (by decide), fun _ => ⟨by decide, ?_⟩⟩
    rw [dgt hv he, show (48 : Int32) = nI 48 from rfl, nI_add]
    refine m_write h (by omega) rfl (fun f' n' h' => ?_)
    rw [xp_X5_writeNumber_18]
    refine ⟨fun _ => k f' n' ?_, fun c => absurd (by decide) c⟩
    rw [Nat.pow_zero, Nat.div_one] at h'
    exact h'
  | e + 1, l, f, n, he, h, hl, k => by
    rw [xp_X5_writeNumber_18]
    have a := p9 he
    have b := p1 e
    have s : 10 ^ (e + 1) = 10 * 10 ^ e := by rw [Nat.pow_succ]; omega
    have nx : nI (10 ^ (e + 1)) / 10 = nI (10 ^ e) := by
      rw [show (10 : Int32) = nI 10 from rfl, pk_div (by omega) (by omega) (by omega), s, Nat.mul_div_cancel_left _ (by omega)]
    refine ⟨fun c => absurd c (nI_nle (by omega) (by omega)), fun _ => ⟨nI_ne0 (by omega) (by omega), ?_⟩⟩
    rw [dgt hv he, show (48 : Int32) = nI 48 from rfl, nI_add]
    refine m_write h (by omega) rfl (fun f' n' h' => ?_)
    rw [nx]
    refine m_num18 hv e _ f' n' (by omega) h' (by rw [List.length_append]; show l.length + 1 + _ ≤ 60; omega) (fun f'' n'' h'' => k f'' n'' ?_)
    rw [List.append_assoc] at h''
    exact h''
theorem m_num2 {v : Nat} {l : List Nat} {f : Nat → Int32} {n : Int32} {K : ((Nat → Int32) × Int32) → Prop} (hv : v < 1000000) (h : Ln l f n) (hl : l.length + 6 ≤ 60) (k : ∀ f' n', Ln (l ++ dg v 9) f' n' → K (f', n')) : ∀ (d e : Nat), e + d = 9 → (e = 0 ∨ 10 ^ e ≤ v) → xp_X5_writeNumber_2 K (d + 1) f n (nI v) (nI (10 ^ e)) := by
  intro d
  induction d with
  | zero =>
    intro e he hge
    have : e = 9 := by omega
    subst this
    exact absurd hge (by omega)
  | succ d ih =>
    intro e he hge
    have a := p9 (e := e) (by omega)
    have b := p1 e
    have s : 10 ^ (e + 1) = 10 * 10 ^ e := by rw [Nat.pow_succ]; omega
    rw [xp_X5_writeNumber_2, pk_div (by omega) (by omega) (by omega)]
    refine ⟨nI_ne0 (by omega) (by omega), ⟨fun c => ?_, fun c => ?_⟩⟩
    · have c' : v / 10 ^ e ≤ 9 := (nI_leI (b := 9) (Nat.lt_of_le_of_lt (Nat.div_le_self _ _) (by omega)) (by decide)).mp c
      have lt : v < 10 ^ (e + 1) := by
        rw [s, Nat.mul_comm]
        have := Nat.lt_mul_div_succ v (show 0 < 10 ^ e by omega)
        have m : 10 ^ e * (v / 10 ^ e + 1) ≤ 10 ^ e * 10 := Nat.mul_le_mul_left _ (by omega)
        omega
      have e5 : e ≤ 5 := by
        rcases Nat.lt_or_ge e 6 with q | q
        · omega
        · have m : 10 ^ 6 ≤ 10 ^ e := Nat.pow_le_pow_right (by omega) q
          rcases hge with g | g <;> omega
      refine ⟨e + 2, m_num18 (by omega) e l f n (by omega) h (by omega) (fun f' n' h' => k f' n' ?_)⟩
      rw [← dq_dg e hge] at h'
      rw [show 9 = e + (9 - e) by omega, dg_up lt]
      exact h'
    · have c' : ¬ v / 10 ^ e ≤ 9 := fun q => c (nI_le (b := 9) q (by decide))
      have ge : 10 ^ (e + 1) ≤ v := by
        rw [s, Nat.mul_comm]
        have m : 10 ^ e * 10 ≤ 10 ^ e * (v / 10 ^ e) := Nat.mul_le_mul_left _ (by omega)
        have := Nat.mul_div_le v (10 ^ e)
        omega
      rw [show (10 : Int32) = nI 10 from rfl, pk_mul, show 10 ^ e * 10 = 10 ^ (e + 1) by omega]
      exact ih (e + 1) (by omega) (Or.inr ge)
theorem m_writeNumber {l : List Nat} {f : Nat → Int32} {n x : Int32} {v : Nat} {K : ((Nat → Int32) × Int32) → Prop} (h : Ln l f n) (hv : v < 1000000) (hx : x = nI v) (hl : l.length + 6 ≤ 60) (k : ∀ f' n', Ln (l ++ dg v 9) f' n' → K (f', n')) : xp_X5_writeNumber f n x K := by
  subst hx
  exact ⟨9 + 1, m_num2 hv h hl k 9 0 (by omega) (Or.inl rfl)⟩
def pl (l : List Nat) (c a b : Nat) : List Nat := l ++ [32] ++ [c] ++ dg a 9 ++ [58] ++ dg b 9
theorem pl_len {l : List Nat} {c a b : Nat} (ha : a < 1000000) (hb : b < 1000000) : (pl l c a b).length ≤ l.length + 15 := by
  have := dg6 ha
  have := dg6 hb
  unfold pl
  simp only [List.length_append, List.length_cons, List.length_nil]
  omega
theorem e_addPlace {l : List Nat} {f : Nat → Int32} {n x y z : Int32} {c a b : Nat} {K : ((Nat → Int32) × Int32) → Prop} (h : Ln l f n) (hl : l.length + 15 ≤ 60) (hx : x = nI c) (hc : c < 256) (hy : y = nI a) (hz : z = nI b) (ha : a < 1000000) (hb : b < 1000000) (k : ∀ f' n', Ln (pl l c a b) f' n' → K (f', n')) : xp_X1_addPlace f n x y z K := by
  unfold xp_X1_addPlace
  have := dg6 ha
  refine e_add h (c := 32) (by omega) rfl (by omega) (fun f1 n1 h1 => ?_)
  refine e_add h1 (c := c) (by simp only [List.length_append, List.length_cons, List.length_nil]; omega) hx (by omega) (fun f2 n2 h2 => ?_)
  refine e_addNumber h2 ha hy (by simp only [List.length_append, List.length_cons, List.length_nil]; omega) (fun f3 n3 h3 => ?_)
  refine e_add h3 (c := 58) (by simp only [List.length_append, List.length_cons, List.length_nil]; omega) rfl (by omega) (fun f4 n4 h4 => ?_)
  exact e_addNumber h4 hb hz (by simp only [List.length_append, List.length_cons, List.length_nil]; omega) (fun f5 n5 h5 => k f5 n5 h5)
theorem m_writeRoll {l : List Nat} {f : Nat → Int32} {n x y z : Int32} {c a b : Nat} {K : ((Nat → Int32) × Int32) → Prop} (h : Ln l f n) (hl : l.length + 15 ≤ 60) (hx : x = nI c) (hy : y = nI a) (hz : z = nI b) (ha : a < 1000000) (hb : b < 1000000) (k : ∀ f' n', Ln (pl l c a b) f' n' → K (f', n')) : xp_X5_writeRoll f n x y z K := by
  unfold xp_X5_writeRoll
  have := dg6 ha
  refine m_write h (c := 32) (by omega) rfl (fun f1 n1 h1 => ?_)
  refine m_write h1 (c := c) (by simp only [List.length_append, List.length_cons, List.length_nil]; omega) hx (fun f2 n2 h2 => ?_)
  refine m_writeNumber h2 ha hy (by simp only [List.length_append, List.length_cons, List.length_nil]; omega) (fun f3 n3 h3 => ?_)
  refine m_write h3 (c := 58) (by simp only [List.length_append, List.length_cons, List.length_nil]; omega) rfl (fun f4 n4 h4 => ?_)
  exact m_writeNumber h4 hb hz (by simp only [List.length_append, List.length_cons, List.length_nil]; omega) (fun f5 n5 h5 => k f5 n5 h5)
abbrev nv (x : Int32) : Nat := x.toNatClampNeg
def l1 (V : Nat → Nat → Int32) (i : Nat) : List Nat := [] ++ dg (nv (V (i + 1) 3)) 9 ++ [65 + nv (V (i + 1) 4)] ++ [47] ++ dg (nv (V (i + 1) 5)) 9
def l2 (V : Nat → Nat → Int32) (i : Nat) : List Nat := if V (i + 1) 14 = 1 then l1 V i ++ [42] else l1 V i
def l3 (V : Nat → Nat → Int32) (i : Nat) : List Nat := if isr V i = true then l2 V i else l2 V i ++ [63]
def l4 (V : Nat → Nat → Int32) (i : Nat) : List Nat := if V (i + 1) 15 = 1 then l3 V i ++ [120] else l3 V i
def l5 (V : Nat → Nat → Int32) (i : Nat) : List Nat := pl (l4 V i) 99 (nv (V (i + 1) 6)) (nv (V (i + 1) 7))
def l6 (V : Nat → Nat → Int32) (i : Nat) : List Nat := if V (i + 1) 9 = -1 then l5 V i else pl (l5 V i) 115 (nv (V (i + 1) 9)) (nv (V (i + 1) 11))
theorem l_num {B : Int} {n i : Nat} {V : Nat → Nat → Int32} (h : Inv B n V) (hi : i < n) (hB : B < 1000000) : (V (i + 1) 3 = nI (nv (V (i + 1) 3)) ∧ nv (V (i + 1) 3) < 1000000) ∧ (V (i + 1) 4 = nI (nv (V (i + 1) 4)) ∧ nv (V (i + 1) 4) < 26) ∧ (V (i + 1) 5 = nI (nv (V (i + 1) 5)) ∧ nv (V (i + 1) 5) < 1000000) ∧ (V (i + 1) 6 = nI (nv (V (i + 1) 6)) ∧ nv (V (i + 1) 6) < 1000000) ∧ (V (i + 1) 7 = nI (nv (V (i + 1) 7)) ∧ nv (V (i + 1) 7) < 1000000) ∧ (V (i + 1) 9 ≠ -1 → (V (i + 1) 9 = nI (nv (V (i + 1) 9)) ∧ nv (V (i + 1) 9) < 1000000) ∧ (V (i + 1) 11 = nI (nv (V (i + 1) 11)) ∧ nv (V (i + 1) 11) < 1000000)) := by
  have t := h.2.2.2.1 i hi
  have h24 := h.1
  have g : ∀ {x : Int32} {lo H : Int} (M : Int), rg lo H x → 0 ≤ lo → H < M → x = nI (nv x) ∧ (nv x : Int) < M := by
    intro x lo H M hx hl hM
    have a := rg_nv (rg_mono hl (Int.le_refl H) hx)
    exact ⟨a.1, by have := a.2; show (x.toNatClampNeg : Int) < M; omega⟩
  have a3 := g 1000000 (show rg 1 99 (V (i + 1) 3) from t 3) (by omega) (by omega)
  have a4 := g 26 (show rg 0 25 (V (i + 1) 4) from t 4) (by omega) (by omega)
  have a5 := g 1000000 (show rg 1 99 (V (i + 1) 5) from t 5) (by omega) (by omega)
  have a6 := g 1000000 (show rg 1 B (V (i + 1) 6) from t 6) (by omega) (by omega)
  have a7 := g 1000000 (show rg 0 999 (V (i + 1) 7) from t 7) (by omega) (by omega)
  have h8 : rg 1 B (V 0 8) := h.2.2.1 8
  refine ⟨⟨a3.1, by have := a3.2; omega⟩, ⟨a4.1, by have := a4.2; omega⟩, ⟨a5.1, by have := a5.2; omega⟩, ⟨a6.1, by have := a6.2; omega⟩, ⟨a7.1, by have := a7.2; omega⟩, fun hs => ?_⟩
  rcases h.2.2.2.2 i hi with q | ⟨q1, q2⟩
  · exact absurd q hs
  · have b9 := g 1000000 q1 (by omega) (by have := h8.2; omega)
    have b11 := g 1000000 q2 (by omega) (by omega)
    exact ⟨⟨b9.1, by have := b9.2; omega⟩, ⟨b11.1, by have := b11.2; omega⟩⟩
theorem l_len {B : Int} {n i : Nat} {V : Nat → Nat → Int32} (h : Inv B n V) (hi : i < n) (hB : B < 1000000) : (l1 V i).length ≤ 14 ∧ (l2 V i).length ≤ 15 ∧ (l3 V i).length ≤ 16 ∧ (l4 V i).length ≤ 17 ∧ (l5 V i).length ≤ 32 := by
  obtain ⟨a3, a4, a5, a6, a7, a9⟩ := l_num h hi hB
  have e1 : (l1 V i).length ≤ 14 := by
    have := dg6 a3.2
    have := dg6 a5.2
    unfold l1
    simp only [List.length_append, List.length_cons, List.length_nil]
    omega
  have e2 : (l2 V i).length ≤ 15 := by
    unfold l2
    split
    · simp only [List.length_append, List.length_cons, List.length_nil]; omega
    · omega
  have e3 : (l3 V i).length ≤ 16 := by
    unfold l3
    split
    · omega
    · simp only [List.length_append, List.length_cons, List.length_nil]; omega
  have e4 : (l4 V i).length ≤ 17 := by
    unfold l4
    split
    · simp only [List.length_append, List.length_cons, List.length_nil]; omega
    · omega
  have e5 : (l5 V i).length ≤ 32 := by
    have := pl_len (l := l4 V i) (c := 99) a6.2 a7.2
    unfold l5
    omega
  exact ⟨e1, e2, e3, e4, e5⟩
theorem l_len6 {B : Int} {n i : Nat} {V : Nat → Nat → Int32} (h : Inv B n V) (hi : i < n) (hB : B < 1000000) : (l6 V i).length ≤ 47 := by
  obtain ⟨a3, a4, a5, a6, a7, a9⟩ := l_num h hi hB
  have := (l_len h hi hB).2.2.2.2
  unfold l6
  split
  · omega
  · rename_i q
    have := pl_len (l := l5 V i) (c := 115) (a9 q).1.2 (a9 q).2.2
    omega
theorem e_line {B : Int} {a f : Nat → Int32} {n i : Nat} {x len : Int32} {K : ((Nat → Int32) × Int32) → Prop} (h : Inv B n (vw a)) (hi : i < n) (hB : B < 1000000) (hx : x = nI i) (k : ∀ f' n', Ln (l6 (vw a) i) f' n' → K (f', n')) : xp_X1_write a f len x K := by
  obtain ⟨a3, a4, a5, a6, a7, a9⟩ := l_num h hi hB
  obtain ⟨e1, e2, e3, e4, e5⟩ := l_len h hi hB
  have h24 := h.1
  have d3 := dg6 a3.2
  have d5 := dg6 a5.2
  unfold xp_X1_write
  refine e_of (i := i) (w := 3) (by omega) (by omega) (by omega) hx rfl (e_addNumber ln_0 a3.2 a3.1 (by decide) (fun f1 n1 h1 => ?_))
  refine e_of (i := i) (w := 4) (by omega) (by omega) (by omega) hx rfl ?_
  have c4 : (((65 + vw a (i + 1) 4).toUInt32 % 65536).toInt32) = nI (65 + nv (vw a (i + 1) 4)) := by
    have := a4.2
    conv => lhs; rw [a4.1]
    rw [show (65 : Int32) = nI 65 from rfl, nI_add, cast_c (by omega)]
  refine e_add h1 (c := 65 + nv (vw a (i + 1) 4)) (by simp only [List.length_append, List.length_nil]; omega) c4 (by have := a4.2; omega) (fun f2 n2 h2 => ?_)
  refine e_add h2 (c := 47) (by simp only [List.length_append, List.length_cons, List.length_nil]; omega) rfl (by omega) (fun f3 n3 h3 => ?_)
  refine e_of (i := i) (w := 5) (by omega) (by omega) (by omega) hx rfl (e_addNumber h3 a5.2 a5.1 (by simp only [List.length_append, List.length_cons, List.length_nil]; omega) (fun f4 n4 h4 => ?_))
  have h4' : Ln (l1 (vw a) i) f4 n4 := h4
  have s6 : ∀ f n, Ln (l5 (vw a) i) f n → xp_X3_hasSound a x (fun r5 => ((r5 = 0 → K (f, n)) ∧ (¬ r5 = 0 → xp_X3_of a x 9 (fun r7 => xp_X3_of a x 11 (fun r8 => xp_X1_addPlace f n 115 r7 r8 (fun u9 => K (u9.1, u9.2))))))) := by
    intro f n h
    refine e_hasSound (i := i) (by omega) hx ?_
    unfold l6 at k
    by_cases q : vw a (i + 1) 9 = -1
    · rw [if_pos q] at k ⊢
      exact ⟨fun _ => k f n h, fun c => absurd rfl c⟩
    · rw [if_neg q] at k ⊢
      refine ⟨fun c => absurd c (by decide), fun _ => e_of (i := i) (w := 9) (by omega) (by omega) (by omega) hx rfl (e_of (i := i) (w := 11) (by omega) (by omega) (by omega) hx rfl ?_)⟩
      exact e_addPlace h (c := 115) (by omega) rfl (by omega) (a9 q).1.1 (a9 q).2.1 (a9 q).1.2 (a9 q).2.2 (fun f' n' h' => k f' n' h')
  have s5 : ∀ f n, Ln (l4 (vw a) i) f n → xp_X3_of a x 6 (fun r2 => xp_X3_of a x 7 (fun r3 => xp_X1_addPlace f n 99 r2 r3 (fun u4 => xp_X3_hasSound a x (fun r5 => ((r5 = 0 → K (u4.1, u4.2)) ∧ (¬ r5 = 0 → xp_X3_of a x 9 (fun r7 => xp_X3_of a x 11 (fun r8 => xp_X1_addPlace u4.1 u4.2 115 r7 r8 (fun u9 => K (u9.1, u9.2)))))))))) := by
    intro f n h
    refine e_of (i := i) (w := 6) (by omega) (by omega) (by omega) hx rfl (e_of (i := i) (w := 7) (by omega) (by omega) (by omega) hx rfl ?_)
    exact e_addPlace h (c := 99) (by omega) rfl (by omega) a6.1 a7.1 a6.2 a7.2 (fun f' n' h' => s6 f' n' h')
  have s4 : ∀ f n, Ln (l3 (vw a) i) f n → xp_X3_of a x 15 (fun r2 => ((¬ r2 = 1 → xp_X1_write_103 a K f n x 0) ∧ (r2 = 1 → xp_X1_write_103 a K f n x 1))) := by
    intro f n h
    refine e_of (i := i) (w := 15) (by omega) (by omega) (by omega) hx rfl ⟨fun c => ?_, fun c => ?_⟩
    · unfold xp_X1_write_103 xp_X1_addIf
      exact ⟨fun _ => s5 f n (by unfold l4; rw [if_neg c]; exact h), fun q => absurd rfl q⟩
    · unfold xp_X1_write_103 xp_X1_addIf
      exact ⟨fun q => absurd q (by decide), fun _ => e_add h (c := 120) (by omega) rfl (by omega) (fun f' n' h' => s5 f' n' (by unfold l4; rw [if_pos c]; exact h'))⟩
  have s3 : ∀ f n, Ln (l2 (vw a) i) f n → xp_X3_isRight a x (fun r2 => ((¬ r2 = 0 → xp_X1_write_81 a K f n x 0) ∧ (r2 = 0 → xp_X1_write_81 a K f n x 1))) := by
    intro f n h
    refine e_isRight (i := i) (by omega) hx ?_
    by_cases c : isr (vw a) i = true
    · rw [if_pos c]
      refine ⟨fun _ => ?_, fun q => absurd q (by decide)⟩
      unfold xp_X1_write_81 xp_X1_addIf
      exact ⟨fun _ => s4 f n (by unfold l3; rw [if_pos c]; exact h), fun q => absurd rfl q⟩
    · rw [if_neg c]
      refine ⟨fun q => absurd rfl q, fun _ => ?_⟩
      unfold xp_X1_write_81 xp_X1_addIf
      exact ⟨fun q => absurd q (by decide), fun _ => e_add h (c := 63) (by omega) rfl (by omega) (fun f' n' h' => s4 f' n' (by unfold l3; rw [if_neg c]; exact h'))⟩
  refine e_of (i := i) (w := 14) (by omega) (by omega) (by omega) hx rfl ⟨fun c => ?_, fun c => ?_⟩
  · unfold xp_X1_write_62 xp_X1_addIf
    exact ⟨fun _ => s3 f4 n4 (by unfold l2; rw [if_neg c]; exact h4'), fun q => absurd rfl q⟩
  · unfold xp_X1_write_62 xp_X1_addIf
    exact ⟨fun q => absurd q (by decide), fun _ => e_add h4' (c := 42) (by omega) rfl (by omega) (fun f' n' h' => s3 f' n' (by unfold l2; rw [if_pos c]; exact h'))⟩
theorem m_line {B : Int} {r f : Nat → Int32} {n i : Nat} {rf x z len : Int32} {K : Int32 → (Int32 × (Nat → Int32) × Int32) → Prop} (h : Inv B n (vm r)) (hi : i < n) (hB : B < 1000000) (hx : x = nI i) (hz : ¬ z < 0) (k : ∀ f' n', Ln (l6 (vm r) i) f' n' → K (if z.toNatClampNeg < (l6 (vm r) i).length then nI ((l6 (vm r) i).getD z.toNatClampNeg 0) else -1) (0, f', n')) : xp_X5_line_25 r K rf f len x z 0 := by
  obtain ⟨a3, a4, a5, a6, a7, a9⟩ := l_num h hi hB
  obtain ⟨e1, e2, e3, e4, e5⟩ := l_len h hi hB
  have e6 := l_len6 h hi hB
  have h24 := h.1
  have d3 := dg6 a3.2
  have d5 := dg6 a5.2
  have fin : ∀ f n, Ln (l6 (vm r) i) f n → xp_X5_line_208 r K 0 f n z := by
    intro f n h
    have k' := k f n h
    obtain ⟨j, hj, rfl⟩ := nI_of hz
    rw [nI_clamp hj] at k'
    unfold xp_X5_line_208
    rw [h.1, nI_clamp hj]
    refine ⟨fun c => ?_, fun c => ?_⟩
    · rw [if_neg (fun q => nI_ge q (by omega) c), h.1] at k'
      exact k'
    · have q : j < (l6 (vm r) i).length := by
        rcases Nat.lt_or_ge j (l6 (vm r) i).length with q | q
        · exact q
        · exact absurd (nI_le q hj) c
      rw [if_pos q, ← h.2 j q, h.1] at k'
      exact ⟨vp_in_nI (by omega) (by omega), k'⟩
  have s5 : ∀ f n, Ln (l4 (vm r) i) f n → xp_X5_line_143 r K 0 f n x z := by
    intro f n h
    unfold xp_X5_line_143
    refine m_of (i := i) (w := 6) (z := 5) (by omega) (by omega) (by omega) hx rfl rfl (m_of (i := i) (w := 7) (z := 6) (by omega) (by omega) (by omega) hx rfl rfl ?_)
    refine m_writeRoll h (c := 99) (by omega) rfl a6.1 a7.1 a6.2 a7.2 (fun f' n' h' => ?_)
    have h5 : Ln (l5 (vm r) i) f' n' := h'
    refine m_of (i := i) (w := 9) (z := 8) (by omega) (by omega) (by omega) hx rfl rfl ⟨fun q => fin f' n' (by unfold l6; rw [if_pos q]; exact h5), fun q => ?_⟩
    refine m_of (i := i) (w := 9) (z := 8) (by omega) (by omega) (by omega) hx rfl rfl (m_of (i := i) (w := 11) (z := 10) (by omega) (by omega) (by omega) hx rfl rfl ?_)
    exact m_writeRoll h5 (c := 115) (by omega) rfl (a9 q).1.1 (a9 q).2.1 (a9 q).1.2 (a9 q).2.2 (fun f'' n'' h'' => fin f'' n'' (by unfold l6; rw [if_neg q]; exact h''))
  have s4 : ∀ f n, Ln (l3 (vm r) i) f n → xp_X5_line_123 r K 0 f n x z := by
    intro f n h
    unfold xp_X5_line_123
    refine m_of (i := i) (w := 15) (z := 14) (by omega) (by omega) (by omega) hx rfl rfl ⟨fun c => s5 f n (by unfold l4; rw [if_neg c]; exact h), fun c => ?_⟩
    exact m_write h (c := 120) (by omega) rfl (fun f' n' h' => s5 f' n' (by unfold l4; rw [if_pos c]; exact h'))
  have s3 : ∀ f n, Ln (l2 (vm r) i) f n → xp_X5_line_106 r K 0 f n x z := by
    intro f n h
    unfold xp_X5_line_106
    refine m_isRight (i := i) (by omega) hx ?_
    by_cases c : isr (vm r) i = true
    · rw [if_pos c]
      exact ⟨fun _ => s4 f n (by unfold l3; rw [if_pos c]; exact h), fun q => absurd q (by decide)⟩
    · rw [if_neg c]
      exact ⟨fun q => absurd rfl q, fun _ => m_write h (c := 63) (by omega) rfl (fun f' n' h' => s4 f' n' (by unfold l3; rw [if_neg c]; exact h'))⟩
  unfold xp_X5_line_25 xp_X5_refused
  refine ⟨fun _ => ⟨fun _ => ?_, fun c => absurd rfl c⟩, fun c => absurd (by decide) c⟩
  refine m_of (i := i) (w := 3) (z := 2) (by omega) (by omega) (by omega) hx rfl rfl (m_writeNumber ln_0 a3.2 a3.1 (by decide) (fun f1 n1 h1 => ?_))
  refine m_of (i := i) (w := 4) (z := 3) (by omega) (by omega) (by omega) hx rfl rfl ?_
  have c4 : 65 + vm r (i + 1) 4 = nI (65 + nv (vm r (i + 1) 4)) := by
    conv => lhs; rw [a4.1]
    rw [show (65 : Int32) = nI 65 from rfl, nI_add]
  refine m_write h1 (c := 65 + nv (vm r (i + 1) 4)) (by simp only [List.length_append, List.length_nil]; omega) c4 (fun f2 n2 h2 => ?_)
  refine m_write h2 (c := 47) (by simp only [List.length_append, List.length_cons, List.length_nil]; omega) rfl (fun f3 n3 h3 => ?_)
  refine m_of (i := i) (w := 5) (z := 4) (by omega) (by omega) (by omega) hx rfl rfl (m_writeNumber h3 a5.2 a5.1 (by simp only [List.length_append, List.length_cons, List.length_nil]; omega) (fun f4 n4 h4 => ?_))
  have h4' : Ln (l1 (vm r) i) f4 n4 := h4
  refine m_of (i := i) (w := 14) (z := 13) (by omega) (by omega) (by omega) hx rfl rfl ⟨fun c => s3 f4 n4 (by unfold l2; rw [if_neg c]; exact h4'), fun c => ?_⟩
  exact m_write h4' (c := 42) (by omega) rfl (fun f' n' h' => s3 f' n' (by unfold l2; rw [if_pos c]; exact h'))
theorem e_signAt {l : List Nat} {f : Nat → Int32} {n z : Int32} {K : Int32 → Prop} (h : Ln l f n) (hl : l.length ≤ 60) (hz : ¬ z < 0) (k : K (if z.toNatClampNeg < l.length then nI (l.getD z.toNatClampNeg 0) else -1)) : xp_X1_signAt f n z K := by
  unfold xp_X1_signAt
  obtain ⟨j, hj, rfl⟩ := nI_of hz
  rw [nI_clamp hj] at k ⊢
  rw [h.1]
  refine ⟨fun c => absurd c hz, fun _ => ⟨fun c => ?_, fun c => ?_⟩⟩
  · rw [if_neg (fun q => nI_ge q (by omega) c)] at k; exact k
  · have q : j < l.length := by
      rcases Nat.lt_or_ge j l.length with q | q
      · exact q
      · exact absurd (nI_le q hj) c
    rw [if_pos q, ← h.2 j q] at k
    exact ⟨fun _ => ⟨vp_in_nI (by omega) (by omega), k⟩, fun c1 => absurd (nI_lt (b := 80) (by omega) (by omega)) c1⟩
