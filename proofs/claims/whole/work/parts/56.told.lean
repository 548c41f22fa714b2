def un (x : Int32) : Nat := x.toUInt32.toNat
theorem un_lt (x : Int32) : un x < 4294967296 := x.toUInt32.toNat_lt
theorem un_inj {x y : Int32} (h : un x = un y) : x = y := by
  have : x.toUInt32 = y.toUInt32 := UInt32.toNat_inj.mp h
  cases x; cases y; exact congrArg Int32.ofUInt32 this
theorem nI_inj {a b : Nat} (ha : a < 2 ^ 31) (hb : b < 2 ^ 31) (h : nI a = nI b) : a = b := (nI_eq ha hb).mp h
theorem un_nI {n : Nat} (h : n < 2147483648) : un (nI n) = n := pk_tn (by omega)
theorem un_sub {x y : Int32} (h : un y ≤ un x) : un (x - y) = un x - un y := by
  have hx := un_lt x
  have e : un (x - y) = (4294967296 - un y + un x) % 4294967296 := rfl
  rw [e]; omega
theorem un_add {x y : Int32} (h : un x + un y < 4294967296) : un (x + y) = un x + un y := by
  have e : un (x + y) = (un x + un y) % 4294967296 := rfl
  rw [e]; omega
theorem un_and (x y : Int32) : un (x &&& y) = un x &&& un y := rfl
theorem un_or (x y : Int32) : un (x ||| y) = un x ||| un y := rfl
theorem un_xor (x y : Int32) : un (x ^^^ y) = un x ^^^ un y := rfl
def ush (y k : Int32) : Int32 := (y.toUInt32 >>> (k.toUInt32 &&& Int32.toUInt32 31)).toInt32
theorem un_ush (y : Int32) {k : Int32} {m : Nat} (h : (k.toUInt32 &&& Int32.toUInt32 31).toNat = m) (hm : m < 32) : un (ush y k) = un y / 2 ^ m := by
  have e : un (ush y k) = un y >>> ((k.toUInt32 &&& Int32.toUInt32 31).toNat % 32) := by
    show (y.toUInt32 >>> (k.toUInt32 &&& Int32.toUInt32 31)).toNat = _
    rw [UInt32.toNat_shiftRight]; rfl
  rw [e, h, Nat.mod_eq_of_lt hm, Nat.shiftRight_eq_div_pow]
def bcv (x : Int32) : Int32 :=
  let a := x - (ush x 1 &&& 1431655765)
  let b := (a &&& 858993459) + (ush a 2 &&& 858993459)
  let c := (b + ush b 4) &&& 252645135
  let d := c + ush c 8
  let e := d + ush d 16
  e &&& 63
theorem land_le {a b : Nat} : (a &&& b) ≤ b := Nat.and_le_right
theorem bcv_eq (x : Int32) : bcv x = nI (pcs (un x) 32) := by
  obtain ⟨h1, h2, h3⟩ := bcn_eq (un_lt x)
  have p32 : ∀ X m, pcs X m ≤ m := by
    intro X m
    induction m with
    | zero => exact Nat.le_refl _
    | succ m ih => unfold pcs; split <;> omega
  refine un_inj ?_
  rw [un_nI (by have := p32 (un x) 32; omega), ← h1]
  have ea : un (x - (ush x 1 &&& 1431655765)) = un x - ((un x / 2) &&& 1431655765) := by
    have q : un (ush x 1 &&& 1431655765) = (un x / 2) &&& 1431655765 := by
      rw [un_and, un_ush x (m := 1) rfl (by omega)]; rfl
    rw [un_sub (by rw [q]; exact h2), q]
  unfold bcv bcn
  dsimp only
  generalize x - (ush x 1 &&& 1431655765) = a at *
  rw [← ea] at h3 ⊢
  clear h1 h2 ea
  have l1 : ∀ z : Nat, (z &&& 858993459) ≤ 858993459 := fun z => land_le
  have eb : un ((a &&& 858993459) + (ush a 2 &&& 858993459)) = (un a &&& 858993459) + ((un a / 4) &&& 858993459) := by
    have q : un (ush a 2 &&& 858993459) = (un a / 4) &&& 858993459 := by
      rw [un_and, un_ush a (m := 2) rfl (by omega)]; rfl
    have q2 : un (a &&& 858993459) = un a &&& 858993459 := rfl
    rw [un_add (by rw [q, q2]; have := l1 (un a); have := l1 (un a / 4); omega), q, q2]
  have hb : un ((a &&& 858993459) + (ush a 2 &&& 858993459)) ≤ 1717986918 := by rw [eb]; have := l1 (un a); have := l1 (un a / 4); omega
  generalize (a &&& 858993459) + (ush a 2 &&& 858993459) = b at *
  rw [← eb]
  clear eb
  have ec : un ((b + ush b 4) &&& 252645135) = (un b + un b / 16) &&& 252645135 := by
    rw [un_and, un_add (by rw [un_ush b (m := 4) rfl (by omega)]; omega), un_ush b (m := 4) rfl (by omega)]; rfl
  have hc : un ((b + ush b 4) &&& 252645135) ≤ 252645135 := by rw [ec]; exact land_le
  generalize (b + ush b 4) &&& 252645135 = c at *
  rw [← ec]
  clear ec
  have ed : un (c + ush c 8) = un c + un c / 256 := by
    rw [un_add (by rw [un_ush c (m := 8) rfl (by omega)]; omega), un_ush c (m := 8) rfl (by omega)]
  have hd : un (c + ush c 8) ≤ 253632030 := by rw [ed]; omega
  generalize c + ush c 8 = d at *
  rw [← ed]
  clear ed
  have ee : un (d + ush d 16) = un d + un d / 65536 := by
    rw [un_add (by rw [un_ush d (m := 16) rfl (by omega)]; omega), un_ush d (m := 16) rfl (by omega)]
  rw [un_and, ee]; rfl
theorem j_bits {x : Int32} {K : Int32 → Prop} (k : K (nI (pcs (un x) 32))) : xp_J6_bitCount_0f7a4 x K := by
  rw [← bcv_eq] at k
  exact k
/-! ===== the set of the wrong slates, bit by bit ===== -/
theorem pcs_le (X : Nat) : ∀ m, pcs X m ≤ m
  | 0 => Nat.le_refl _
  | m + 1 => by have := pcs_le X m; unfold pcs; split <;> omega
theorem pcs_zero {X : Nat} {m : Nat} (h : ∀ j, m ≤ j → X.testBit j = false) : ∀ d, pcs X (m + d) = pcs X m
  | 0 => rfl
  | d + 1 => by
    have := pcs_zero h d
    rw [show m + (d + 1) = (m + d) + 1 from rfl, pcs, h (m + d) (by omega), this]; simp
theorem un_bit {k : Nat} (hk : k < 31) : un ((1 : Int32) <<< (nI k &&& 31)) = 2 ^ k := by
  have : ∀ k < 31, un ((1 : Int32) <<< (nI k &&& 31)) = 2 ^ k := by decide +kernel
  exact this k hk
theorem wset_bit (V : Nat → Nat → Int32) : ∀ n, n ≤ 24 → ∀ j, (un (wset V n)).testBit j = (decide (j < n) && !isr V j)
  | 0, _, j => by
    simp only [wset]
    rw [show un 0 = 0 from rfl, Nat.zero_testBit]; simp
  | n + 1, h, j => by
    have ih := wset_bit V n (by omega) j
    unfold wset
    by_cases hr : isr V n = true
    · rw [if_pos hr, ih]
      by_cases hj : j = n
      · subst hj; simp [hr]
      · have : (j < n + 1) ↔ j < n := by omega
        simp [this]
    · rw [if_neg hr, un_or, Nat.testBit_or, ih, un_bit (by omega), Nat.testBit_two_pow]
      by_cases hj : n = j
      · subst hj
        simp [hr]
      · have : (j < n + 1) ↔ j < n := by omega
        simp [hj, this]
theorem wset_cnt (V : Nat → Nat → Int32) {n : Nat} (h : n ≤ 24) : pcs (un (wset V n)) 32 = wrg V n := by
  have e := pcs_zero (X := un (wset V n)) (m := n) (fun j hj => by rw [wset_bit V n h]; simp; omega) (32 - n)
  rw [show n + (32 - n) = 32 by omega] at e
  rw [e]
  have : ∀ m, m ≤ n → pcs (un (wset V n)) m = wrg V m := by
    intro m
    induction m with
    | zero => intro _; rfl
    | succ m ih =>
      intro hm
      unfold pcs wrg
      rw [ih (by omega), wset_bit V n h]
      cases isr V m <;> simp <;> omega
  exact this n (Nat.le_refl n)
theorem e_wrongSlates {a : Nat → Int32} {n : Nat} {K : Int32 → Prop} (hn : vw a 0 0 = nI n) (h24 : n ≤ 24) (k : K (nI (wrg (vw a) n))) : xp_X3_wrongSlates a K := by
  unfold xp_X3_wrongSlates
  refine e_wrongSet hn h24 (j_bits ?_)
  rw [wset_cnt _ h24]; exact k
/-! ===== what the row tells ===== -/
def vtold (V : Nat → Nat → Int32) (i w : Nat) : Int32 := if w = 2 then nI (rno V i) else if w = 16 then (if isr V i = true then 1 else 0) else V (i + 1) w
theorem e_told {a : Nat → Int32} {i w : Nat} {x y : Int32} {K : Int32 → Prop} (hi : i < 24) (hw : w ≤ 16) (hx : x = nI i) (hy : y = nI w) (k : K (vtold (vw a) i w)) : xp_X3_told a x y K := by
  unfold xp_X3_told
  subst hy
  unfold vtold at k
  refine ⟨fun c => ?_, fun c => ⟨fun c1 => ?_, fun c1 => ?_⟩⟩
  · have : w = 2 := nI_inj (by omega) (by omega) c
    rw [if_pos this] at k
    exact e_rightNumber hi hx k
  · have : w = 16 := nI_inj (by omega) (by omega) c1
    rw [if_neg (by omega), if_pos this] at k
    refine e_isRight hi hx ?_
    by_cases hr : isr (vw a) i = true
    · rw [if_pos hr] at k ⊢; exact ⟨fun q => absurd q (by decide), fun _ => k⟩
    · rw [if_neg hr] at k ⊢; exact ⟨fun _ => k, fun q => absurd rfl q⟩
  · have w2 : w ≠ 2 := fun q => c (by rw [q]; rfl)
    have w16 : w ≠ 16 := fun q => c1 (by rw [q]; rfl)
    rw [if_neg w2, if_neg w16] at k
    exact e_of hi (by omega) w2 hx rfl k
def vtotal (V : Nat → Nat → Int32) (n w : Nat) : Int32 := if w = 12 then nI (wrg V n) else if w = 13 then sumw V 14 n else if w = 14 then csec V n else if w = 15 then sumw V 15 n else if w = 16 then nI (unl V n n) else V 0 w
theorem e_total {a : Nat → Int32} {n w : Nat} {x : Int32} {K : Int32 → Prop} (hn : vw a 0 0 = nI n) (h24 : n ≤ 24) (hw : w ≤ 16) (hx : x = nI w) (k : K (vtotal (vw a) n w)) : xp_X3_total a x K := by
  unfold xp_X3_total
  subst hx
  unfold vtotal at k
  refine ⟨fun c => ?_, fun c => ⟨fun c1 => ?_, fun c1 => ⟨fun c2 => ?_, fun c2 => ⟨fun c3 => ?_, fun c3 => ⟨fun c4 => ?_, fun c4 => ⟨fun q => absurd q (nI_nlt (b := 0) (by omega) (by omega)), fun _ => ⟨fun c5 => ?_, fun c5 => ?_⟩⟩⟩⟩⟩⟩⟩
  · rw [if_pos (nI_inj (b := 12) (by omega) (by omega) c)] at k
    exact e_wrongSlates hn h24 k
  · have e := nI_inj (b := 13) (by omega) (by omega) c1
    rw [if_neg (by omega), if_pos e] at k
    exact e_marked hn h24 (w := 14) (by omega) (by omega) rfl k
  · have e := nI_inj (b := 14) (by omega) (by omega) c2
    rw [if_neg (by omega), if_neg (by omega), if_pos e] at k
    exact e_circledSeconds hn h24 k
  · have e := nI_inj (b := 15) (by omega) (by omega) c3
    rw [if_neg (by omega), if_neg (by omega), if_neg (by omega), if_pos e] at k
    exact e_marked hn h24 (w := 15) (by omega) (by omega) rfl k
  · have e := nI_inj (b := 16) (by omega) (by omega) c4
    rw [if_neg (by omega), if_neg (by omega), if_neg (by omega), if_neg (by omega), if_pos e] at k
    exact e_unlikeSounds hn h24 k
  · have w12 : w ≠ 12 := fun q => c (by rw [q]; rfl)
    have w13 : w ≠ 13 := fun q => c1 (by rw [q]; rfl)
    have w14 : w ≠ 14 := fun q => c2 (by rw [q]; rfl)
    have w15 : w ≠ 15 := fun q => c3 (by rw [q]; rfl)
    have w16 : w ≠ 16 := fun q => c4 (by rw [q]; rfl)
    rw [if_neg w12, if_neg w13, if_neg w14, if_neg w15, if_neg w16] at k
    refine ⟨vp_in_nI (by omega) (by omega), ?_⟩
    rw [nI_clamp (by omega), ← vw_h a (by omega)]; exact k
  · exact absurd (nI_le (b := 11) (by by_cases q : w ≤ 11; exact q; exact absurd (by first | (have : w = 12 ∨ w = 13 ∨ w = 14 ∨ w = 15 ∨ w = 16 := by omega); rcases this with rfl | rfl | rfl | rfl | rfl; exact (c rfl).elim; exact (c1 rfl).elim; exact (c2 rfl).elim; exact (c3 rfl).elim; exact (c4 rfl).elim) q) (by omega)) c5
