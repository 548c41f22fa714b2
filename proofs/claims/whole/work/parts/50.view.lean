/-! ===== a state as a table: row 0 the head (0 to 11) and the settings (12 to 15), row i + 1 the take i; both sides are read so ===== -/
def vw (a : Nat → Int32) : Nat → Nat → Int32 := fun i w => if i ≤ 24 ∧ w < 16 ∧ ¬ (1 ≤ i ∧ w = 2) then a (16 * i + w) else 0
theorem vw_at {a : Nat → Int32} {i w : Nat} (hi : i ≤ 24) (hw : w < 16) (h2 : w ≠ 2 ∨ i = 0) : vw a i w = a (16 * i + w) := if_pos ⟨hi, hw, fun q => by omega⟩
def vu (V : Nat → Nat → Int32) (i w : Nat) (x : Int32) : Nat → Nat → Int32 := fun j z => if j = i ∧ z = w then x else V j z
theorem vu_s {V : Nat → Nat → Int32} {i w : Nat} {x : Int32} : vu V i w x i w = x := if_pos ⟨rfl, rfl⟩
theorem vu_n {V : Nat → Nat → Int32} {i w j z : Nat} {x : Int32} (h : ¬ (j = i ∧ z = w)) : vu V i w x j z = V j z := if_neg h
theorem vw_upd {a : Nat → Int32} {i w k : Nat} {x : Int32} (hi : i ≤ 24) (hw : w < 16) (h2 : w ≠ 2 ∨ i = 0) (hk : k = 16 * i + w) : vw (upd a k x) = vu (vw a) i w x := by
  funext j z
  unfold vw vu upd
  dsimp only
  by_cases h : j = i ∧ z = w
  · obtain ⟨rfl, rfl⟩ := h
    rw [if_pos ⟨hi, hw, fun q => by omega⟩, if_pos hk.symm, if_pos ⟨rfl, rfl⟩]
  · rw [if_neg h]
    by_cases g : j ≤ 24 ∧ z < 16 ∧ ¬ (1 ≤ j ∧ z = 2)
    · rw [if_pos g, if_pos g, if_neg (fun q => h (by omega))]
    · rw [if_neg g, if_neg g]
def vm (r : Nat → Int32) : Nat → Nat → Int32 := fun i w => if i ≤ 24 ∧ w < 16 ∧ ¬ (1 ≤ i ∧ w = 2) then (if i = 0 then (if w < 12 then r w else r (w + 1)) else r (17 + 15 * (i - 1) + (if w < 2 then w else w - 1))) else 0
/-- the place in the reference's row of a place of the table -/
def vx (i w : Nat) : Nat := if i = 0 then (if w < 12 then w else w + 1) else 17 + 15 * (i - 1) + (if w < 2 then w else w - 1)
theorem vm_at {r : Nat → Int32} {i w : Nat} (hi : i ≤ 24) (hw : w < 16) (h2 : w ≠ 2 ∨ i = 0) : vm r i w = r (vx i w) := by
  unfold vm vx
  rw [if_pos ⟨hi, hw, fun q => by omega⟩]
  by_cases h0 : i = 0
  · rw [if_pos h0, if_pos h0]
    by_cases h1 : w < 12
    · rw [if_pos h1, if_pos h1]
    · rw [if_neg h1, if_neg h1]
  · rw [if_neg h0, if_neg h0]
theorem vx_inj {i w j z : Nat} (hi : i ≤ 24) (hw : w < 16) (h2 : w ≠ 2 ∨ i = 0) (hj : j ≤ 24) (hz : z < 16) (g2 : z ≠ 2 ∨ j = 0) (h : vx i w = vx j z) : i = j ∧ w = z := by
  unfold vx at h
  repeat' split at h
  all_goals omega
theorem vm_upd {r : Nat → Int32} {i w k : Nat} {x : Int32} (hi : i ≤ 24) (hw : w < 16) (h2 : w ≠ 2 ∨ i = 0) (hk : k = vx i w) : vm (upd r k x) = vu (vm r) i w x := by
  funext j z
  by_cases g : j ≤ 24 ∧ z < 16 ∧ ¬ (1 ≤ j ∧ z = 2)
  · have g2 : z ≠ 2 ∨ j = 0 := by omega
    rw [vm_at g.1 g.2.1 g2]
    unfold vu upd
    by_cases h : j = i ∧ z = w
    · obtain ⟨rfl, rfl⟩ := h
      rw [if_pos hk.symm, if_pos ⟨rfl, rfl⟩]
    · rw [if_neg h, if_neg (fun q => h (vx_inj g.1 g.2.1 g2 hi hw h2 (q.trans hk))), vm_at g.1 g.2.1 g2]
  · unfold vu
    rw [if_neg (fun q => by omega)]
    unfold vm
    rw [if_neg g, if_neg g]
/-- the cell of the files is no part of the table -/
theorem vm_upd12 {r : Nat → Int32} {x : Int32} : vm (upd r 12 x) = vm r := by
  funext j z
  by_cases g : j ≤ 24 ∧ z < 16 ∧ ¬ (1 ≤ j ∧ z = 2)
  · have g2 : z ≠ 2 ∨ j = 0 := by omega
    rw [vm_at g.1 g.2.1 g2, vm_at g.1 g.2.1 g2]
    unfold upd
    rw [if_neg]
    unfold vx
    repeat' split
    all_goals omega
  · unfold vm
    rw [if_neg g, if_neg g]
/-! ===== what is counted over the table ===== -/
def pcnt (V : Nat → Nat → Int32) (s l : Int32) : Nat → Nat
  | 0 => 0
  | k + 1 => pcnt V s l k + (if V (k + 1) 0 = s ∧ V (k + 1) 1 = l ∧ V (k + 1) 15 = 0 then 1 else 0)
theorem pcnt_le (V : Nat → Nat → Int32) (s l : Int32) : ∀ k, pcnt V s l k ≤ k
  | 0 => Nat.le_refl 0
  | k + 1 => by
    have := pcnt_le V s l k
    unfold pcnt
    split <;> omega
/-- the right number of the take i -/
def rno (V : Nat → Nat → Int32) (i : Nat) : Nat := 1 + pcnt V (V (i + 1) 0) (V (i + 1) 1) i
/-- .. of the next take -/
def nno (V : Nat → Nat → Int32) (n : Nat) : Nat := 1 + pcnt V (V 0 1) (V 0 2) n
def isr (V : Nat → Nat → Int32) (i : Nat) : Bool := decide (V (i + 1) 3 = V (i + 1) 0 ∧ V (i + 1) 4 = V (i + 1) 1 ∧ V (i + 1) 5 = nI (rno V i))
def wrg (V : Nat → Nat → Int32) : Nat → Nat
  | 0 => 0
  | k + 1 => wrg V k + (if isr V k = true then 0 else 1)
def sumw (V : Nat → Nat → Int32) (w : Nat) : Nat → Int32
  | 0 => 0
  | k + 1 => sumw V w k + V (k + 1) w
def csec (V : Nat → Nat → Int32) : Nat → Int32
  | 0 => 0
  | k + 1 => csec V k + V (k + 1) 14 * V (k + 1) 8
/-- the overlap of the take i and the sound of the take j, stamps shifted -/
def ovl (V : Nat → Nat → Int32) (i j : Nat) (sh : Int32) : Int32 :=
  let b := V (i + 1) 12; let o := V (j + 1) 13 + sh
  let e := b + V (i + 1) 8; let p := o + V (j + 1) 8
  let f := if b < o then o else b
  let g := if p < e then p else e
  if (0 : Int32) < g - f then g - f else 0
/-- the sound for the take i among the first takes, and its overlap -/
def syp (V : Nat → Nat → Int32) (i : Nat) (sh : Int32) : Nat → Int32 × Int32
  | 0 => (-1, 0)
  | k + 1 => let q := syp V i sh k; let o := if V (k + 1) 9 = -1 then 0 else ovl V i k sh; if o ≤ q.2 then q else (nI k, o)
def syn (V : Nat → Nat → Int32) (n i : Nat) (sh : Int32) : Int32 := (syp V i sh n).1
/-- how many takes among the first are given another sound than their own -/
def unl (V : Nat → Nat → Int32) (n : Nat) : Nat → Nat
  | 0 => 0
  | k + 1 => unl V n k + (if syn V n k 0 = (if V (k + 1) 9 = -1 then -1 else nI k) then 0 else 1)
def kep (V : Nat → Nat → Int32) (n : Nat) (sh : Int32) : Nat → Nat
  | 0 => 0
  | k + 1 => kep V n sh k + (if V (k + 1) 9 ≠ -1 ∧ syn V n k sh = nI k then 1 else 0)
/-- the latest file of a roll -/
def lat (V : Nat → Nat → Int32) (roll : Int32) : Nat → Int32
  | 0 => 0
  | k + 1 => if V (k + 1) 9 = roll then V (k + 1) 11 else lat V roll k
