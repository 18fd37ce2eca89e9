/-! The abstract machine's words: values (int, long, reference: a number of a cell), worlds (how many cells, how many slots they took, what each cell is, its ints, longs, references). -/
abbrev AV : Type := Int ⊕ (Int ⊕ Nat)
abbrev Wd : Type := Nat × Nat × (Nat → Nat × Nat) × (Nat → Nat → Int) × (Nat → Nat → Int) × (Nat → Nat → Nat)
def wn (w : Wd) : Nat := w.1
def wz (w : Wd) : Nat := w.2.1
def wsh (w : Wd) : Nat → Nat × Nat := w.2.2.1
def wI (w : Wd) : Nat → Nat → Int := w.2.2.2.1
def wL (w : Wd) : Nat → Nat → Int := w.2.2.2.2.1
def wR (w : Wd) : Nat → Nat → Nat := w.2.2.2.2.2
def up2 {α : Type} (f : Nat → Nat → α) (a k : Nat) (v : α) : Nat → Nat → α := fun b j => if b = a ∧ j = k then v else f b j
def sI (w : Wd) (a k : Nat) (v : Int) : Wd := (wn w, wz w, wsh w, up2 (wI w) a k v, wL w, wR w)
def sL (w : Wd) (a k : Nat) (v : Int) : Wd := (wn w, wz w, wsh w, wI w, up2 (wL w) a k v, wR w)
def sR (w : Wd) (a k : Nat) (v : Nat) : Wd := (wn w, wz w, wsh w, wI w, wL w, up2 (wR w) a k v)
/-- a new cell of a kind, of n slots, all zero -/
def nw (w : Wd) (t n : Nat) : Wd := (wn w + 1, wz w + n, fun a => if a = wn w then (t, n) else wsh w a, fun a k => if a = wn w then 0 else wI w a k, fun a k => if a = wn w then 0 else wL w a k, fun a k => if a = wn w then 0 else wR w a k)
/-- n new rows of k ints each, behind a row of n references to them -/
def nw2 (w : Wd) (n k : Nat) : Wd := (wn w + 1 + n, wz w + n + n * k, fun a => if a = wn w then (26, n) else if wn w < a ∧ a < wn w + 1 + n then (20, k) else wsh w a, fun a j => if wn w ≤ a ∧ a < wn w + 1 + n then 0 else wI w a j, fun a j => if wn w ≤ a ∧ a < wn w + 1 + n then 0 else wL w a j, fun a j => if a = wn w then (if j < n then wn w + 1 + j else 0) else if wn w < a ∧ a < wn w + 1 + n then 0 else wR w a j)
/-- n ints copied from row a at i to row b at j -/
def cpI (w : Wd) (a i b j n : Nat) : Wd := (wn w, wz w, wsh w, fun c k => if c = b ∧ j ≤ k ∧ k < j + n then wI w a (i + (k - j)) else wI w c k, wL w, wR w)
def w32 (z : Int) : Int := z.bmod 4294967296
def w64 (z : Int) : Int := z.bmod 18446744073709551616
def n8 (z : Int) : Int := z.bmod 256
def rg (z : Int) : Prop := -2147483648 ≤ z ∧ z < 2147483648
def rl (z : Int) : Prop := -9223372036854775808 ≤ z ∧ z < 9223372036854775808
abbrev i32 (z : Int) : Int32 := Int32.ofInt z
abbrev i64 (z : Int) : Int64 := Int64.ofInt z
def okv (v : AV) : Prop := match v with
  | .inl z => rg z
  | .inr (.inl z) => rl z
  | .inr (.inr _) => True
/-- what is fixed at the law's start: the first new address, the old cells' addresses, a value that is only carried, class numbers, places of fields, classes of arrays -/
abbrev Gp : Type := Nat × (Nat → Nat) × Value × (Nat → ClassId) × (Nat → Nat → Nat) × (Nat → ClassId)
def gb (g : Gp) : Nat := g.1
def gf (g : Gp) : Nat → Nat := g.2.1
def gz (g : Gp) : Value := g.2.2.1
def gC (g : Gp) : Nat → ClassId := g.2.2.2.1
def gI (g : Gp) : Nat → Nat → Nat := g.2.2.2.2.1
def gA (g : Gp) : Nat → ClassId := g.2.2.2.2.2
def ad (g : Gp) (a : Nat) : Nat := if a < 6 then gf g a else gb g + (a - 6)
def Ar (g : Gp) : Nat → Prop := fun q => gb g ≤ q
/-- a reference in a field or a row: 0 is null -/
def hv (g : Gp) (a : Nat) : Value := if a = 0 then .null else .ref (ad g a)
/-- a value on the stack or in a local -/
def cv (g : Gp) (v : AV) : Value := match v with
  | .inl z => .int (i32 z)
  | .inr (.inl z) => .long (i64 z)
  | .inr (.inr a) => if a = 0 then (match gz g with | .ref q => .ref q | _ => .null) else .ref (ad g a)
def cvp (g : Gp) (q : Nat × AV) : Nat × Value := (q.1, cv g q.2)
theorem i32_w32 (z : Int) : i32 (w32 z) = i32 z := Int32.toInt_inj.mp (by simp [i32, w32, Int32.toInt_ofInt, Int32.size])
theorem i64_w64 (z : Int) : i64 (w64 z) = i64 z := Int64.toInt_inj.mp (by simp [i64, w64, Int64.toInt_ofInt, Int64.size])
theorem rg_w32 (z : Int) : rg (w32 z) := by
  unfold rg w32
  have h1 := Int.le_bmod (x := z) (m := 4294967296) (by decide)
  have h2 := Int.bmod_lt (x := z) (m := 4294967296) (by decide)
  omega
theorem rl_w64 (z : Int) : rl (w64 z) := by
  unfold rl w64
  have h1 := Int.le_bmod (x := z) (m := 18446744073709551616) (by decide)
  have h2 := Int.bmod_lt (x := z) (m := 18446744073709551616) (by decide)
  omega
theorem w32_of {z : Int} (h : rg z) : w32 z = z := by
  unfold rg at h
  unfold w32
  rw [Int.bmod_eq_of_le (by omega) (by omega)]
theorem w64_of {z : Int} (h : rl z) : w64 z = z := by
  unfold rl at h
  unfold w64
  rw [Int.bmod_eq_of_le (by omega) (by omega)]
theorem i32_toInt {z : Int} (h : rg z) : (i32 z).toInt = z := by
  unfold rg at h
  exact Int32.toInt_ofInt_of_le (by omega) (by omega)
theorem i64_toInt {z : Int} (h : rl z) : (i64 z).toInt = z := by
  unfold rl at h
  exact Int64.toInt_ofInt_of_le (by omega) (by omega)
theorem rg_toInt (x : Int32) : rg x.toInt := ⟨by have := Int32.le_toInt x; omega, by have := Int32.toInt_lt x; omega⟩
theorem rl_toInt (x : Int64) : rl x.toInt := ⟨by have := Int64.le_toInt x; omega, by have := Int64.toInt_lt x; omega⟩
theorem i32_lt {x y : Int} (hx : rg x) (hy : rg y) : i32 x < i32 y ↔ x < y := by
  rw [Int32.lt_iff_toInt_lt, i32_toInt hx, i32_toInt hy]
theorem i32_le {x y : Int} (hx : rg x) (hy : rg y) : i32 x ≤ i32 y ↔ x ≤ y := by
  rw [Int32.le_iff_toInt_le, i32_toInt hx, i32_toInt hy]
theorem i32_eq {x y : Int} (hx : rg x) (hy : rg y) : i32 x = i32 y ↔ x = y := by
  rw [← Int32.toInt_inj, i32_toInt hx, i32_toInt hy]
theorem i32_zero : i32 0 = 0 := by decide
theorem rg_zero : rg 0 := ⟨by omega, by omega⟩
theorem i32_clamp {x : Int} (hx : rg x) : (i32 x).toNatClampNeg = x.toNat := by
  show (i32 x).toInt.toNat = x.toNat
  rw [i32_toInt hx]
