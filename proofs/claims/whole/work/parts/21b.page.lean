/-! a page of the book is one long: shapes of 7 bits, above them who was given the estate. u_tn, g_or, g_ushr, g_shl began as rows of kit/laws/BITS.to-paste. -/
theorem u_tn {n : Nat} (h : n < 2 ^ 64) : (UInt64.ofNat n).toNat = n := Nat.mod_eq_of_lt h
theorem g_or {k p a b : Nat} (hp : 2 ^ k = p) (ha : a < p) (h : b * p + a < 2 ^ 64) : lN (b * p) ||| lN a = lN (b * p + a) := by
  subst hp
  have h1 : b * 2 ^ k ||| a = b * 2 ^ k + a := by rw [← Nat.shiftLeft_eq, Nat.shiftLeft_add_eq_or_of_lt ha]
  have h3 : UInt64.ofNat (b * 2 ^ k) ||| UInt64.ofNat a = UInt64.ofNat (b * 2 ^ k + a) := UInt64.toNat_inj.mp (by rw [UInt64.toNat_or, u_tn (by omega), u_tn (by omega), u_tn h, h1])
  have h2 := congrArg UInt64.toInt64 h3
  exact h2
theorem g_ushr {a k p : Nat} {y : UInt64} (hy : y = UInt64.ofNat k) (hk : k < 64) (hp : 2 ^ k = p) (ha : a < 2 ^ 64) : ((lN a).toUInt64 >>> y).toInt64 = lN (a / p) := by
  subst hy hp
  have h : UInt64.ofNat a >>> UInt64.ofNat k = UInt64.ofNat (a / 2 ^ k) := UInt64.toNat_inj.mp (by rw [UInt64.toNat_shiftRight, u_tn ha, u_tn (by omega), u_tn (Nat.lt_of_le_of_lt (Nat.div_le_self _ _) ha), Nat.mod_eq_of_lt hk, Nat.shiftRight_eq_div_pow])
  have h2 := congrArg UInt64.toInt64 h
  exact h2
theorem g_shl {a k p : Nat} {y : Int64} (hy : y.toBitVec.smod 64 = BitVec.ofNat 64 k) (hk : k < 64) (hp : 2 ^ k = p) (ha : a < 2 ^ 64) : lN a <<< y = lN (a * p) := by
  subst hp
  apply Int64.toBitVec_inj.mp
  rw [Int64.toBitVec_shiftLeft, hy]
  apply BitVec.eq_of_toNat_eq
  have hb : (lN a).toBitVec.toNat = a := Nat.mod_eq_of_lt ha
  have hk' : (BitVec.ofNat 64 k).toNat = k := Nat.mod_eq_of_lt (by omega)
  have h : ((lN a).toBitVec <<< BitVec.ofNat 64 k).toNat = (a * 2 ^ k) % 2 ^ 64 := by simp only [BitVec.shiftLeft_eq', BitVec.toNat_shiftLeft, hb, hk', Nat.shiftLeft_eq]
  exact h
theorem i64_lN (a : Nat) : i64 (a : Int) = lN a := Int64.ofInt_eq_ofNat
theorem lN_big {a : Nat} (h : a < 2 ^ 63) : (lN a).toInt = (a : Int) := lg_ofNat_toInt h
theorem olushr_n {a k p : Nat} {b : Int} (hb : ((i32 b).toInt64.toUInt64 &&& Int64.toUInt64 63) = UInt64.ofNat k) (hk : k < 64) (hp : 2 ^ k = p) (ha : a < 2 ^ 63) : olushr (a : Int) b = ((a / p : Nat) : Int) := by
  unfold olushr
  rw [i64_lN, g_ushr hb hk hp (by omega)]
  exact lN_big (Nat.lt_of_le_of_lt (Nat.div_le_self _ _) ha)
theorem oand127 (n : Nat) : oand (w32 (n : Int)) 127 = ((n % 128 : Nat) : Int) := by
  unfold oand
  rw [i32_w32]
  have e : (i32 (n : Int) &&& i32 127).toBitVec.toNat = n % 128 := by
    rw [Int32.toBitVec_and, BitVec.toNat_and]
    show (BitVec.ofInt 32 (n : Int)).toNat &&& (2 ^ 7 - 1) = n % 128
    rw [Nat.and_two_pow_sub_one_eq_mod, BitVec.toNat_ofInt]
    omega
  show (i32 (n : Int) &&& i32 127).toBitVec.toInt = _
  rw [BitVec.toInt_eq_toNat_cond, e, if_pos (by omega)]
theorem pg_step {x h : Int} (hx : 0 ≤ x ∧ x < 1099511627776) (hh : 0 ≤ h ∧ h < 128) : olor (oshl x 7) h = x * 128 + h := by
  obtain ⟨a, rfl⟩ := Int.eq_ofNat_of_zero_le hx.1
  obtain ⟨b, rfl⟩ := Int.eq_ofNat_of_zero_le hh.1
  have e : oshl (a : Int) 7 = ((a * 128 : Nat) : Int) := by
    unfold oshl
    rw [i64_lN, g_shl (k := 7) (p := 128) (by decide +kernel) (by decide) (by decide) (by omega)]
    exact lN_big (by omega)
  rw [e]
  unfold olor
  rw [i64_lN, i64_lN, g_or (k := 7) (p := 128) (by decide) (by omega) (by omega), lN_big (by omega)]
  omega
def pgh (z : Int) (l : Nat) : Int := match l with
  | 0 => z % 128
  | 1 => z / 128 % 128
  | 2 => z / 16384 % 128
  | 3 => z / 2097152 % 128
  | 4 => z / 268435456 % 128
  | _ => z / 34359738368 % 128
def pgo (z : Int) : Int := z / 4398046511104 - 2
def pgk (z : Int) : Prop := 0 ≤ z ∧ z < 35184372088832
def pgm (o : Int) (h : Nat → Int) : Int := ((((((o + 2) * 128 + h 5) * 128 + h 4) * 128 + h 3) * 128 + h 2) * 128 + h 1) * 128 + h 0
theorem pgm_ok {o : Int} {h : Nat → Int} (ho : -2 ≤ o ∧ o ≤ 5) (hh : ∀ l, l < 6 → 0 ≤ h l ∧ h l ≤ 99) : pgk (pgm o h) ∧ pgo (pgm o h) = o ∧ ∀ l, l < 6 → pgh (pgm o h) l = h l := by
  have h0 := hh 0 (by omega)
  have h1 := hh 1 (by omega)
  have h2 := hh 2 (by omega)
  have h3 := hh 3 (by omega)
  have h4 := hh 4 (by omega)
  have h5 := hh 5 (by omega)
  refine ⟨?_, ?_, fun l hl => ?_⟩
  · unfold pgk pgm; omega
  · unfold pgo pgm; omega
  · rcases (show l = 0 ∨ l = 1 ∨ l = 2 ∨ l = 3 ∨ l = 4 ∨ l = 5 by omega) with rfl | rfl | rfl | rfl | rfl | rfl
    · show pgm o h % 128 = h 0
      unfold pgm; omega
    · show pgm o h / 128 % 128 = h 1
      unfold pgm; omega
    · show pgm o h / 16384 % 128 = h 2
      unfold pgm; omega
    · show pgm o h / 2097152 % 128 = h 3
      unfold pgm; omega
    · show pgm o h / 268435456 % 128 = h 4
      unfold pgm; omega
    · show pgm o h / 34359738368 % 128 = h 5
      unfold pgm; omega
theorem pgh_bits {z : Int} {l : Nat} (hz : pgk z) (hl : l < 6) : oand (w32 (olushr z (w32 (7 * (l : Int))))) 127 = pgh z l := by
  unfold pgk at hz
  obtain ⟨a, rfl⟩ := Int.eq_ofNat_of_zero_le hz.1
  rw [w32_of (show rg (7 * (l : Int)) from ⟨by omega, by omega⟩)]
  rcases (show l = 0 ∨ l = 1 ∨ l = 2 ∨ l = 3 ∨ l = 4 ∨ l = 5 by omega) with rfl | rfl | rfl | rfl | rfl | rfl
  · rw [olushr_n (k := 0) (p := 1) (by decide +kernel) (by decide) (by decide) (by omega), oand127]
    show _ = (a : Int) % 128
    omega
  · rw [olushr_n (k := 7) (p := 128) (by decide +kernel) (by decide) (by decide) (by omega), oand127]
    show _ = (a : Int) / 128 % 128
    omega
  · rw [olushr_n (k := 14) (p := 16384) (by decide +kernel) (by decide) (by decide) (by omega), oand127]
    show _ = (a : Int) / 16384 % 128
    omega
  · rw [olushr_n (k := 21) (p := 2097152) (by decide +kernel) (by decide) (by decide) (by omega), oand127]
    show _ = (a : Int) / 2097152 % 128
    omega
  · rw [olushr_n (k := 28) (p := 268435456) (by decide +kernel) (by decide) (by decide) (by omega), oand127]
    show _ = (a : Int) / 268435456 % 128
    omega
  · rw [olushr_n (k := 35) (p := 34359738368) (by decide +kernel) (by decide) (by decide) (by omega), oand127]
    show _ = (a : Int) / 34359738368 % 128
    omega
theorem pgo_bits {z : Int} (hz : pgk z) : w32 (w32 (olushr z 42) + (-2)) = pgo z := by
  unfold pgk at hz
  obtain ⟨a, rfl⟩ := Int.eq_ofNat_of_zero_le hz.1
  rw [olushr_n (k := 42) (p := 4398046511104) (by decide +kernel) (by decide) (by decide) (by omega)]
  unfold pgo
  rw [w32_of (show rg ((a / 4398046511104 : Nat) : Int) from ⟨by omega, by omega⟩), w32_of ⟨by omega, by omega⟩]
  omega
theorem pgh_bd (z : Int) (l : Nat) : 0 ≤ pgh z l ∧ pgh z l ≤ 127 := by
  unfold pgh
  split <;> omega
