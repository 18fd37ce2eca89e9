/-! Level 3, read: a frame with longs; the bytes; the tokens. -/
def FL (P Q : Nat → Nat → Prop) (w w1 : Wd) : Prop := (wn w1 = wn w ∧ wz w1 = wz w) ∧ Sm w w1 ∧ (∀ a k, ¬ P a k → wI w1 a k = wI w a k) ∧ ∀ a k, ¬ Q a k → wL w1 a k = wL w a k
theorem wL_sI (w : Wd) (a k b j : Nat) (z : Int) : wL (sI w a k z) b j = wL w b j := rfl
theorem wI_sL (w : Wd) (a k b j : Nat) (z : Int) : wI (sL w a k z) b j = wI w b j := rfl
theorem wL_eq (w : Wd) (a k : Nat) (z : Int) : wL (sL w a k z) a k = z := if_pos ⟨rfl, rfl⟩
theorem wL_ne {w : Wd} {a k b j : Nat} {z : Int} (h : b ≠ a ∨ j ≠ k) : wL (sL w a k z) b j = wL w b j := if_neg (fun q => by omega)
theorem FL.rf {P Q : Nat → Nat → Prop} (w : Wd) : FL P Q w w := ⟨⟨rfl, rfl⟩, Sm.rf w, fun _ _ _ => rfl, fun _ _ _ => rfl⟩
theorem FL.tr {P Q : Nat → Nat → Prop} {w w1 w2 : Wd} (h : FL P Q w w1) (h2 : FL P Q w1 w2) : FL P Q w w2 :=
  ⟨⟨h2.1.1.trans h.1.1, h2.1.2.trans h.1.2⟩, h.2.1.trans h2.2.1, fun a k hk => (h2.2.2.1 a k hk).trans (h.2.2.1 a k hk), fun a k hk => (h2.2.2.2 a k hk).trans (h.2.2.2 a k hk)⟩
theorem FL.mono {P Q P2 Q2 : Nat → Nat → Prop} {w w1 : Wd} (h : FL P Q w w1) (hs : ∀ a k, P a k → P2 a k) (hs2 : ∀ a k, Q a k → Q2 a k) : FL P2 Q2 w w1 := ⟨h.1, h.2.1, fun a k hk => h.2.2.1 a k (fun q => hk (hs a k q)), fun a k hk => h.2.2.2 a k (fun q => hk (hs2 a k q))⟩
theorem FL.i {P Q : Nat → Nat → Prop} {w w1 : Wd} (h : FL P Q w w1) (a k : Nat) (hn : ¬ P a k) : wI w1 a k = wI w a k := h.2.2.1 a k hn
theorem FL.l {P Q : Nat → Nat → Prop} {w w1 : Wd} (h : FL P Q w w1) (a k : Nat) (hn : ¬ Q a k) : wL w1 a k = wL w a k := h.2.2.2 a k hn
theorem FL.ok {P Q : Nat → Nat → Prop} {w w1 : Wd} {L wl dr tx : Nat} (h : FL P Q w w1) (hO : Ok L wl dr tx w) : Ok L wl dr tx w1 := hO.sm h.2.1
theorem FL.sI {P Q : Nat → Nat → Prop} {w w1 : Wd} {a k : Nat} {z : Int} (h : FL P Q w w1) (hp : P a k) : FL P Q w (_root_.Jvm.Pilot.@@N@@.sI w1 a k z) := h.tr ⟨⟨rfl, rfl⟩, ⟨rfl, rfl⟩, fun b j hb => if_neg (fun q => hb (by rw [q.1, q.2]; exact hp)), fun _ _ _ => rfl⟩
theorem FL.sL {P Q : Nat → Nat → Prop} {w w1 : Wd} {a k : Nat} {z : Int} (h : FL P Q w w1) (hp : Q a k) : FL P Q w (_root_.Jvm.Pilot.@@N@@.sL w1 a k z) := h.tr ⟨⟨rfl, rfl⟩, ⟨rfl, rfl⟩, fun _ _ _ => rfl, fun b j hb => if_neg (fun q => hb (by rw [q.1, q.2]; exact hp))⟩
theorem Fr.fl {P Q : Nat → Nat → Prop} {w w1 : Wd} (h : Fr P w w1) : FL P Q w w1 := ⟨⟨h.2.1, h.2.2.1⟩, h.1, h.2.2.2.2, fun a k _ => by rw [h.2.2.2.1]⟩
/-! bytes -/
def ub (b : Int) : Int := if b < 0 then b + 256 else b
def cb (B : Nat → Int) (N i : Nat) : Int := if i < N then ub (B i) else 0
theorem ub_all : ∀ n : Nat, n < 256 → oand ((n : Int) - 128) 255 = ub ((n : Int) - 128) ∧ o2c (ub ((n : Int) - 128)) = ub ((n : Int) - 128) ∧ n8 (ub ((n : Int) - 128)) = (n : Int) - 128 := by decide +kernel
theorem ub_and {b : Int} (h : -128 ≤ b ∧ b ≤ 127) : oand b 255 = ub b ∧ o2c (ub b) = ub b ∧ n8 (ub b) = b := by
  have g := ub_all (b + 128).toNat (by omega)
  rw [show (((b + 128).toNat : Nat) : Int) - 128 = b by omega] at g
  exact g
def bB (c : Int) : Bool := decide (c = 9 ∨ c = 10 ∨ c = 13 ∨ c = 32)
def bS (c : Int) : Bool := decide (97 ≤ c ∧ c ≤ 122)
def bD (c : Int) : Bool := decide (48 ≤ c ∧ c ≤ 57)
/-- past a run of bytes -/
def adv (p : Int → Bool) (c : Nat → Int) : Nat → Nat → Nat
  | 0, i => i
  | r + 1, i => if p (c i) = true then adv p c r (i + 1) else i
theorem adv_is (p : Int → Bool) (c : Nat → Int) : ∀ r i, (i ≤ adv p c r i ∧ adv p c r i ≤ i + r) ∧ (∀ j, i ≤ j → j < adv p c r i → p (c j) = true) ∧ (adv p c r i < i + r → p (c (adv p c r i)) = false)
  | 0, i => ⟨⟨Nat.le_refl _, Nat.le_refl _⟩, fun j h1 h2 => absurd (show j < i from h2) (by omega), fun h => absurd (show i < i + 0 from h) (by omega)⟩
  | r + 1, i => by
    have e : adv p c (r + 1) i = if p (c i) = true then adv p c r (i + 1) else i := rfl
    rw [e]
    split
    · rename_i q
      obtain ⟨⟨a, b⟩, h1, h2⟩ := adv_is p c r (i + 1)
      refine ⟨⟨by omega, by omega⟩, fun j g1 g2 => ?_, fun g => h2 (by omega)⟩
      by_cases k : j = i
      · rw [k]; exact q
      · exact h1 j (by omega) g2
    · rename_i q
      exact ⟨⟨by omega, by omega⟩, fun j g1 g2 => absurd g2 (by omega), fun _ => by simpa using q⟩
/-! what a name and an int are worth -/
def jn (a x : Int) : Int := w64 (w64 (a * 27) + (x - 96))
def nmv (c : Nat → Int) (i : Nat) : Nat → Int
  | 0 => 0
  | n + 1 => jn (nmv c i n) (c (i + n))
def ivl (c : Nat → Int) (i : Nat) : Nat → Int
  | 0 => 0
  | n + 1 => w32 (w32 (ivl c i n * 10) + w32 (c (i + n) - 48))
theorem w64_id {z : Int} (h : -9223372036854775808 ≤ z) (h2 : z < 9223372036854775808) : w64 z = z := by
  unfold w64
  exact Int.bmod_eq_of_le (by omega) (by omega)
def nlo : Nat → Int
  | 0 => 0
  | n + 1 => 27 * nlo n + 1
def nhi : Nat → Int
  | 0 => 0
  | n + 1 => 27 * nhi n + 26
theorem nhi_bd : ∀ n, n ≤ 8 → 0 ≤ nlo n ∧ nhi n ≤ 282429536480 := by decide
theorem nmv_bd {c : Nat → Int} {i : Nat} : ∀ n, n ≤ 8 → (∀ j, j < n → bS (c (i + j)) = true) → nlo n ≤ nmv c i n ∧ nmv c i n ≤ nhi n
  | 0, _, _ => ⟨Int.le_refl _, Int.le_refl _⟩
  | n + 1, hn, h => by
    have ih := nmv_bd n (by omega) (fun j hj => h j (by omega))
    have hb := nhi_bd n (by omega)
    have hs := h n (by omega)
    unfold bS at hs
    have hs : 97 ≤ c (i + n) ∧ c (i + n) ≤ 122 := by simpa using hs
    show 27 * nlo n + 1 ≤ jn (nmv c i n) (c (i + n)) ∧ jn (nmv c i n) (c (i + n)) ≤ 27 * nhi n + 26
    unfold jn
    rw [w64_id (z := nmv c i n * 27) (by omega) (by omega), w64_id (by omega) (by omega)]
    omega
def ihi : Nat → Int
  | 0 => 0
  | n + 1 => 10 * ihi n + 9
theorem ihi_bd : ∀ n, n ≤ 4 → ihi n ≤ 9999 := by decide
theorem ivl_bd {c : Nat → Int} {i : Nat} : ∀ n, n ≤ 4 → (∀ j, j < n → bD (c (i + j)) = true) → 0 ≤ ivl c i n ∧ ivl c i n ≤ ihi n
  | 0, _, _ => ⟨Int.le_refl _, Int.le_refl _⟩
  | n + 1, hn, h => by
    have ih := ivl_bd n (by omega) (fun j hj => h j (by omega))
    have hb := ihi_bd n (by omega)
    have hs := h n (by omega)
    unfold bD at hs
    have hs : 48 ≤ c (i + n) ∧ c (i + n) ≤ 57 := by simpa using hs
    show 0 ≤ w32 (w32 (ivl c i n * 10) + w32 (c (i + n) - 48)) ∧ w32 (w32 (ivl c i n * 10) + w32 (c (i + n) - 48)) ≤ 10 * ihi n + 9
    rw [w32_id (z := ivl c i n * 10) (by omega) (by omega), w32_id (z := c (i + n) - 48) (by omega) (by omega), w32_id (by omega) (by omega)]
    omega
/-! kinds, as the reference numbers them -/
def kdr (v : Int) : Nat → Nat → Nat
  | 0, _ => 1
  | r + 1, k => if ky k = v then 20 + k else kdr v r (k + 1)
def kdn (v : Int) : Nat := kdr v 17 0
theorem ky_inj : ∀ i, i < 17 → ∀ j, j < 17 → ky i = ky j → i = j := by decide
theorem ky_bd : ∀ i, i < 17 → 0 < ky i ∧ ky i < 10000000000 := by decide
theorem kdr_is (v : Int) : ∀ r k, (∃ j, k ≤ j ∧ j < k + r ∧ ky j = v ∧ kdr v r k = 20 + j) ∨ ((∀ j, k ≤ j → j < k + r → ky j ≠ v) ∧ kdr v r k = 1)
  | 0, k => Or.inr ⟨fun j h1 h2 => absurd h2 (by omega), rfl⟩
  | r + 1, k => by
    have e : kdr v (r + 1) k = if ky k = v then 20 + k else kdr v r (k + 1) := rfl
    rw [e]
    split
    · rename_i q
      exact Or.inl ⟨k, Nat.le_refl _, by omega, q, rfl⟩
    · rename_i q
      rcases kdr_is v r (k + 1) with ⟨j, a, b, c, d⟩ | ⟨a, b⟩
      · exact Or.inl ⟨j, by omega, by omega, c, d⟩
      · refine Or.inr ⟨fun j h1 h2 => ?_, b⟩
        by_cases p : j = k
        · rw [p]; exact q
        · exact a j (by omega) (by omega)
theorem kdn_is (v : Int) : (∃ j, j < 17 ∧ ky j = v ∧ kdn v = 20 + j) ∨ ((∀ j, j < 17 → ky j ≠ v) ∧ kdn v = 1) := by
  rcases kdr_is v 17 0 with ⟨j, a, b, c, d⟩ | ⟨a, b⟩
  · exact Or.inl ⟨j, by omega, c, d⟩
  · exact Or.inr ⟨fun j hj => a j (by omega) (by omega), b⟩
def sgk (c : Int) : Nat := if c = 59 then 4 else if c = 61 then 5 else if c = 40 then 6 else if c = 41 then 7 else if c = 43 then 8 else if c = 45 then 9 else if c = 42 then 10 else if c = 47 then 15 else if c = 60 then 13 else 3
/-- the class's number of a kind -/
def ck (k : Nat) : Int := if k = 0 then 0 else if k = 3 then 1 else if k = 1 then 2 else if k = 2 then 3 else if k = 4 then 59 else if k = 5 then 61 else if k = 6 then 40 else if k = 7 then 41 else if k = 8 then 43 else if k = 9 then 45 else if k = 10 then 42 else if k = 13 then 60 else if k = 15 then 47 else 236 + (k : Int)
def kv (k : Nat) : Prop := k ≤ 10 ∨ k = 13 ∨ k = 15 ∨ (20 ≤ k ∧ k ≤ 36)
def kc (z : Int) : Nat := if z = 0 then 0 else if z = 1 then 3 else if z = 2 then 1 else if z = 3 then 2 else if z = 59 then 4 else if z = 61 then 5 else if z = 40 then 6 else if z = 41 then 7 else if z = 43 then 8 else if z = 45 then 9 else if z = 42 then 10 else if z = 60 then 13 else if z = 47 then 15 else (z - 236).toNat
def kvb (k : Nat) : Bool := decide (k ≤ 10 ∨ k = 13 ∨ k = 15 ∨ 20 ≤ k)
theorem kc_ck : ∀ k, k < 37 → kvb k = true → kc (ck k) = k := by decide +kernel
theorem kc_kv {k : Nat} (hk : kv k) : kc (ck k) = k := by
  unfold kv at hk
  exact kc_ck k (by omega) (by unfold kvb; simp; omega)
theorem ck_inj {k j : Nat} (hk : kv k) (hj : kv j) : ck k = ck j ↔ k = j :=
  ⟨fun h => by have g := congrArg kc h; rw [kc_kv hk, kc_kv hj] at g; exact g, fun h => by rw [h]⟩
theorem kv_kdn (v : Int) : kv (kdn v) := by
  unfold kv
  rcases kdn_is v with ⟨j, a, b, c⟩ | ⟨a, b⟩ <;> omega
theorem kv_sgk (c : Int) : kv (sgk c) := by
  unfold kv sgk
  repeat' split
  all_goals omega
section TK
variable (c : Nat → Int) (N : Nat)
def tI (p : Nat) : Nat := adv bB c (N - p) p
def nmE (i : Nat) : Nat := adv bS c (N - i) i
def inE (i : Nat) : Nat := adv bD c (N - i) i
def tK (p : Nat) : Nat := if N ≤ tI c N p then 0 else if bS (c (tI c N p)) = true then (if 8 < nmE c N (tI c N p) - tI c N p then 3 else kdn (nmv c (tI c N p) (nmE c N (tI c N p) - tI c N p))) else if bD (c (tI c N p)) = true then (if 4 < inE c N (tI c N p) - tI c N p then 3 else 2) else sgk (c (tI c N p))
def tE (p : Nat) : Nat := if N ≤ tI c N p then N else if bS (c (tI c N p)) = true then nmE c N (tI c N p) else if bD (c (tI c N p)) = true then inE c N (tI c N p) else tI c N p + 1
def tV (p : Nat) : Int := ivl c (tI c N p) (inE c N (tI c N p) - tI c N p)
def tN (p : Nat) : Int := nmv c (tI c N p) (nmE c N (tI c N p) - tI c N p)
def ps : Nat → Nat
  | 0 => 0
  | j + 1 => tE c N (ps j)
theorem kv_tK (p : Nat) : kv (tK c N p) := by
  unfold tK
  repeat' split
  all_goals first | exact kv_kdn _ | exact kv_sgk _ | (unfold kv; omega)
theorem tI_bd {p : Nat} (h : p ≤ N) : p ≤ tI c N p ∧ tI c N p ≤ N := by
  have := (adv_is bB c (N - p) p).1
  unfold tI
  omega
theorem tE_bd {p : Nat} (h : p ≤ N) : p ≤ tE c N p ∧ tE c N p ≤ N := by
  have h1 := tI_bd c N h
  unfold tE
  split
  · omega
  · split
    · have := (adv_is bS c (N - tI c N p) (tI c N p)).1
      unfold nmE
      omega
    · split
      · have := (adv_is bD c (N - tI c N p) (tI c N p)).1
        unfold inE
        omega
      · omega
theorem ps_bd : ∀ j, ps c N j ≤ N
  | 0 => Nat.zero_le _
  | j + 1 => (tE_bd c N (ps_bd j)).2
end TK
