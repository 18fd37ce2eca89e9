/-! Level 3, the class: a plan is laid. C: what a letter costs after so many days; N letters. -/
/-- the least sum of the last r letters with n days, and how many of them the first of these takes -/
def ls (C : Nat → Nat → Int) (N : Nat) : Nat → Nat → Int
  | 0, _ => 0
  | r + 1, n => C (N - (r + 1)) (if r = 0 then n else bs (fun k => C (N - (r + 1)) k + ls C N r (n - k)) n n) + ls C N r (n - (if r = 0 then n else bs (fun k => C (N - (r + 1)) k + ls C N r (n - k)) n n))
def md (C : Nat → Nat → Int) (N r n : Nat) : Nat := if r = 0 then n else bs (fun k => C (N - (r + 1)) k + ls C N r (n - k)) n n
theorem ls_md (C : Nat → Nat → Int) (N r n : Nat) : ls C N (r + 1) n = C (N - (r + 1)) (md C N r n) + ls C N r (n - md C N r n) := rfl
theorem md_le (C : Nat → Nat → Int) (N r n : Nat) : md C N r n ≤ n := by
  unfold md
  split
  · exact Nat.le_refl n
  · exact bs_le _ _ _
theorem ls_bd {C : Nat → Nat → Int} {N : Nat} (hC : ∀ l n, 0 ≤ C l n ∧ C l n ≤ 2997) : ∀ r n, 0 ≤ ls C N r n ∧ ls C N r n ≤ (r : Int) * 2997
  | 0, n => by unfold ls; omega
  | r + 1, n => by
    have h1 := ls_bd (N := N) hC r (n - md C N r n)
    have h2 := hC (N - (r + 1)) (md C N r n)
    rw [ls_md]
    omega
/-- the days left ahead of each letter -/
def lf (C : Nat → Nat → Int) (N d : Nat) : Nat → Nat
  | 0 => d
  | l + 1 => lf C N d l - md C N (N - (l + 1)) (lf C N d l)
theorem lf_le (C : Nat → Nat → Int) (N d : Nat) : ∀ l, lf C N d l ≤ d
  | 0 => Nat.le_refl d
  | l + 1 => by have := lf_le C N d l; unfold lf; omega
def pda (C : Nat → Nat → Int) (N d l : Nat) : Nat := md C N (N - (l + 1)) (lf C N d l)
def PP (v a : Nat) (_ : Nat) : Prop := a = v + 10 ∨ a = v + 11 ∨ (187 ≤ a ∧ a ≤ 201)
section P2
variable {L wl dr tx b v : Nat} {V : Vl} {σ : Sg} {w : Wd} {C : Nat → Nat → Int} {N d : Nat}
def KC (w : Wd) (C : Nat → Nat → Int) (d l : Nat) : Prop := ∀ n, n ≤ d → wI w (189 + l) n = C l n
def KL (w : Wd) (C : Nat → Nat → Int) (N d l : Nat) : Prop := ∀ n, n ≤ d → wI w (196 + l) n = ls C N (N - l) n
theorem c_share {l n k : Nat} (hC : ∀ l n, 0 ≤ C l n ∧ C l n ≤ 2997) (hO : Ok L wl dr tx w) (hN : N ≤ 6) (hd : d ≤ 12) (hl : l < N) (hn : n ≤ d) (hk : k ≤ n) (h1 : KC w C d l) (h2 : l + 1 < N → KL w C N d (l + 1)) :
    Pl_shareWith 186 (l : Int) (N : Int) (n : Int) (k : Int) w = some (C l k + ls C N (N - (l + 1)) (n - k), w) := by
  refine wp_out ?_
  have b1 := hC l k
  have b2 := ls_bd (N := N) hC (N - (l + 1)) (n - k)
  have e1 : w32 ((l : Int) + 1) = ((l + 1 : Nat) : Int) := by rw [w32_id (by omega) (by omega)]; omega
  have e2 : w32 ((n : Int) - (k : Int)) = ((n - k : Nat) : Int) := by rw [w32_id (by omega) (by omega)]; omega
  unfold Pl_shareWith Pl_shareWith_0
  rw [e1, e2]
  refine wp_gd hO rfl (wp_R5_1 hO (wp_189 hO (by omega) ?_))
  rw [Int.toNat_natCast]
  refine wp_rI hO (sh_in189 L (by omega)) (by omega) ?_
  rw [Int.toNat_natCast, h1 k (by omega)]
  unfold Pl_shareWith_33
  refine wp_ite (fun q => wp_ret ?_) (fun q => ?_)
  · rw [show N - (l + 1) = 0 by omega]
    show (w32 (C l k + 0), w) = (C l k + 0, w)
    rw [w32_id (by omega) (by omega)]
  · refine wp_R5_2 hO (wp_196 hO (by omega) ?_)
    rw [Int.toNat_natCast]
    refine wp_rI hO (sh_in196 L (by omega)) (by omega) (wp_ret ?_)
    rw [Int.toNat_natCast, h2 (by omega) (n - k) (by omega), w32_id (by omega) (by omega)]
theorem c_md17 {l n : Nat} (hC : ∀ l n, 0 ≤ C l n ∧ C l n ≤ 2997) (hO : Ok L wl dr tx w) (hN : N ≤ 6) (hd : d ≤ 12) (hl : l < N) (hn : n ≤ d) (h1 : KC w C d l) (h2 : l + 1 < N → KL w C N d (l + 1)) : ∀ (j m r : Nat), r + j = n → j < m →
    Pl_mostDays_17 m 186 (l : Int) (N : Int) (n : Int) (bs (fun k => C l k + ls C N (N - (l + 1)) (n - k)) n r : Int) ((j : Int) - 1) w = some ((bs (fun k => C l k + ls C N (N - (l + 1)) (n - k)) n n : Int), w)
  | j, 0, r, _, hm => absurd hm (by omega)
  | 0, m + 1, r, hr, hm => by
    refine wp_out ?_
    rw [Pl_mostDays_17]
    refine wp_pos (by omega) (wp_ret ?_)
    rw [show r = n by omega]
  | j + 1, m + 1, r, hr, hm => by
    refine wp_out ?_
    have bl := bs_le (fun k => C l k + ls C N (N - (l + 1)) (n - k)) n r
    rw [Pl_mostDays_17]
    refine wp_neg (by omega) ?_
    have ej : ((j + 1 : Nat) : Int) - 1 = (j : Int) := by omega
    rw [ej]
    refine wp_eq (c_share hC hO hN hd hl hn (by omega) h1 h2) (wp_eq (c_share hC hO hN hd hl hn bl h1 h2) ?_)
    have ih := c_md17 hC hO hN hd hl hn h1 h2 j m (r + 1) (by omega) (by omega)
    have e : bs (fun k => C l k + ls C N (N - (l + 1)) (n - k)) n (r + 1) = if C l (n - (r + 1)) + ls C N (N - (l + 1)) (n - (n - (r + 1))) < C l (bs (fun k => C l k + ls C N (N - (l + 1)) (n - k)) n r) + ls C N (N - (l + 1)) (n - bs (fun k => C l k + ls C N (N - (l + 1)) (n - k)) n r) then n - (r + 1) else bs (fun k => C l k + ls C N (N - (l + 1)) (n - k)) n r := rfl
    rw [show n - (r + 1) = j by omega] at e
    unfold Pl_mostDays_47
    rw [w32_id (z := (j : Int) + -1) (by omega) (by omega), show (j : Int) + -1 = (j : Int) - 1 by omega]
    refine wp_ite (fun q => ?_) (fun q => ?_)
    · have q' : C l (bs (fun k => C l k + ls C N (N - (l + 1)) (n - k)) n r) + ls C N (N - (l + 1)) (n - bs (fun k => C l k + ls C N (N - (l + 1)) (n - k)) n r) ≤ C l j + ls C N (N - (l + 1)) (n - j) := q
      rw [if_neg (by omega)] at e
      rw [e] at ih
      exact wp_is ih rfl
    · have q' : ¬ C l (bs (fun k => C l k + ls C N (N - (l + 1)) (n - k)) n r) + ls C N (N - (l + 1)) (n - bs (fun k => C l k + ls C N (N - (l + 1)) (n - k)) n r) ≤ C l j + ls C N (N - (l + 1)) (n - j) := q
      rw [if_pos (by omega)] at e
      rw [e] at ih
      exact wp_is ih rfl
theorem c_mostDays {l n : Nat} (hC : ∀ l n, 0 ≤ C l n ∧ C l n ≤ 2997) (hO : Ok L wl dr tx w) (hN : N ≤ 6) (hd : d ≤ 12) (hl : l < N) (hn : n ≤ d) (h1 : KC w C d l) (h2 : l + 1 < N → KL w C N d (l + 1)) : Pl_mostDays 186 (l : Int) (N : Int) (n : Int) w = some ((md C N (N - (l + 1)) n : Int), w) := by
  refine wp_out ?_
  have e1 : w32 ((l : Int) + 1) = ((l + 1 : Nat) : Int) := by rw [w32_id (by omega) (by omega)]; omega
  have e2 : w32 ((n : Int) - 1) = (n : Int) - 1 := by rw [w32_id (by omega) (by omega)]
  unfold Pl_mostDays Pl_mostDays_0
  generalize hFU : FU = fu; have hfu : 1000000 = fu := hFU
  rw [e1, e2]
  refine wp_gd hO rfl (wp_ite (fun q => ?_) (fun q => wp_ret ?_))
  · unfold md
    rw [if_neg (by omega), show N - (N - (l + 1) + 1) = l by omega]
    exact wp_is (c_md17 hC hO hN hd hl hn h1 h2 n fu 0 (by omega) (by omega)) rfl
  · unfold md
    rw [if_pos (by omega)]
end P2
