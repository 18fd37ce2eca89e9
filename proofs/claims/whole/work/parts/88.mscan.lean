/-! Level 3, read: the reference's scanner. -/
theorem q_mIsLetter (x : Int) (w : Wd) : Mo_isLetter x w = some (if bS x = true then 1 else 0, w) := by
  unfold Mo_isLetter Mo_isLetter_0 Mo_isLetter_16 Mo_isLetter_17 bS rZ
  by_cases h1 : x < 97
  · rw [if_pos h1]
    simp
    omega
  · rw [if_neg h1]
    by_cases h2 : 122 < x
    · rw [if_pos h2]
      simp
      omega
    · rw [if_neg h2]
      simp
      omega
theorem q_mIsDigit (x : Int) (w : Wd) : Mo_isDigit x w = some (if bD x = true then 1 else 0, w) := by
  unfold Mo_isDigit Mo_isDigit_0 Mo_isDigit_16 Mo_isDigit_17 bD rZ
  by_cases h1 : x < 48
  · rw [if_pos h1]
    simp
    omega
  · rw [if_neg h1]
    by_cases h2 : 57 < x
    · rw [if_pos h2]
      simp
      omega
    · rw [if_neg h2]
      simp
      omega
def SMN (w : Wd) (B : Nat → Int) (N : Nat) : Prop := N ≤ 2000 ∧ wI w 223 4 = (N : Int) ∧ (∀ i, i < N → wI w 225 i = B i ∧ -128 ≤ B i ∧ B i ≤ 127) ∧ (∀ k, k < 17 → wL w 230 k = ky k)
def PMt (a k : Nat) : Prop := a = 226 ∨ a = 227 ∨ a = 228 ∨ (a = 223 ∧ k = 10)
def QMt (a k : Nat) : Prop := a = 229
theorem SMN.fl {w w1 : Wd} {B : Nat → Int} {N : Nat} (h : SMN w B N) (f : FL PMt QMt w w1) : SMN w1 B N := by
  obtain ⟨h1, h2, h3, h4⟩ := h
  exact ⟨h1, (f.i 223 4 (by unfold PMt; omega)).trans h2, fun i hi => by rw [f.i 225 i (by unfold PMt; omega)]; exact h3 i hi, fun k hk => (f.l 230 k (by unfold QMt; omega)).trans (h4 k hk)⟩
def MROW (w : Wd) (c : Nat → Int) (N j : Nat) : Prop := wI w 226 j = (kK c N j : Int) ∧ wI w 227 j = (kP c N j : Int) ∧ (kK c N j = 2 → wI w 228 j = kV c N j) ∧ (kK c N j = 1 → wL w 229 j = kN c N j)
def MT (c : Nat → Int) (N : Nat) (w : Wd) : Prop := ∀ j, j ≤ 400 → (∀ i, i < j → kK c N i ≠ 0) → MROW w c N j
section MC
variable {L wl dr tx : Nat} {w w0 : Wd} {B : Nat → Int} {N : Nat}
theorem q_byteAt {i : Nat} (hO : Ok L wl dr tx w) (hS : SMN w B N) : Mo_byteAt 223 (i : Int) w = some (cb B N i, w) := by
  have hN := hS.1
  refine wp_out ?_
  unfold Mo_byteAt Mo_byteAt_0 Mo_byteAt_22 cb
  refine wp_gd hO rfl (wp_gI hO rfl ?_)
  rw [hS.2.1]
  refine wp_ite (fun q => wp_ret ?_) (fun q => wp_R12_3 hO (wp_rB hO rfl (by omega) (wp_ret ?_)))
  · rw [if_neg (by omega)]
  · rw [if_pos (by omega), Int.toNat_natCast, (hS.2.2.1 i (by omega)).1, (ub_and (hS.2.2.1 i (by omega)).2).1]
theorem m_token {j : Nat} {k p v nm' : Int} (hO : Ok L wl dr tx w) (hj : j ≤ 400) (h10 : wI w 223 10 = (j : Int)) : Wp (Mo_token 223 k p v nm' w) (fun w1 => FL (fun a i => ((a = 226 ∨ a = 227 ∨ a = 228) ∧ i = j) ∨ (a = 223 ∧ i = 10)) (fun a i => a = 229 ∧ i = j) w w1 ∧ wI w1 226 j = k ∧ wI w1 227 j = p ∧ wI w1 228 j = v ∧ wL w1 229 j = nm' ∧ wI w1 223 10 = ((j + 1 : Nat) : Int)) := by
  unfold Mo_token Mo_token_0
  refine wp_gd hO rfl (wp_R12_5 hO (wp_gI hO rfl ?_))
  rw [h10]
  refine wp_wI hO rfl (by omega) ?_
  rw [Int.toNat_natCast]
  generalize hw1 : sI w 226 j k = w1
  have hO1 : Ok L wl dr tx w1 := by rw [← hw1]; exact hO.sI
  have f1 : FL (fun a i => ((a = 226 ∨ a = 227 ∨ a = 228) ∧ i = j) ∨ (a = 223 ∧ i = 10)) (fun a i => a = 229 ∧ i = j) w w1 := by rw [← hw1]; exact (FL.rf w).sI (by omega)
  have t1 : wI w1 223 10 = (j : Int) := by rw [← hw1, wI_ne (by omega), h10]
  have v1 : wI w1 226 j = k := by rw [← hw1, wI_eq]
  refine wp_R12_6 hO1 (wp_gI hO1 rfl ?_)
  rw [t1]
  refine wp_wI hO1 rfl (by omega) ?_
  rw [Int.toNat_natCast]
  generalize hw2 : sI w1 227 j p = w2
  have hO2 : Ok L wl dr tx w2 := by rw [← hw2]; exact hO1.sI
  have f2 : FL (fun a i => ((a = 226 ∨ a = 227 ∨ a = 228) ∧ i = j) ∨ (a = 223 ∧ i = 10)) (fun a i => a = 229 ∧ i = j) w w2 := by rw [← hw2]; exact f1.sI (by omega)
  have t2 : wI w2 223 10 = (j : Int) := by rw [← hw2, wI_ne (by omega), t1]
  have v2 : wI w2 226 j = k := by rw [← hw2, wI_ne (by omega), v1]
  have u2 : wI w2 227 j = p := by rw [← hw2, wI_eq]
  refine wp_R12_7 hO2 (wp_gI hO2 rfl ?_)
  rw [t2]
  refine wp_wI hO2 rfl (by omega) ?_
  rw [Int.toNat_natCast]
  generalize hw3 : sI w2 228 j v = w3
  have hO3 : Ok L wl dr tx w3 := by rw [← hw3]; exact hO2.sI
  have f3 : FL (fun a i => ((a = 226 ∨ a = 227 ∨ a = 228) ∧ i = j) ∨ (a = 223 ∧ i = 10)) (fun a i => a = 229 ∧ i = j) w w3 := by rw [← hw3]; exact f2.sI (by omega)
  have t3 : wI w3 223 10 = (j : Int) := by rw [← hw3, wI_ne (by omega), t2]
  have v3 : wI w3 226 j = k := by rw [← hw3, wI_ne (by omega), v2]
  have u3 : wI w3 227 j = p := by rw [← hw3, wI_ne (by omega), u2]
  have z3 : wI w3 228 j = v := by rw [← hw3, wI_eq]
  refine wp_R12_8 hO3 (wp_gI hO3 rfl ?_)
  rw [t3]
  refine wp_wL hO3 rfl (by omega) ?_
  rw [Int.toNat_natCast]
  generalize hw4 : sL w3 229 j nm' = w4
  have hO4 : Ok L wl dr tx w4 := by rw [← hw4]; exact hO3.sL
  have f4 : FL (fun a i => ((a = 226 ∨ a = 227 ∨ a = 228) ∧ i = j) ∨ (a = 223 ∧ i = 10)) (fun a i => a = 229 ∧ i = j) w w4 := by rw [← hw4]; exact f3.sL (by omega)
  have i4 : ∀ a k, wI w4 a k = wI w3 a k := fun a k => by rw [← hw4, wI_sL]
  have l4 : wL w4 229 j = nm' := by rw [← hw4, wL_eq]
  refine wp_gI hO4 rfl ?_
  rw [i4, t3, w32_id (by omega) (by omega)]
  refine wp_pI hO4 rfl (wp_ret ⟨f4.sI (by omega), ?_, ?_, ?_, by rw [wL_sI]; exact l4, ?_⟩)
  · rw [wI_ne (by omega), i4, v3]
  · rw [wI_ne (by omega), i4, u3]
  · rw [wI_ne (by omega), i4, z3]
  · rw [wI_eq]; omega
theorem m_cut146 {Q : Wd → Prop} {k7 : Nat → Int → Wd → Option Wd} {i n : Nat} {v : Int} (hO : Ok L wl dr tx w) (hS : SMN w B N) (kk : Wp (Mo_cut_179 k7 223 (i : Int) (n : Int) v (kdn v : Int) w) Q) : ∀ (r m k : Nat) (x : Int), k + r = 17 → r < m → ((x = 1 ∧ ∀ j, j < k → ky j ≠ v) ∨ ∃ j, j < k ∧ ky j = v ∧ x = 20 + (j : Int)) → Wp (Mo_cut_146 k7 m 223 (i : Int) (n : Int) v x (k : Int) w) Q
  | r, 0, k, x, _, hm, _ => absurd hm (by omega)
  | 0, m + 1, k, x, hr, hm, hx => by
    rw [Mo_cut_146]
    refine wp_pos (by omega) ?_
    have e : x = (kdn v : Int) := by
      rcases kdn_is v with ⟨j, a, b, d⟩ | ⟨a, b⟩
      · rcases hx with ⟨h1, h2⟩ | ⟨j', h1, h2, h3⟩
        · exact absurd b (h2 j (by omega))
        · have := ky_inj j' (by omega) j a (h2.trans b.symm)
          omega
      · rcases hx with ⟨h1, h2⟩ | ⟨j', h1, h2, h3⟩
        · omega
        · exact absurd h2 (a j' (by omega))
    rw [e]; exact kk
  | r + 1, m + 1, k, x, hr, hm, hx => by
    rw [Mo_cut_146]
    refine wp_neg (by omega) (wp_R12_9 hO (wp_rL hO rfl (by omega) ?_))
    rw [Int.toNat_natCast, hS.2.2.2 k (by omega)]
    unfold Mo_cut_173
    rw [w32_id (z := (k : Int) + 1) (by omega) (by omega), show (k : Int) + 1 = ((k + 1 : Nat) : Int) by omega, w32_id (z := 20 + (k : Int)) (by omega) (by omega)]
    refine wp_ite (fun q => m_cut146 hO hS kk r m (k + 1) _ (by omega) (by omega) (Or.inr ⟨k, by omega, ocmp0.mp q, rfl⟩)) (fun q => m_cut146 hO hS kk r m (k + 1) _ (by omega) (by omega) ?_)
    rcases hx with ⟨h1, h2⟩ | ⟨j', h1, h2, h3⟩
    · refine Or.inl ⟨h1, fun j hj => ?_⟩
      by_cases e : j = k
      · rw [e]; exact fun h => q (ocmp0.mpr h)
      · exact h2 j (by omega)
    · exact Or.inr ⟨j', by omega, h2, h3⟩
theorem m_cut85 {Q : Wd → Prop} {k7 : Nat → Int → Wd → Option Wd} {i : Nat} (hO : Ok L wl dr tx w) (hS : SMN w B N) (kk : Wp (Mo_cut_124 k7 223 (i : Int) ((nmE (cb B N) N i - i : Nat) : Int) (nmv (cb B N) i (min (nmE (cb B N) N i - i) 8)) w) Q) : ∀ (r m n : Nat), i + n + r = N → r < m → adv bS (cb B N) r (i + n) = nmE (cb B N) N i → Wp (Mo_cut_85 k7 m 223 (i : Int) (n : Int) (nmv (cb B N) i (min n 8)) w) Q
  | r, 0, n, _, hm, _ => absurd hm (by omega)
  | 0, m + 1, n, hr, hm, hE => by
    have hE : i + n = nmE (cb B N) N i := hE
    have hN := hS.1
    rw [Mo_cut_85]
    rw [w32_id (z := (i : Int) + (n : Int)) (by omega) (by omega), show (i : Int) + (n : Int) = ((i + n : Nat) : Int) by omega]
    refine wp_eq (q_byteAt hO hS) (wp_eq (q_mIsLetter _ w) ?_)
    have e0 : cb B N (i + n) = 0 := if_neg (by omega)
    rw [show (cb B N (i + n), w).1 = cb B N (i + n) from rfl, e0]
    refine wp_pos (show (if bS 0 = true then (1 : Int) else 0) = 0 by decide) ?_
    rw [show nmE (cb B N) N i - i = n by omega] at kk
    exact kk
  | r + 1, m + 1, n, hr, hm, hE => by
    have hN := hS.1
    have hE' : (if bS (cb B N (i + n)) = true then adv bS (cb B N) r (i + n + 1) else i + n) = nmE (cb B N) N i := hE
    rw [Mo_cut_85]
    rw [w32_id (z := (i : Int) + (n : Int)) (by omega) (by omega), show (i : Int) + (n : Int) = ((i + n : Nat) : Int) by omega]
    refine wp_eq (q_byteAt hO hS) (wp_eq (q_mIsLetter _ w) ?_)
    by_cases q : bS (cb B N (i + n)) = true
    · rw [if_pos q] at hE' ⊢
      refine wp_neg (show ¬ (1 : Int) = 0 by decide) ?_
      unfold Mo_cut_118
      rw [w32_id (z := (n : Int) + 1) (by omega) (by omega), show (n : Int) + 1 = ((n + 1 : Nat) : Int) by omega]
      have ih := m_cut85 hO hS kk r m (n + 1) (by omega) (by omega) hE'
      refine wp_ite (fun o => ?_) (fun o => wp_eq (q_byteAt hO hS) ?_)
      · rw [show min (n + 1) 8 = min n 8 by omega] at ih
        exact ih
      · have hq : 97 ≤ cb B N (i + n) ∧ cb B N (i + n) ≤ 122 := by unfold bS at q; simpa using q
        have ea : Mo_appends (nmv (cb B N) i (min n 8)) (cb B N (i + n)) w = some (nmv (cb B N) i (min (n + 1) 8), w) := by
          unfold Mo_appends Mo_appends_0 Mo_appends_21
          rw [if_neg (by omega), w32_id (z := cb B N (i + n) - 97) (by omega) (by omega), w32_id (by omega) (by omega), show cb B N (i + n) - 97 + 1 = cb B N (i + n) - 96 by omega, show min (n + 1) 8 = n + 1 by omega, show min n 8 = n by omega, Int.mul_comm 27]
          rfl
        exact wp_eq ea ih
    · rw [if_neg q] at hE' ⊢
      refine wp_pos rfl ?_
      rw [show nmE (cb B N) N i - i = n by omega] at kk
      exact kk
theorem m_cut208 {Q : Wd → Prop} {k7 : Nat → Int → Wd → Option Wd} {i : Nat} (hO : Ok L wl dr tx w) (hS : SMN w B N) (kk : Wp (Mo_cut_250 k7 223 (i : Int) ((inE (cb B N) N i - i : Nat) : Int) (ivl (cb B N) i (min (inE (cb B N) N i - i) 4)) w) Q) : ∀ (r m n : Nat), i + n + r = N → r < m → (∀ j, j < n → bD (cb B N (i + j)) = true) → adv bD (cb B N) r (i + n) = inE (cb B N) N i → Wp (Mo_cut_208 k7 m 223 (i : Int) (n : Int) (ivl (cb B N) i (min n 4)) w) Q
  | r, 0, n, _, hm, _, _ => absurd hm (by omega)
  | 0, m + 1, n, hr, hm, hD, hE => by
    have hE : i + n = inE (cb B N) N i := hE
    have hN := hS.1
    rw [Mo_cut_208]
    rw [w32_id (z := (i : Int) + (n : Int)) (by omega) (by omega), show (i : Int) + (n : Int) = ((i + n : Nat) : Int) by omega]
    refine wp_eq (q_byteAt hO hS) (wp_eq (q_mIsDigit _ w) ?_)
    have e0 : cb B N (i + n) = 0 := if_neg (by omega)
    rw [show (cb B N (i + n), w).1 = cb B N (i + n) from rfl, e0]
    refine wp_pos (show (if bD 0 = true then (1 : Int) else 0) = 0 by decide) ?_
    rw [show inE (cb B N) N i - i = n by omega] at kk
    exact kk
  | r + 1, m + 1, n, hr, hm, hD, hE => by
    have hN := hS.1
    have hE' : (if bD (cb B N (i + n)) = true then adv bD (cb B N) r (i + n + 1) else i + n) = inE (cb B N) N i := hE
    rw [Mo_cut_208]
    rw [w32_id (z := (i : Int) + (n : Int)) (by omega) (by omega), show (i : Int) + (n : Int) = ((i + n : Nat) : Int) by omega]
    refine wp_eq (q_byteAt hO hS) (wp_eq (q_mIsDigit _ w) ?_)
    by_cases q : bD (cb B N (i + n)) = true
    · rw [if_pos q] at hE' ⊢
      refine wp_neg (show ¬ (1 : Int) = 0 by decide) ?_
      unfold Mo_cut_244
      rw [w32_id (z := (n : Int) + 1) (by omega) (by omega), show (n : Int) + 1 = ((n + 1 : Nat) : Int) by omega]
      have ih := m_cut208 hO hS kk r m (n + 1) (by omega) (by omega) (fun j hj => by
        by_cases e : j = n
        · rw [e]; exact q
        · exact hD j (by omega)) hE'
      refine wp_ite (fun o => ?_) (fun o => wp_eq (q_byteAt hO hS) ?_)
      · rw [show min (n + 1) 4 = min n 4 by omega] at ih
        exact ih
      · have hq : 48 ≤ cb B N (i + n) ∧ cb B N (i + n) ≤ 57 := by unfold bD at q; simpa using q
        have hb := ivl_bd (c := cb B N) (i := i) n (by omega) hD
        have hb2 := ihi_bd n (by omega)
        have e : ivl (cb B N) i (min (n + 1) 4) = w32 (w32 (w32 (10 * ivl (cb B N) i (min n 4)) + cb B N (i + n)) - 48) := by
          rw [show min (n + 1) 4 = n + 1 by omega, show min n 4 = n by omega]
          show w32 (w32 (ivl (cb B N) i n * 10) + w32 (cb B N (i + n) - 48)) = _
          rw [w32_id (z := ivl (cb B N) i n * 10) (by omega) (by omega), w32_id (z := cb B N (i + n) - 48) (by omega) (by omega), w32_id (by omega) (by omega), w32_id (z := 10 * ivl (cb B N) i n) (by omega) (by omega), w32_id (z := 10 * ivl (cb B N) i n + cb B N (i + n)) (by omega) (by omega), w32_id (by omega) (by omega)]
          omega
        rw [e] at ih
        exact ih
    · rw [if_neg q] at hE' ⊢
      refine wp_pos rfl ?_
      rw [show inE (cb B N) N i - i = n by omega] at kk
      exact kk
end MC
