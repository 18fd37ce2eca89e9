/-! Level 3, read: the class's scanner. -/
theorem bB_ub {b : Int} (h : -128 ≤ b ∧ b ≤ 127) : bB (ub b) = bB b := by
  unfold bB ub
  apply decide_eq_decide.mpr
  split <;> omega
theorem bS_ub {b : Int} (h : -128 ≤ b ∧ b ≤ 127) : bS (ub b) = bS b := by
  unfold bS ub
  apply decide_eq_decide.mpr
  split <;> omega
theorem bD_ub {b : Int} (h : -128 ≤ b ∧ b ≤ 127) : bD (ub b) = bD b := by
  unfold bD ub
  apply decide_eq_decide.mpr
  split <;> omega
theorem q_isBlank (x : Int) (w : Wd) : Sc_isBlank x w = some (if bB x = true then 1 else 0, w) := by
  unfold Sc_isBlank Sc_isBlank_0 Sc_isBlank_24 Sc_isBlank_29 bB rZ
  by_cases h1 : x = 9
  · simp [h1]
  · by_cases h2 : x = 10
    · simp [h2]
    · by_cases h3 : x = 13
      · simp [h3]
      · by_cases h4 : x = 32
        · simp [h4]
        · simp [h1, h2, h3, h4]
theorem q_isSmall (x : Int) (w : Wd) : Sc_isSmall x w = some (if bS x = true then 1 else 0, w) := by
  unfold Sc_isSmall Sc_isSmall_0 Sc_isSmall_16 Sc_isSmall_17 bS rZ
  by_cases h1 : x < 97
  · rw [if_pos h1]
    simp
    omega
  · rw [if_neg h1]
    by_cases h2 : 122 < x
    · rw [if_pos h2]
      simp
      omega
    · rw [if_neg h2]
      simp
      omega
theorem q_isDigit (x : Int) (w : Wd) : Sc_isDigit x w = some (if bD x = true then 1 else 0, w) := by
  unfold Sc_isDigit Sc_isDigit_0 Sc_isDigit_16 Sc_isDigit_17 bD rZ
  by_cases h1 : x < 48
  · rw [if_pos h1]
    simp
    omega
  · rw [if_neg h1]
    by_cases h2 : 57 < x
    · rw [if_pos h2]
      simp
      omega
    · rw [if_neg h2]
      simp
      omega
def SCN (w : Wd) (B : Nat → Int) (N : Nat) : Prop := N ≤ 2000 ∧ wI w 21 5 = (N : Int) ∧ (∀ i, i < N → wI w 7 i = B i ∧ -128 ≤ B i ∧ B i ≤ 127) ∧ (∀ k, k < 17 → wL w 25 k = ky k) ∧ wI w 4 1 = 0 ∧ ∀ k, k < 9 → wI w 5 k = sgn k
def PSj (j a k : Nat) : Prop := (a = 21 ∧ k = 6) ∨ ((a = 22 ∨ a = 23) ∧ k = j)
def QSj (j a k : Nat) : Prop := a = 24 ∧ k = j
theorem SCN.fl {w w1 : Wd} {B : Nat → Int} {N j : Nat} (h : SCN w B N) (f : FL (PSj j) (QSj j) w w1) : SCN w1 B N := by
  obtain ⟨h1, h2, h3, h4, h5, h6⟩ := h
  exact ⟨h1, (f.i 21 5 (by unfold PSj; omega)).trans h2, fun i hi => by rw [f.i 7 i (by unfold PSj; omega)]; exact h3 i hi, fun k hk => (f.l 25 k (by unfold QSj; omega)).trans (h4 k hk), (f.i 4 1 (by unfold PSj; omega)).trans h5, fun k hk => (f.i 5 k (by unfold PSj; omega)).trans (h6 k hk)⟩
theorem ocmp0 {a b : Int} : ocmp a b = 0 ↔ a = b := by
  unfold ocmp
  split
  · omega
  · split <;> omega
section SC
variable {L wl dr : Nat} {w w0 : Wd} {B : Nat → Int} {N j : Nat}
theorem wp_rS5 {tx : Nat} {β : Type} {Q : β → Prop} {f : Int → Option β} {i : Int} (h : Ok L wl dr tx w) (hj : 0 ≤ i ∧ i < 9) (kk : Wp (f (wI w 5 i.toNat)) Q) : Wp ((rdB w 5 i).bind f) Q := by
  refine wp_eq ?_ kk
  unfold rdB
  rw [h.1]
  exact if_pos ⟨Or.inr (Or.inr (Or.inr rfl)), hj⟩
theorem q_kindOf2 {v : Int} (hO : Ok L wl dr 7 w) (hS : SCN w B N) : ∀ (r m k : Nat), k + r = 17 → r < m → Sc_kindOf_2 m 21 v (k : Int) w = some (ck (kdr v r k), w)
  | r, 0, k, _, hm => absurd hm (by omega)
  | 0, m + 1, k, hr, hm => by
    rw [Sc_kindOf_2, if_pos (by omega)]
    rfl
  | r + 1, m + 1, k, hr, hm => by
    refine wp_out ?_
    rw [Sc_kindOf_2]
    refine wp_neg (by omega) (wp_R7_3 hO (wp_rL hO rfl (by omega) ?_))
    rw [Int.toNat_natCast, hS.2.2.2.1 k (by omega)]
    have e : kdr v (r + 1) k = if ky k = v then 20 + k else kdr v r (k + 1) := rfl
    rw [e, w32_id (z := (k : Int) + 1) (by omega) (by omega), show (k : Int) + 1 = ((k + 1 : Nat) : Int) by omega]
    refine wp_ite (fun q => ?_) (fun q => ?_)
    · rw [if_pos (ocmp0.mp q)]
      unfold Sc_kindOf_19
      refine wp_ret ?_
      rw [w32_id (by omega) (by omega)]
      have e2 : ck (20 + k) = 256 + (k : Int) := by
        unfold ck
        repeat' rw [if_neg (by omega)]
        omega
      rw [e2]
    · rw [if_neg (fun p => q (ocmp0.mpr p))]
      exact wp_is (q_kindOf2 hO hS r m (k + 1) (by omega) (by omega)) rfl
theorem q_kindOf {v : Int} (hO : Ok L wl dr 7 w) (hS : SCN w B N) : Sc_kindOf 21 v w = some (ck (kdn v), w) := by
  unfold Sc_kindOf Sc_kindOf_0
  generalize hFU : FU = fu
  have hfu : 1000000 = fu := hFU
  rw [ok_gd (c := 7) (a := 21) hO rfl]
  exact q_kindOf2 hO hS 17 fu 0 (by omega) (by omega)
theorem q_ixc {b : Int} (hO : Ok L wl dr 7 w) (hS : SCN w B N) : ∀ (r m k : Nat), k + r = 9 → r < m → Wp (Jl_indexOfChar_7 m 5 9 b (k : Int) w) (fun q => q.2 = w ∧ (0 ≤ q.1 ↔ ∃ j, k ≤ j ∧ j < 9 ∧ sgn j = b))
  | r, 0, k, _, hm => absurd hm (by omega)
  | 0, m + 1, k, hr, hm => by
    rw [Jl_indexOfChar_7]
    refine wp_pos (by omega) (wp_ret ⟨rfl, ?_⟩)
    constructor
    · intro h
      exact absurd (show (0 : Int) ≤ -1 from h) (by decide)
    · rintro ⟨j, h1, h2, h3⟩
      omega
  | r + 1, m + 1, k, hr, hm => by
    rw [Jl_indexOfChar_7]
    refine wp_neg (by omega) (wp_rS5 hO (by omega) ?_)
    rw [Int.toNat_natCast, hS.2.2.2.2.2 k (by omega), w32_id (z := (k : Int) + 1) (by omega) (by omega), show (k : Int) + 1 = ((k + 1 : Nat) : Int) by omega]
    refine wp_ite (fun q => wp_ret ⟨rfl, ?_⟩) (fun q => wp_use (q_ixc hO hS r m (k + 1) (by omega) (by omega)) (fun p hp => ⟨hp.1, ?_⟩))
    · exact ⟨fun _ => ⟨k, Nat.le_refl _, by omega, q⟩, fun _ => by show 0 ≤ (k : Int); omega⟩
    · rw [hp.2]
      constructor
      · rintro ⟨j, h1, h2, h3⟩
        exact ⟨j, by omega, h2, h3⟩
      · rintro ⟨j, h1, h2, h3⟩
        by_cases e : j = k
        · rw [e] at h3; exact absurd h3 q
        · exact ⟨j, by omega, h2, h3⟩
theorem sgn_sgk : ∀ j, j < 9 → sgk (sgn j) ≠ 3 ∧ 0 ≤ sgn j := by decide
theorem sgk_is {b : Int} (h : -128 ≤ b ∧ b ≤ 127) : (∃ j, 0 ≤ j ∧ j < 9 ∧ sgn j = b) ↔ sgk (ub b) ≠ 3 := by
  constructor
  · rintro ⟨j, -, h2, h3⟩
    have g := sgn_sgk j h2
    rw [h3] at g
    have e : ub b = b := by unfold ub; rw [if_neg (by omega)]
    rw [e]; exact g.1
  · intro h1
    have e : ∀ z : Int, 0 ≤ z → z ≤ 127 → ub b = z → b = z := by
      intro z z1 z2 z3
      unfold ub at z3
      split at z3 <;> omega
    unfold sgk at h1
    by_cases c1 : ub b = 59
    · exact ⟨0, by omega, by omega, (e 59 (by decide) (by decide) c1).symm⟩
    by_cases c2 : ub b = 61
    · exact ⟨1, by omega, by omega, (e 61 (by decide) (by decide) c2).symm⟩
    by_cases c3 : ub b = 40
    · exact ⟨7, by omega, by omega, (e 40 (by decide) (by decide) c3).symm⟩
    by_cases c4 : ub b = 41
    · exact ⟨8, by omega, by omega, (e 41 (by decide) (by decide) c4).symm⟩
    by_cases c5 : ub b = 43
    · exact ⟨2, by omega, by omega, (e 43 (by decide) (by decide) c5).symm⟩
    by_cases c6 : ub b = 45
    · exact ⟨3, by omega, by omega, (e 45 (by decide) (by decide) c6).symm⟩
    by_cases c7 : ub b = 42
    · exact ⟨4, by omega, by omega, (e 42 (by decide) (by decide) c7).symm⟩
    by_cases c8 : ub b = 47
    · exact ⟨5, by omega, by omega, (e 47 (by decide) (by decide) c8).symm⟩
    by_cases c9 : ub b = 60
    · exact ⟨6, by omega, by omega, (e 60 (by decide) (by decide) c9).symm⟩
    rw [if_neg c1, if_neg c2, if_neg c3, if_neg c4, if_neg c5, if_neg c6, if_neg c7, if_neg c8, if_neg c9] at h1
    exact absurd rfl h1
theorem ck_sgk {c : Int} (h : sgk c ≠ 3) : ck (sgk c) = c := by
  unfold sgk at h ⊢
  repeat' split
  all_goals first | (subst_vars; rfl) | simp_all
theorem q_indexOf {b : Int} (hb : -128 ≤ b ∧ b ≤ 127) (hO : Ok L wl dr 7 w) (hS : SCN w B N) : Wp (Js_indexOf 4 (ub b) w) (fun q => q.2 = w ∧ (0 ≤ q.1 ↔ sgk (ub b) ≠ 3)) := by
  have hu : 0 ≤ ub b ∧ ub b ≤ 255 := by unfold ub; split <;> omega
  have h4 := hS.2.2.2.2.1
  have e8 := (ub_and hb).2.2
  have lat : Js_isLatin1 4 w = some (1, w) := by
    refine wp_out ?_
    unfold Js_isLatin1 Js_isLatin1_0 Js_isLatin1_18
    refine wp_gd hO rfl (wp_neg (by decide) (wp_gI hO rfl ?_))
    rw [h4]
    exact wp_pos rfl (wp_rZr (by decide) rfl)
  have cod : Js_coder 4 w = some (0, w) := by
    refine wp_out ?_
    unfold Js_coder Js_coder_0 Js_coder_14
    refine wp_gd hO rfl (wp_neg (by decide) (wp_gI hO rfl ?_))
    rw [h4]
    exact wp_ret rfl
  have len : Js_length 4 w = some (9, w) := by
    refine wp_out ?_
    unfold Js_length Js_length_0
    refine wp_gd hO rfl (wp_gR (b := 5) hO rfl rfl (by decide) (wp_al (n := 9) (t := 32) hO rfl (by decide) (wp_eq cod (wp_ret ?_))))
    rw [show oshr ((9 : Nat) : Int) 0 = 9 by decide +kernel]
  have enc : Jl_canEncode (ub b) w = some (1, w) := by
    unfold Jl_canEncode Jl_canEncode_0 Jl_canEncode_16
    rw [if_neg (by omega), if_neg (by omega)]
    rfl
  unfold Js_indexOf Js_indexOf_0 Js_indexOf2 Js_indexOf2_0 Jl_indexOf Jl_indexOf_0 Jl_indexOfChar Jl_indexOfChar_0
  generalize hFU : FU = fu
  have hfu : 1000000 = fu := hFU
  refine wp_gd hO rfl (wp_call (P := fun q => q.2 = w ∧ (0 ≤ q.1 ↔ sgk (ub b) ≠ 3)) (wp_gd hO rfl (wp_eq lat (wp_neg (show ¬ (1 : Int) = 0 by decide) (wp_gR (b := 5) hO rfl rfl (by decide) (wp_eq len ?_))))) (fun r hr => wp_ret hr))
  refine wp_call (P := fun q => q.2 = w ∧ (0 ≤ q.1 ↔ sgk (ub b) ≠ 3)) (wp_eq enc (wp_neg (show ¬ (1 : Int) = 0 by decide) (wp_al (n := 9) (t := 32) hO rfl (by decide) ?_))) (fun r hr => wp_ret hr)
  rw [show max (0 : Int) 0 = 0 by decide, show min (9 : Int) ((9 : Nat) : Int) = 9 by decide]
  refine wp_pos (by decide) (wp_call (P := fun q => q.2 = w ∧ (0 ≤ q.1 ↔ sgk (ub b) ≠ 3)) ?_ (fun r hr => wp_ret hr))
  rw [e8]
  exact wp_use (q_ixc hO hS 9 fu 0 (by omega) (by omega)) (fun q hq => ⟨hq.1, hq.2.trans (sgk_is hb)⟩)
end SC
