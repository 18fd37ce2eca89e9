/-! Level 3: what is kept of the past; lesson. -/
section K18
variable {L wl dr tx s b : Nat} {w : Wd} {V : Vl} {σ σ1 : Sg} {x y z Y Y1 : Int}
theorem c_keep {u x : Nat} (hu : u ≤ 30) (hx : x < 30) (hO : Ok L wl dr tx w) (h0 : wI w 50 0 = (u : Int)) (h1 : wI w 50 1 = (x : Int)) : Wp (Ps_keep 50 40 w) (fun w1 => Fr (fun a k => (52 + 4 * x ≤ a ∧ a ≤ 52 + 4 * x + 3) ∨ a = 50) w w1 ∧ ((∀ i, i < 3 → wI w1 (52 + 4 * x) i = wI w 40 i) ∧ (∀ i, i < 6 → wI w1 (52 + 4 * x + 1) i = wI w (40 + 1) i) ∧ (∀ i, i < 36 → wI w1 (52 + 4 * x + 2) i = wI w (40 + 2) i) ∧ (∀ i, i < 6 → wI w1 (52 + 4 * x + 3) i = wI w (40 + 3) i)) ∧ wI w1 50 0 = ((min (u + 1) 30 : Nat) : Int) ∧ wI w1 50 1 = (((x + 1) % 30 : Nat) : Int)) := by
  unfold Ps_keep Ps_keep_0
  refine wp_gd hO rfl (wp_R4_2 hO (wp_gI hO rfl ?_))
  rw [h1]
  refine wp_52 hO (by omega) ?_
  rw [Int.toNat_natCast]
  refine wp_call (c_copy (isSt_in52 hx) isSt_40 (by omega) hO) (fun w1 g1 => ?_)
  have hO1 := g1.1.ok hO
  refine wp_gI hO1 rfl ?_
  rw [g1.1.at 50 1 (by unfold PB; omega), h1, w32_id (by omega) (by omega)]
  refine wp_irm (by decide) ?_
  have e1 : ((x : Int) + 1).tmod 30 = (((x + 1) % 30 : Nat) : Int) := by
    rw [Int.tmod_eq_emod_of_nonneg (by omega)]
    omega
  rw [e1]
  refine wp_pI hO1 rfl ?_
  generalize hw2 : sI w1 50 1 (((x + 1) % 30 : Nat) : Int) = w2
  have hO2 : Ok L wl dr tx w2 := by rw [← hw2]; exact hO1.sI
  refine wp_gI hO2 rfl ?_
  have e2 : wI w2 50 0 = (u : Int) := by rw [← hw2, wI_ne (by omega), g1.1.at 50 0 (by unfold PB; omega), h0]
  rw [e2, w32_id (by omega) (by omega)]
  refine wp_pI hO2 rfl (wp_ret ?_)
  have n2 : ∀ a k, a ≠ 50 → wI (sI w2 50 0 (min ((u : Int) + 1) 30)) a k = wI w1 a k := fun a k q => by rw [wI_ne (by omega), ← hw2, wI_ne (by omega)]
  refine ⟨?_, ⟨fun i hi => (n2 _ _ (by omega)).trans (g1.2.1 i hi), fun i hi => (n2 _ _ (by omega)).trans (g1.2.2.1 i hi), fun i hi => (n2 _ _ (by omega)).trans (g1.2.2.2.1 i hi), fun i hi => (n2 _ _ (by omega)).trans (g1.2.2.2.2 i hi)⟩, ?_, ?_⟩
  · rw [← hw2]
    exact ((g1.1.mono (fun a k q => by unfold PB at q; omega)).sI (by omega)).sI (by omega)
  · rw [wI_eq]; omega
  · rw [wI_ne (by omega), ← hw2, wI_eq]
theorem past_keep {w2 : Wd} {u x : Nat} {τ : Nat → Sg} (hV : VOK V) (hN : NOW w V Y σ) (u1 : u ≤ 30) (u2 : x < 30) (u6 : ∀ i, i < u → RW w V Y 259 (2860 * i) (52 + 4 * ((x + 30 - u + i) % 30)) 48 (τ i)) (u7 : ∀ i j, i ≤ j → j < u → min (yr (τ i)) 400 ≤ min (yr (τ j)) 400) (u8 : ∀ i, i < u → min (yr (τ i)) 400 ≤ min (yr σ) 400) (hY : Y ≤ Y1)
    (e0 : wI w2 50 0 = ((min (u + 1) 30 : Nat) : Int)) (e1 : wI w2 50 1 = (((x + 1) % 30 : Nat) : Int)) (e2 : wI w2 223 58 = ((min (u + 1) 30 : Nat) : Int)) (ek : CS w2 (52 + 4 * x) V σ) (ekH : HB w2 (52 + 4 * x))
    (eo : ∀ a k, 52 ≤ a → a ≤ 171 → ¬ (52 + 4 * x ≤ a ∧ a ≤ 52 + 4 * x + 3) → wI w2 a k = wI w a k)
    (eb : ∀ p : Nat, (p : Int) < min (yr σ) 400 → wL w2 49 p = wL w 49 p)
    (h1 : ∀ i, i + 1 < min (u + 1) 30 → ∀ k, k < 2860 → wI w2 259 (2860 * i + k) = wI w 259 (2860 * (if u = 30 then i + 1 else i) + k))
    (h2 : ∀ k, k < 2860 → wI w2 259 (2860 * (min (u + 1) 30 - 1) + k) = wI w 255 k)
    (hσ : min (yr σ) 400 ≤ min (yr σ1) 400) : PAST w2 V Y1 σ1 := by
  generalize hu' : min (u + 1) 30 = u' at *
  have hj : ∀ i, i + 1 < u' → (if u = 30 then i + 1 else i) < u := fun i hi => by split <;> omega
  have hle : ∀ i, i < u' → min (yr (if i + 1 < u' then τ (if u = 30 then i + 1 else i) else σ)) 400 ≤ min (yr σ) 400 := fun i hi => by
    by_cases q : i + 1 < u'
    · rw [if_pos q]; exact u8 _ (hj i q)
    · rw [if_neg q]; exact Int.le_refl _
  refine ⟨u', (x + 1) % 30, fun i => if i + 1 < u' then τ (if u = 30 then i + 1 else i) else σ, by omega, Nat.mod_lt _ (by omega), e0, e1, e2, fun i hi => ?_, fun i j hij hj' => ?_, fun i hi => Int.le_trans (hle i hi) hσ⟩
  · show RW w2 V Y1 259 (2860 * i) (52 + 4 * (((x + 1) % 30 + 30 - u' + i) % 30)) 48 (if i + 1 < u' then τ (if u = 30 then i + 1 else i) else σ)
    by_cases q : i + 1 < u'
    · rw [if_pos q]
      have hju := hj i q
      have ix : ((x + 1) % 30 + 30 - u' + i) % 30 = (x + 30 - u + (if u = 30 then i + 1 else i)) % 30 := by split <;> omega
      have ixn : (x + 30 - u + (if u = 30 then i + 1 else i)) % 30 ≠ x := by split <;> omega
      have h1i := h1 i q
      rw [ix]
      have r0 := u6 _ hju
      have t8 := u8 _ hju
      generalize (if u = 30 then i + 1 else i) = j at r0 t8 h1i ixn hju ⊢
      have ixl : (x + 30 - u + j) % 30 < 30 := Nat.mod_lt _ (by omega)
      generalize (x + 30 - u + j) % 30 = y at r0 ixn ixl ⊢
      exact r0.eq hV hY (r0.2.1.eq (fun a k q1 q2 => eo a k (by omega) (by omega) (by omega))) (r0.2.2.2.2.2.2.eq (fun k => eo _ k (by omega) (by omega) (by omega))) (fun p hp => eb p (by omega)) h1i
    · rw [if_neg q]
      have ix : ((x + 1) % 30 + 30 - u' + i) % 30 = x := by omega
      rw [ix]
      refine hN.eq hV hY ek ekH (fun p hp => eb p hp) (fun k hk => ?_)
      have := h2 k hk
      rw [show u' - 1 = i by omega] at this
      rw [this, Nat.zero_add]
  · show min (yr (if i + 1 < u' then τ (if u = 30 then i + 1 else i) else σ)) 400 ≤ min (yr (if j + 1 < u' then τ (if u = 30 then j + 1 else j) else σ)) 400
    by_cases q : j + 1 < u'
    · rw [if_pos q, if_pos (by omega)]
      exact u7 _ _ (by split <;> omega) (hj j q)
    · rw [if_neg q]
      exact hle i (by omega)
end K18
