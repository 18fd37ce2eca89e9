/-! Level 4: both objects at the start. -/
section IZ
variable {L : Nat} {w b : Wd} {xs : Nat → Int32}
def V0 : Vl := ((0, 0, 0), (3, 9999, 0), fun _ => 0, fun _ => 0, fun _ => none)
def σ0 : Sg := (0, 0, -1, fun _ => 0, fun _ _ => 0, fun _ => 0)
theorem vok_0 : VOK V0 := ⟨by decide, by decide, by decide, by decide, fun h hh => absurd hh (Nat.not_lt_zero _), fun m hm => absurd hm (Nat.not_lt_zero _)⟩
theorem sok_0 : SOK V0 σ0 := ⟨fun l hl => absurd hl (Nat.not_lt_zero _), fun h hh => absurd hh (Nat.not_lt_zero _), by decide, by decide⟩
theorem byt_sgn : ∀ k, k < 9 → bytS.getD k 0 = sgn k := by decide +kernel
theorem inv_0 (hb : wI b 4 1 = 0 ∧ ∀ k, k < 9 → wI b 5 k = sgn k) {w1 : Wd} (hA : ACC b w1 223) (h40 : wI w1 40 0 = 0 ∧ wI w1 40 1 = 0 ∧ wI w1 40 2 = -2 ∧ ∀ l, l < 6 → wI w1 41 l = 0) (hM : MOK L w1 w) : INV L w 0 := by
  obtain ⟨hO, f, ⟨m2, m17, m18, m58, m63⟩, ⟨p0, p1, p2, p3, p4, p5⟩, hl, ⟨m43, m42⟩, m269, hK, -, -⟩ := hM
  obtain ⟨a1, a2, a3, a4, a5, a6, a7⟩ := hA
  obtain ⟨⟨c0, c1, c2, c3⟩, c4, c5, c6, c7, -⟩ := a4 (by omega)
  have i : ∀ a j, a < 223 → wI w a j = wI w1 a j := fun a j ha => (f a j ha).1
  have hW : MWS w 0 V0 := fun w2 e => by
    have e1 : ∀ a, a = 233 ∨ a = 235 ∨ (239 ≤ a ∧ a ≤ 242) → wI w2 a 0 = wI w a 0 := fun a q => e a 0 (Or.inl ⟨q, rfl⟩)
    have e2 : ∀ a k, a = 243 ∨ a = 244 → k < 10 → wI w2 a k = wI w a k := fun a k q hk => e a k (Or.inr (Or.inr (Or.inl ⟨q, by omega, by omega⟩)))
    refine ⟨by decide, ⟨(e1 _ (by omega)).trans p0, (e1 _ (by omega)).trans p1, (e1 _ (by omega)).trans p2, (e1 _ (by omega)).trans p3, (e1 _ (by omega)).trans p4, (e1 _ (by omega)).trans p5⟩, fun h hh => absurd hh (Nat.not_lt_zero _), fun k hk => ?_⟩
    have hk : k < 0 ∨ (3 ≤ k ∧ k < 3 + 0) ∨ k = 9 := hk
    have hk9 : k = 9 := by omega
    subst hk9
    exact ⟨(e2 243 9 (by omega) (by omega)).trans (hl 9 (by omega)).1, (e2 244 9 (by omega) (by omega)).trans (hl 9 (by omega)).2⟩
  refine ⟨28, 9, 26, 0, V0, σ0, hO, Or.inr rfl, Or.inl rfl, by decide, vok_0, ?_, m18, hW w (fun a k _ => rfl), ?_, ?_, ?_, ?_, ?_, ?_, ?_, hW⟩
  · refine ⟨⟨(i 28 0 (by omega)).trans c0, (i 28 1 (by omega)).trans c1, (i 28 2 (by omega)).trans c2, (i 28 3 (by omega)).trans c3, (i 28 4 (by omega)).trans c4, (i 28 5 (by omega)).trans c5⟩, fun h hh => absurd hh (Nat.not_lt_zero _), 0, by omega, (i 35 0 (by omega)).trans c7, fun m hm => absurd hm (Nat.not_lt_zero _), fun h hh => absurd hh (Nat.not_lt_zero _), (i 28 6 (by omega)).trans c6⟩
  · refine ⟨sok_0, ⟨(i 40 0 (by omega)).trans h40.1, (i 40 1 (by omega)).trans h40.2.1, ((i 40 2 (by omega)).trans h40.2.2.1).trans (show (-2 : Int) = cow (-1) by decide), fun l hl => absurd hl (Nat.not_lt_zero _), fun h hh => absurd hh (Nat.not_lt_zero _), fun h hh => absurd hh (Nat.not_lt_zero _)⟩, ⟨m42 42 (by omega) (by omega) (by omega), m42 44 (by omega) (by omega) (by omega), m43, fun l hl => absurd hl (Nat.not_lt_zero _), fun h hh => absurd hh (Nat.not_lt_zero _), fun h hh => absurd hh (Nat.not_lt_zero _)⟩, ⟨Int.le_refl _, Int.le_refl _⟩, m42 45 (by omega) (by omega) (by omega), fun p hp => absurd hp (by show ¬ (p : Int) < min 0 400; omega), fun l hl => by rw [show wI w (40 + 1) l = 0 from (i 41 l (by omega)).trans (h40.2.2.2 l hl)]; omega⟩
  · exact ⟨0, 0, fun _ => σ0, by omega, by omega, (i 50 0 (by omega)).trans (a5 (by omega)).1, (i 50 1 (by omega)).trans (a5 (by omega)).2, m58, fun i hi => absurd hi (Nat.not_lt_zero _), fun i j _ hj => absurd hj (Nat.not_lt_zero _), fun i hi => absurd hi (Nat.not_lt_zero _)⟩
  · exact fun k hk => ⟨((i _ 0 (by omega)).trans (a7 k hk (by omega))).trans (m269 k).symm, Or.inl (m269 k)⟩
  · exact ⟨0, by omega, (i 173 0 (by omega)).trans (a6 (by omega)), m63, fun i hi => absurd hi (Nat.not_lt_zero _)⟩
  · exact ⟨0, by omega, (i 6 1 (by omega)).trans a2, m2, fun i hi => absurd hi (Nat.not_lt_zero _)⟩
  · exact ((i 8 0 (by omega)).trans (a3 (by omega)).1).trans m17.symm
  · exact ⟨fun k hk => ⟨(f 25 k (by omega)).2.trans ((a3 (by omega)).2 k hk), hK k hk⟩, ((i 4 1 (by omega)).trans (a1 4 1 (by omega)).1).trans hb.1, fun k hk => ((i 5 k (by omega)).trans (a1 5 k (by omega)).1).trans (hb.2 k hk)⟩
theorem po_0 : PO L 6 (fun _ _ => False) (w0 L xs) := by
  refine ⟨rfl, fun a ha => ?_, fun a ha => ?_, fun a k ha _ => ?_, fun a k _ q => q.elim, fun a k ha => ?_, by omega, rfl⟩
  · rcases (show a = 0 ∨ a = 1 ∨ a = 2 ∨ a = 3 ∨ a = 4 ∨ a = 5 by omega) with rfl | rfl | rfl | rfl | rfl | rfl <;> rfl
  · obtain ⟨n, rfl⟩ : ∃ n, a = n + 6 := ⟨a - 6, by omega⟩
    rfl
  · show (if a = 2 ∧ k = 0 then 3 else if a = 4 ∧ k = 0 then 5 else 0) = RQ a k
    unfold RQ RR
    rw [if_neg (by omega : ¬ (a = 6 ∧ k = 3)), if_neg (by omega : ¬ (a = 8 ∧ k = 1)), if_neg (by omega : ¬ (a = 21 ∧ k = 4))]
    rcases (show a = 0 ∨ a = 1 ∨ a = 2 ∨ a = 3 ∨ a = 4 ∨ a = 5 by omega) with rfl | rfl | rfl | rfl | rfl | rfl
    · rfl
    · rfl
    · cases k with
      | zero => rfl
      | succ j => rfl
    · rfl
    · cases k with
      | zero => rfl
      | succ j => rfl
    · rfl
  · show (if a = 2 ∧ k = 0 then 3 else if a = 4 ∧ k = 0 then 5 else 0) = 0
    rw [if_neg (by omega), if_neg (by omega)]
theorem tx_0 : TX2 (w0 L xs) := ⟨rfl, rfl, rfl, rfl, fun _ _ => rfl⟩
end IZ
