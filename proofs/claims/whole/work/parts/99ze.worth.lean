/-! Level 3, read: what a sound text is worth. -/
section NE
variable {K : Nat → Nat} {Iv Nm : Nat → Int}
theorem ind_0 {most : Int} {n : Ft} {t : Nat} (h : (ind Iv most n t).1 = 0) : n.1 = 0 ∧ Iv t ≤ most := by
  unfold ind at h
  by_cases q : most < Iv t ∧ n.1 = 0
  · rw [if_pos q] at h
    exact absurd h (by show (5 : Nat) ≠ 0; decide)
  · rw [if_neg q] at h
    exact ⟨h, by omega⟩
theorem nmd_0 {al : List Int} {n : Ft} {t : Nat} (h : (nmd Nm al n t).1 = 0) : n.1 = 0 := by
  unfold nmd at h
  by_cases q : Nm t ∈ al ∧ n.1 = 0
  · exact q.2
  · rw [if_neg q] at h
    exact h
theorem hsh_0 (hI : ∀ t, K t = 2 → 0 ≤ Iv t) : ∀ (r l t : Nat) (f : Nat → Int) (n : Ft) (q : Nat × (Nat → Int) × Ft), hsh K Iv r l t f n = .inr q → q.2.2.1 = 0 → n.1 = 0 ∧ ((∀ x, 0 ≤ f x ∧ f x ≤ 99) → ∀ x, 0 ≤ q.2.1 x ∧ q.2.1 x ≤ 99)
  | 0, l, t, f, n, q, h, h0 => by
    unfold hsh at h
    by_cases k : K t = 2
    · rw [if_pos k] at h; cases h
    · rw [if_neg k] at h
      rw [← Sum.inr.inj h] at h0 ⊢
      exact ⟨h0, fun z => z⟩
  | r + 1, l, t, f, n, q, h, h0 => by
    unfold hsh at h
    by_cases k : K t = 2
    · rw [if_pos k] at h
      obtain ⟨t1, a1, b1⟩ := sb_inr h
      obtain ⟨c1, c2⟩ := hsh_0 hI r (l + 1) t1 _ _ q b1 h0
      obtain ⟨e1, e2⟩ := ind_0 c1
      refine ⟨e1, fun z => c2 (fun x => ?_)⟩
      by_cases e : x = l
      · rw [if_pos e]; exact ⟨hI t k, e2⟩
      · rw [if_neg e]; exact z x
    · rw [if_neg k] at h
      rw [← Sum.inr.inj h] at h0 ⊢
      exact ⟨h0, fun z => z⟩
end NE
