/-! Level 3, read: the reference's new side. -/
section ND
variable {c : Nat → Int} {N d : Nat} {w : Wd}
theorem mws_mdr {s : Sst} {t : Nat} (hd : d ≤ 1) (h : MDR c N d w s t) : MWS w d (sV s) := by
  intro w1 e
  obtain ⟨-, hC, -, ⟨⟨b1, b2, b3⟩, ⟨d0, d1, d2, d3, d4, d5⟩, d6, d7, d8⟩, ⟨b, z, -, -, g3, g4, g5, g6, g7⟩, -⟩ := h
  have t4 := hC.1.1
  have e1 : ∀ a, a = 233 ∨ a = 235 ∨ (239 ≤ a ∧ a ≤ 242) → wI w1 a d = wI w a d := fun a q => e a d (Or.inl ⟨q, rfl⟩)
  have e2 : ∀ a k, a = 236 ∨ a = 237 → k < 6 → wI w1 a (6 * d + k) = wI w a (6 * d + k) := fun a k q hk => e a _ (Or.inr (Or.inl ⟨q, by omega, by omega⟩))
  have e3 : ∀ a k, a = 243 ∨ a = 244 → k < 10 → wI w1 a (10 * d + k) = wI w a (10 * d + k) := fun a k q hk => e a _ (Or.inr (Or.inr (Or.inl ⟨q, by omega, by omega⟩)))
  have e4 : ∀ a k, 245 ≤ a → a ≤ 249 → 130 * d ≤ k → k < b → wI w1 a k = wI w a k := fun a k q1 q2 q3 q4 => e a k (Or.inr (Or.inr (Or.inr (Or.inl ⟨q1, q2, q3, by omega⟩))))
  have e5 : ∀ a k, a = 250 ∨ a = 251 → 420 * d ≤ k → k < z → wI w1 a k = wI w a k := fun a k q q3 q4 => e a k (Or.inr (Or.inr (Or.inr (Or.inr ⟨q, q3, by omega⟩))))
  clear e
  refine ⟨hd, ⟨(e1 _ (by omega)).trans d0, (e1 _ (by omega)).trans d1, (e1 _ (by omega)).trans d2, (e1 _ (by omega)).trans d3, (e1 _ (by omega)).trans d4, (e1 _ (by omega)).trans d5⟩, fun x hx => ⟨(e2 _ _ (by omega) (by omega)).trans (d7 x hx).1, (e2 _ _ (by omega) (by omega)).trans (d7 x hx).2⟩, fun k hk => ?_⟩
  have k10 : k < 10 := by omega
  exact mlo_at (b0 := b) (z0 := z) (by omega) (by omega) (mlo_ag (g7 k k10) ⟨e4, e5⟩ (Nat.le_refl _) (Nat.le_refl _) ⟨e3 _ _ (by omega) k10, e3 _ _ (by omega) k10⟩)
end ND
