/-! Level 3, read: a sound text gives a sound will. -/
section NF
variable {K : Nat → Nat} {Iv Nm : Nat → Int}
def GS (s : Sst) : Prop := (nl (sV s) ≤ 6 ∧ nh (sV s) ≤ 6 ∧ nm (sV s) ≤ 3) ∧ (∀ m, m < nm (sV s) → lo (sV s) m ≠ none) ∧ ((sT s).1 = 0 → dy (sV s) ≤ 9 ∧ (∀ h, h < nh (sV s) → (0 ≤ sk (sV s) h ∧ sk (sV s) h ≤ 99) ∧ (0 ≤ tr (sV s) h ∧ tr (sV s) h ≤ 9)) ∧ (∀ l, l < nl (sV s) → 0 ≤ sH s l ∧ sH s l ≤ 99) ∧ (∀ h, h < nh (sV s) → ∀ l, 0 ≤ sS s h l ∧ sS s h l ≤ 99))
theorem gs_0 : GS s0 := ⟨⟨by decide, by decide, by decide⟩, fun m hm => absurd hm (Nat.not_lt_zero _), fun _ => ⟨by decide, fun h hh => absurd hh (Nat.not_lt_zero _), fun l hl => absurd hl (Nat.not_lt_zero _), fun h hh => absurd hh (Nat.not_lt_zero _)⟩⟩
theorem gs_ok {s : Sst} (h : GS s) (h0 : (sT s).1 = 0) : VOK (sV s) := ⟨h.1.1, h.1.2.1, h.1.2.2, (h.2.2 h0).1, (h.2.2 h0).2.1, h.2.1⟩
theorem gs_letter (hI : ∀ t, K t = 2 → 0 ≤ Iv t) {s : Sst} {t : Nat} {q : Nat × Sst} (hs : GS s) (h : sLetter K Iv Nm s t = .inr q) : GS q.2 := by
  unfold sLetter at h
  by_cases e : nl (sV s) = 6
  · rw [if_pos e] at h; cases h
  rw [if_neg e] at h
  obtain ⟨t1, -, h⟩ := sb_inr h
  obtain ⟨t2, -, h⟩ := sb_inr h
  obtain ⟨t3, k2, h⟩ := sb_inr h
  obtain ⟨t4, -, h⟩ := sb_inr h
  rw [← Sum.inr.inj h]
  have k2 := (ex_inr k2).1
  obtain ⟨⟨a1, a2, a3⟩, a4, a5⟩ := hs
  refine ⟨⟨by show nl (sV s) + 1 ≤ 6; omega, a2, a3⟩, a4, fun h0 => ?_⟩
  obtain ⟨i1, i2⟩ := ind_0 (show (ind Iv 99 (nmd Nm (sA s) (sT s) t1) t2).1 = 0 from h0)
  obtain ⟨b1, b2, b3, b4⟩ := a5 (nmd_0 i1)
  refine ⟨b1, b2, fun l hl => ?_, b4⟩
  have hl : l < nl (sV s) + 1 := hl
  show 0 ≤ (if l = nl (sV s) then Iv t2 else sH s l) ∧ (if l = nl (sV s) then Iv t2 else sH s l) ≤ 99
  by_cases el : l = nl (sV s)
  · rw [if_pos el]; exact ⟨hI _ k2, i2⟩
  · rw [if_neg el]; exact b3 l (by omega)
end NF
