/-! Level 3, read: a sound text gives a sound will, the rest. -/
section NH
variable {K : Nat → Nat} {Iv Nm : Nat → Int}
theorem gs_drift {s : Sst} {t : Nat} {q : Nat × Sst} (hs : GS s) (h : sDrift K Iv s t = .inr q) : GS q.2 := by
  unfold sDrift at h
  obtain ⟨t1, -, h⟩ := sb_inr h
  obtain ⟨p, -, h⟩ := sb_inr h
  obtain ⟨t4, -, h⟩ := sb_inr h
  rw [← Sum.inr.inj h]
  obtain ⟨a0, a4, a5⟩ := hs
  refine ⟨a0, fun m hm => ?_, a5⟩
  have hm : m < nm (sV s) := hm
  show (if m = 9 then some p.2 else lo (sV s) m) ≠ none
  rw [if_neg (by have := a0.2.2; omega)]
  exact a4 m hm
theorem gs_learn {s : Sst} {t : Nat} {q : Nat × Sst} (hs : GS s) (h : sLearn K Iv Nm s t = .inr q) : GS q.2 := by
  unfold sLearn at h
  obtain ⟨t1, -, h⟩ := sb_inr h
  obtain ⟨t2, -, h⟩ := sb_inr h
  obtain ⟨p, -, h⟩ := sb_inr h
  obtain ⟨t4, -, h⟩ := sb_inr h
  rw [← Sum.inr.inj h]
  obtain ⟨a0, a4, a5⟩ := hs
  show GS (uLearn Nm s t1 p.2)
  unfold uLearn
  by_cases e : hfd (sN s) (Nm t1) (nh (sV s)) 0 = -1
  · rw [if_pos e]
    refine ⟨a0, a4, fun h0 => a5 ?_⟩
    have h0 : (if (sT s).1 = 0 then (4, t1) else sT s).1 = 0 := h0
    by_cases z : (sT s).1 = 0
    · exact z
    · rw [if_neg z] at h0; exact h0
  · rw [if_neg e]
    refine ⟨a0, fun m hm => ?_, a5⟩
    have hm : m < nm (sV s) := hm
    show (if m = 3 + (hfd (sN s) (Nm t1) (nh (sV s)) 0).toNat then some p.2 else lo (sV s) m) ≠ none
    rw [if_neg (by have := a0.2.2; omega)]
    exact a4 m hm
end NH
