/-! Level 3, read: a sound text gives a sound will, to its end. -/
section NI
variable {K : Nat → Nat} {Iv Nm : Nat → Int}
theorem gs_num {u : Nat → Sst} {t : Nat} {q : Nat × Sst} (hu : ∀ t1, K t1 = 2 → GS (u t1)) (h : sNum K u t = .inr q) : GS q.2 := by
  unfold sNum at h
  obtain ⟨t1, -, h⟩ := sb_inr h
  obtain ⟨t2, k2, h⟩ := sb_inr h
  obtain ⟨t4, -, h⟩ := sb_inr h
  rw [← Sum.inr.inj h]
  exact hu t1 (ex_inr k2).1
theorem gs_stm (hI : ∀ t, K t = 2 → 0 ≤ Iv t) {s : Sst} {t : Nat} {q : Nat × Sst} (hs : GS s) (h : stm K Iv Nm s t = .inr q) : GS q.2 := by
  have hs' := hs
  obtain ⟨a0, a4, a5⟩ := hs
  unfold stm at h
  split at h
  · exact gs_letter hI hs' h
  split at h
  · exact gs_heir hI hs' h
  split at h
  · exact gs_master hs' h
  split at h
  · exact gs_learn hs' h
  split at h
  · exact gs_drift hs' h
  split at h
  · refine gs_num (u := uDays Iv s) (fun t1 k2 => ⟨a0, a4, fun h0 => ?_⟩) h
    obtain ⟨i1, i2⟩ := ind_0 (show (ind Iv 9 (sT s) t1).1 = 0 from h0)
    obtain ⟨b1, b2, b3, b4⟩ := a5 i1
    exact ⟨by show (Iv t1).toNat ≤ 9; omega, b2, b3, b4⟩
  split at h
  · exact gs_num (u := uLimit Iv s) (fun t1 k2 => ⟨a0, a4, fun h0 => a5 (ind_0 (show (ind Iv 9999 (sT s) t1).1 = 0 from h0)).1⟩) h
  split at h
  · exact gs_num (u := uSeed Iv s) (fun t1 k2 => ⟨a0, a4, fun h0 => a5 (ind_0 (show (ind Iv 9999 (sT s) t1).1 = 0 from h0)).1⟩) h
  · cases h
theorem gs_rdl (hI : ∀ t, K t = 2 → 0 ≤ Iv t) : ∀ (n : Nat) (s : Sst) (t : Nat) (s1 : Sst), GS s → rdl K Iv Nm n s t = .inr s1 → GS s1
  | 0, s, t, s1, _, h => by cases h
  | n + 1, s, t, s1, hs, h => by
    unfold rdl at h
    by_cases k : K t = 0
    · rw [if_pos k] at h
      rw [← Sum.inr.inj h]; exact hs
    · rw [if_neg k] at h
      obtain ⟨q, h1, h2⟩ := sb_inr h
      exact gs_rdl hI n q.2 q.1 s1 (gs_stm hI hs h1) h2
end NI
