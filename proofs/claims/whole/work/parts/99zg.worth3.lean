/-! Level 3, read: a sound text gives a sound will, whole. -/
section NG
variable {K : Nat → Nat} {Iv Nm : Nat → Int}
theorem gs_heir (hI : ∀ t, K t = 2 → 0 ≤ Iv t) {s : Sst} {t : Nat} {q : Nat × Sst} (hs : GS s) (h : sHeir K Iv Nm s t = .inr q) : GS q.2 := by
  unfold sHeir at h
  by_cases e : nh (sV s) = 6
  · rw [if_pos e] at h; cases h
  rw [if_neg e] at h
  obtain ⟨t1, -, h⟩ := sb_inr h
  obtain ⟨t2, -, h⟩ := sb_inr h
  obtain ⟨t3, k2, h⟩ := sb_inr h
  obtain ⟨t4, k3, h⟩ := sb_inr h
  obtain ⟨⟨t5, f, n⟩, k4, h⟩ := sb_inr h
  obtain ⟨t6, -, h⟩ := sb_inr h
  rw [← Sum.inr.inj h]
  have k2 := (ex_inr k2).1
  have k3 := (ex_inr k3).1
  obtain ⟨⟨a1, a2, a3⟩, a4, a5⟩ := hs
  refine ⟨⟨a1, by show nh (sV s) + 1 ≤ 6; omega, a3⟩, a4, fun h0 => ?_⟩
  obtain ⟨c1, c2⟩ := hsh_0 hI _ _ _ _ _ _ k4 (show n.1 = 0 from h0)
  have c2 : ∀ x, 0 ≤ f x ∧ f x ≤ 99 := c2 (fun x => ⟨by decide, by decide⟩)
  obtain ⟨i1, i2⟩ := ind_0 c1
  obtain ⟨i3, i4⟩ := ind_0 i1
  obtain ⟨b1, b2, b3, b4⟩ := a5 (nmd_0 i3)
  refine ⟨b1, fun x hx => ?_, b3, fun x hx l => ?_⟩
  · have hx : x < nh (sV s) + 1 := hx
    show (0 ≤ (if x = nh (sV s) then Iv t2 else sk (sV s) x) ∧ (if x = nh (sV s) then Iv t2 else sk (sV s) x) ≤ 99) ∧ (0 ≤ (if x = nh (sV s) then Iv t3 else tr (sV s) x) ∧ (if x = nh (sV s) then Iv t3 else tr (sV s) x) ≤ 9)
    by_cases el : x = nh (sV s)
    · rw [if_pos el, if_pos el]; exact ⟨⟨hI _ k2, i4⟩, ⟨hI _ k3, i2⟩⟩
    · rw [if_neg el, if_neg el]; exact b2 x (by omega)
  · have hx : x < nh (sV s) + 1 := hx
    show 0 ≤ (if x = nh (sV s) then f l else sS s x l) ∧ (if x = nh (sV s) then f l else sS s x l) ≤ 99
    by_cases el : x = nh (sV s)
    · rw [if_pos el]; exact c2 l
    · rw [if_neg el]; exact b4 x (by omega) l
theorem gs_master {s : Sst} {t : Nat} {q : Nat × Sst} (hs : GS s) (h : sMaster K Iv Nm s t = .inr q) : GS q.2 := by
  unfold sMaster at h
  by_cases e : nm (sV s) = 3
  · rw [if_pos e] at h; cases h
  rw [if_neg e] at h
  obtain ⟨t1, -, h⟩ := sb_inr h
  obtain ⟨t2, -, h⟩ := sb_inr h
  obtain ⟨p, -, h⟩ := sb_inr h
  obtain ⟨t4, -, h⟩ := sb_inr h
  rw [← Sum.inr.inj h]
  obtain ⟨⟨a1, a2, a3⟩, a4, a5⟩ := hs
  refine ⟨⟨a1, a2, by show nm (sV s) + 1 ≤ 3; omega⟩, fun m hm => ?_, fun h0 => a5 (nmd_0 (show (nmd Nm (sA s) (sT s) t1).1 = 0 from h0))⟩
  have hm : m < nm (sV s) + 1 := hm
  show (if m = nm (sV s) then some p.2 else lo (sV s) m) ≠ none
  by_cases el : m = nm (sV s)
  · rw [if_pos el]; exact fun z => by cases z
  · rw [if_neg el]; exact a4 m (by omega)
end NG
