/-! Level 4: the law answers 1. -/
theorem sz_271 : sz 267 ≤ 7302249 := by decide +kernel
theorem law_is {L : Nat} {xs : Nat → Int32} (hL : L ≤ 3072) : Wp (La_law 1 (w0 L xs)) (fun q => q.1 = 1 ∧ wn q.2 = 267 ∧ wz q.2 ≤ 7302249) := by
  unfold La_law La_law_0
  generalize hFU : FU = fu; have hfu : 1000000 = fu := hFU
  rw [show wn (w0 L xs) = 6 from rfl]
  refine wp_call (i_Hh po_0 tx_0) (fun w1 g => ?_)
  obtain ⟨h1, hA, h40⟩ := g
  rw [h1.1]
  refine wp_call (i_Mo h1) (fun w2 hM => ?_)
  have hI : INV L w2 0 := inv_0 (b := w0 L xs) ⟨rfl, fun k hk => byt_sgn k hk⟩ hA h40 hM
  have hn := hM.2.2.2.2.2.2.2.2.1
  have hz := hM.2.2.2.2.2.2.2.2.2
  have e := sz_271
  refine wp_use (law_loop hL (w0 := w2) 513 fu 0 w2 rfl (by omega) hI rfl rfl) (fun q g => ⟨g.1, g.2.1.trans hn, ?_⟩)
  rw [g.2.2]
  omega
