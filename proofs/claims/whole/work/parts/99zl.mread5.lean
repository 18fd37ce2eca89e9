/-! Level 3, read: the reference's read as a whole. -/
section MV
variable {L wl dr tx : Nat} {d N : Nat} {w : Wd}
def PRx (d a k : Nat) : Prop := PRm d a k ∨ P17 a k
def PRy (d a k : Nat) : Prop := PRm d a k ∨ PE0 a k
def MBAD (c : Nat → Int) (N d : Nat) (w : Wd) (e : Ft) (r : Int × Wd) : Prop := r.1 = (e.1 : Int) ∧ e.1 ≠ 0 ∧ FL (PRx d) Q36 w r.2 ∧ wI r.2 223 17 = (kP c N e.2 : Int)
def MGOOD (d : Nat) (w : Wd) (s : Sst) (r : Int × Wd) : Prop := r.1 = 0 ∧ FL (PRy d) Q36 w r.2 ∧ MWS r.2 d (sV s) ∧ (wI r.2 223 17 = -1 ∧ wI r.2 223 18 = (d : Int) ∧ wI r.2 223 58 = 0 ∧ wI r.2 223 63 = 0) ∧ (∀ j, j < 3 → wI r.2 265 j = 0) ∧ (∀ l, l < nl (sV s) → wI r.2 255 l = sH s l) ∧ (∀ h, h < nh (sV s) → ∀ l, l < nl (sV s) → wI r.2 255 (6 + 6 * h + l) = sS s h l) ∧ wI r.2 255 43 = -1 ∧ (∀ j, 42 ≤ j → j < 2860 → j ≠ 43 → wI r.2 255 j = 0)
theorem fr_17 {w1 w2 : Wd} (f : FL (PRm d) Q36 w w1) (g : Fr P17 w1 w2) : FL (PRx d) Q36 w w2 := (f.mono (fun a k q => Or.inl q) (fun a k q => q)).tr ((g.mono (fun a k q => Or.inr q)).fl)
theorem fr_E0 {w1 w2 : Wd} (f : FL (PRm d) Q36 w w1) (g : Fr PE0 w1 w2) : FL (PRy d) Q36 w w2 := (f.mono (fun a k q => Or.inl q) (fun a k q => q)).tr ((g.mono (fun a k q => Or.inr q)).fl)
theorem rg_E0 {a k : Nat} (h : RG d a k) : ¬ PE0 a k := by unfold RG at h; unfold PE0; omega
theorem m_good {c : Nat → Int} {s : Sst} {t : Nat} {w1 : Wd} (hd : d ≤ 1) (hO : Ok L wl dr tx w1) (f1 : FL (PRm d) Q36 w w1) (h2 : wI w1 223 2 = 0) (hD : MDR c N d w1 s t) (h0 : (sT s).1 = 0) : Wp (Mo_read_134 223 w1) (fun r => wI r.2 223 2 = 0 ∧ MGOOD d w s r) := by
  have hM := mws_mdr hd hD
  obtain ⟨⟨e13, -, e19⟩, -, hT, ⟨⟨b1, b2, b3⟩, d1, d2, d3, d4⟩, -⟩ := hD
  have e15 : wI w1 223 15 = 0 := by
    rcases hT with ⟨_, q⟩ | ⟨q, _⟩
    · exact q
    · exact absurd h0 q
  refine wp_use (m_end0 hd b1 hO e13 e15 e19 d1.1) (fun r g => ?_)
  obtain ⟨g0, g1, g2, g3, g4, g5, g6, g7⟩ := g
  refine ⟨(g1.at 223 2 (by unfold PE0; omega)).trans h2, g0, fr_E0 f1 g1, fun w2 hw2 => hM w2 (fun a k q => (hw2 a k q).trans (g1.at a k (rg_E0 q))), g2, g3, fun l hl => (g4 l hl).trans (d2 l hl), fun h hh l hl => ?_, g6, g7⟩
  have := g5 (6 * h + l) (by omega)
  rw [show 6 + (6 * h + l) = 6 + 6 * h + l by omega, show 36 * d + (6 * h + l) = 36 * d + 6 * h + l by omega] at this
  exact this.trans (d4 h hh l (by omega))
theorem m_readW {s : Nat} (hs : s ≤ 1) (hds : d = 1 - s) (hO : Ok L wl dr tx w) (hN : N ≤ 2000) (h2 : wI w 223 2 = (N : Int)) (hB : ∀ i, i < N → -128 ≤ wI w 224 i ∧ wI w 224 i ≤ 127) (hK : ∀ k, k < 17 → wL w 230 k = ky k) (h18 : wI w 223 18 = (s : Int)) : Wp (Mo_read 223 w) (fun r => wI r.2 223 2 = 0 ∧ match vd (rdl (kK (cb (fun i => wI w 224 i) N) N) (kV (cb (fun i => wI w 224 i) N) N) (kN (cb (fun i => wI w 224 i) N) N) 402 s0 0) with
    | .inl e => MBAD (cb (fun i => wI w 224 i) N) N d w e r
    | .inr s => MGOOD d w s r) := by
  have hd : d ≤ 1 := by omega
  refine m_read (Q := fun ρ r => wI r.2 223 2 = 0 ∧ match vd ρ with
    | .inl e => MBAD (cb (fun i => wI w 224 i) N) N d w e r
    | .inr s => MGOOD d w s r) hs hds hO hN h2 hB hK h18 (fun e w1 f1 z hE => ?_) (fun s t w1 f1 z hD _ => ?_)
  · have hO1 := f1.ok hO
    refine wp_use (m_endE hO1 hE) (fun r g => ?_)
    have p := hE.1
    exact ⟨(g.2.1.at 223 2 (by unfold P17; omega)).trans z, g.1, by omega, fr_17 f1 g.2.1, g.2.2⟩
  · have hO1 := f1.ok hO
    by_cases h0 : (sT s).1 = 0
    · refine wp_use (m_good hd hO1 f1 z hD h0) (fun r g => ⟨g.1, ?_⟩)
      show match (if (sT s).1 = 0 then (Sum.inr s : Sum Ft Sst) else .inl (sT s)) with
        | .inl e => MBAD (cb (fun i => wI w 224 i) N) N d w e r
        | .inr s => MGOOD d w s r
      rw [if_pos h0]
      exact g.2
    · refine wp_use (m_endN hO1 hD.1.1 hD.2.2.1 h0) (fun r g => ⟨(g.2.1.at 223 2 (by unfold P17; omega)).trans z, ?_⟩)
      show match (if (sT s).1 = 0 then (Sum.inr s : Sum Ft Sst) else .inl (sT s)) with
        | .inl e => MBAD (cb (fun i => wI w 224 i) N) N d w e r
        | .inr s => MGOOD d w s r
      rw [if_neg h0]
      exact ⟨g.1, h0, fr_17 f1 g.2.1, g.2.2⟩
/-- a fault has a number -/
theorem rdl_pos {s : Nat} (hs : s ≤ 1) (hO : Ok L wl dr tx w) (hN : N ≤ 2000) (h2 : wI w 223 2 = (N : Int)) (hB : ∀ i, i < N → -128 ≤ wI w 224 i ∧ wI w 224 i ≤ 127) (hK : ∀ k, k < 17 → wL w 230 k = ky k) (h18 : wI w 223 18 = (s : Int)) {e : Ft} (h : vd (rdl (kK (cb (fun i => wI w 224 i) N) N) (kV (cb (fun i => wI w 224 i) N) N) (kN (cb (fun i => wI w 224 i) N) N) 402 s0 0) = .inl e) : e.1 ≠ 0 := by
  obtain ⟨r, -, -, g⟩ := m_readW hs rfl hO hN h2 hB hK h18
  rw [h] at g
  exact g.2.1
end MV
