/-! Level 3, read: the class's read as a whole. -/
/-- what is told in the end: the first thing wrong, or the will -/
def vd (ρ : Sum Ft Sst) : Sum Ft Sst := match ρ with
  | .inl e => .inl e
  | .inr s => if (sT s).1 = 0 then .inr s else .inl (sT s)
section CV
variable {L wl dr tx : Nat} {w : Wd} {B : Nat → Int} {N : Nat}
theorem cw_cdr {c : Nat → Int} {s : Sst} {t : Nat} (h : CDR c N dr w s t) : CW w dr (sV s) := by
  obtain ⟨hC, -, ⟨b, d1, d2, d3, d4⟩, ⟨z0, z1, z2, l1, l2, l3⟩, -⟩ := h
  have t4 := hC.1.1
  exact ⟨d1, d3, z0, by omega, z1, l1, fun h hh => l2 h (by omega), l3⟩
def PRc (dr a k : Nat) : Prop := PRt dr a ∨ (a = 6 ∧ k = 1)
/-- something was wrong -/
def CBAD (L wl dr : Nat) (c : Nat → Int) (N : Nat) (w : Wd) (e : Ft) (r : Int × Wd) : Prop := r.1 = (e.1 : Int) ∧ Ok L wl dr 7 r.2 ∧ (∀ a k, ¬ PRc dr a k → wI r.2 a k = wI w a k) ∧ wI r.2 8 0 = (kP c N e.2 : Int)
/-- all was well -/
def CGOOD (L wl dr : Nat) (w : Wd) (s : Sst) (r : Int × Wd) : Prop := r.1 = 0 ∧ Ok L dr wl 7 r.2 ∧ (∀ a k, ¬ (PRc dr a k ∨ Pan a k) → wI r.2 a k = wI w a k) ∧ CW r.2 dr (sV s) ∧ (wI r.2 40 0 = 0 ∧ wI r.2 40 1 = 0 ∧ wI r.2 40 2 = -2) ∧ (∀ l, l < 6 → wI r.2 41 l = if l < nl (sV s) then sH s l else 0) ∧ (∀ h, h < nh (sV s) → ∀ l, l < nl (sV s) → wI r.2 42 (6 * h + l) = sS s h l) ∧ (∀ i, i < 6 → wI r.2 43 i = 0) ∧ (wI r.2 50 0 = 0 ∧ wI r.2 50 1 = 0 ∧ wI r.2 173 0 = 0) ∧ (∀ j, j < 3 → wI r.2 (202 + 7 * j) 0 = 0) ∧ wI r.2 8 0 = -1
theorem c_rd2 {s : Sst} {w2 : Wd} {t : Nat} (hw : isWi wl) (hd : isWi dr) (hO : Ok L wl dr 7 w) (f2 : ∀ a k, ¬ PRc dr a k → wI w a k = wI w2 a k) (h0 : (sT s).1 = 0) {wx : Wd} (hD : CDR (cb B N) N dr wx s t) (hx : ∀ a k, a ≠ 6 → wI w a k = wI wx a k) (h6 : wI w 6 1 = 0) : Wp (Hh_beginAnew 6 w) (fun q => (wn q = wn w ∧ wz q = wz w ∧ ∀ a k, wL q a k = wL w a k) ∧ wI q 6 1 = 0 ∧ CGOOD L wl dr w2 s (0, q)) := by
  have hb := wi_bd hd
  have hW := (cw_cdr hD).eq (w1 := w) (fun a k q1 q2 => hx a k (by omega))
  obtain ⟨-, hT, ⟨⟨b1, b2, b3⟩, d1, d2, d3, d4⟩, -⟩ := hD
  have h8 : wI w 8 0 = -1 := by
    rcases hT with ⟨_, _, q⟩ | ⟨q, _⟩
    · exact (hx 8 0 (by omega)).trans q
    · exact absurd h0 q
  refine wp_use (c_anew hw hd hO) (fun q g => ?_)
  obtain ⟨g1, g2, g3, g4, g5, g6, g7, g8, g9⟩ := g
  refine ⟨g2, (g3 6 1 (by unfold Pan Psl; omega)).trans h6, rfl, g1, fun a k z => ?_, ?_, g4, fun l hl => ?_, fun h hh l hl => ?_, g7, g8, g9, (g3 8 0 (by unfold Pan Psl; omega)).trans h8⟩
  · exact (g3 a k (fun y => z (Or.inr y))).trans (f2 a k (fun y => z (Or.inl y)))
  · exact hW.eq (fun a k q1 q2 => g3 a k (by unfold Pan Psl; omega))
  · exact ((g5 l (by omega)).trans (hx _ _ (by omega))).trans (d2 l hl)
  · have := d4 h (by omega) l (by omega)
    rw [if_pos hh] at this
    exact ((g6 _ (by omega)).trans (hx _ _ (by omega))).trans this
theorem c_readW (hw : isWi wl) (hd : isWi dr) (hO : Ok L wl dr tx w) (hN : N ≤ 2000) (h6 : wI w 6 1 = (N : Int)) (hB : ∀ i, i < N → wI w 7 i = B i ∧ -128 ≤ B i ∧ B i ≤ 127) (hk : ∀ k, k < 17 → wL w 25 k = ky k) (h4 : wI w 4 1 = 0) (h5 : ∀ k, k < 9 → wI w 5 k = sgn k) (hpos : ∀ e, rdl (kK (cb B N) N) (kV (cb B N) N) (kN (cb B N) N) 402 s0 0 = .inl e → e.1 ≠ 0) : Wp (Hh_read 6 w) (fun r => (wn r.2 = wn w ∧ wz r.2 = wz w) ∧ (∀ a k, a ≠ 8 → a ≠ 24 → a ≠ 27 → wL r.2 a k = wL w a k) ∧ wI r.2 6 1 = 0 ∧ match vd (rdl (kK (cb B N) N) (kV (cb B N) N) (kN (cb B N) N) 402 s0 0) with
    | .inl e => CBAD L wl dr (cb B N) N w e r
    | .inr s => CGOOD L wl dr w s r) := by
  have hb := wi_bd hd
  unfold Hh_read Hh_read_0 Hh_read_29
  refine wp_gd hO rfl (wp_R11_2 hO (wp_R11_0 hO (wp_gI hO rfl ?_)))
  rw [h6]
  refine wp_call (c_readText (B := B) hd hO hN hB hk h4 h5) (fun r g => ?_)
  obtain ⟨v, w1⟩ := r
  obtain ⟨hO1, n1, f1, l1, g⟩ := g
  have hO1 : Ok L wl dr 7 w1 := hO1
  have n1 : wn w1 = wn w ∧ wz w1 = wz w := n1
  have f1 : ∀ a k, ¬ PRt dr a → wI w1 a k = wI w a k := f1
  have l1 : ∀ a k, a ≠ 8 → a ≠ 24 → a ≠ 27 → wL w1 a k = wL w a k := l1
  refine wp_pI hO1 rfl ?_
  show Wp (if v = 0 then (Hh_beginAnew 6 (sI w1 6 1 0)).bind fun r26 => some (v, r26) else some (v, sI w1 6 1 0)) _
  generalize hw2 : sI w1 6 1 0 = w2
  have hO2 : Ok L wl dr 7 w2 := by rw [← hw2]; exact hO1.sI
  have n2 : wn w2 = wn w ∧ wz w2 = wz w := by rw [← hw2]; exact n1
  have i2 : ∀ a k, a ≠ 6 → wI w2 a k = wI w1 a k := fun a k q => by rw [← hw2, wI_ne (by omega)]
  have f2 : ∀ a k, ¬ PRc dr a k → wI w2 a k = wI w a k := fun a k q => by
    unfold PRc at q
    rw [← hw2, wI_ne (by omega), f1 a k (fun y => q (Or.inl y))]
  have l2' : ∀ a k, wL w2 a k = wL w1 a k := fun a k => by rw [← hw2]; rfl
  have l2 : ∀ a k, a ≠ 8 → a ≠ 24 → a ≠ 27 → wL w2 a k = wL w a k := fun a k q1 q2 q3 => (l2' a k).trans (l1 a k q1 q2 q3)
  have v2 : wI w2 6 1 = 0 := by rw [← hw2, wI_eq]
  clear hw2
  cases hρ : rdl (kK (cb B N) N) (kV (cb B N) N) (kN (cb B N) N) 402 s0 0 with
  | inl e =>
    rw [hρ] at g
    have g : v = (e.1 : Int) ∧ wI w1 8 0 = (kP (cb B N) N e.2 : Int) := g
    have := hpos e hρ
    exact wp_neg (by omega) (wp_ret ⟨n2, l2, v2, g.1, hO2, f2, (i2 8 0 (by omega)).trans g.2⟩)
  | inr s =>
    rw [hρ] at g
    have g : v = ((sT s).1 : Int) ∧ ∃ t, CDR (cb B N) N dr w1 s t := g
    obtain ⟨g0, t, gD⟩ := g
    by_cases h0 : (sT s).1 = 0
    · have hv : v = 0 := by omega
      subst hv
      refine wp_pos rfl (wp_call (c_rd2 hw hd hO2 f2 h0 gD i2 v2) (fun q g3 => wp_ret ?_))
      obtain ⟨⟨a1, a2, a3⟩, a4, a5⟩ := g3
      show _ ∧ _ ∧ _ ∧ match (if (sT s).1 = 0 then (Sum.inr s : Sum Ft Sst) else .inl (sT s)) with
        | .inl e => CBAD L wl dr (cb B N) N w e (0, q)
        | .inr s => CGOOD L wl dr w s (0, q)
      rw [if_pos h0]
      exact ⟨⟨a1.trans n2.1, a2.trans n2.2⟩, fun a k q1 q2 q3 => (a3 a k).trans (l2 a k q1 q2 q3), a4, a5⟩
    · have h8 : wI w1 8 0 = (kP (cb B N) N (sT s).2 : Int) := by
        rcases gD.2.1 with ⟨q, _⟩ | ⟨_, _, q⟩
        · exact absurd q h0
        · exact q
      refine wp_neg (by omega) (wp_ret ?_)
      show _ ∧ _ ∧ _ ∧ match (if (sT s).1 = 0 then (Sum.inr s : Sum Ft Sst) else .inl (sT s)) with
        | .inl e => CBAD L wl dr (cb B N) N w e (v, w2)
        | .inr s => CGOOD L wl dr w s (v, w2)
      rw [if_neg h0]
      exact ⟨n2, l2, v2, g0, hO2, f2, (i2 8 0 (by omega)).trans h8⟩
end CV
