/-! Level 3, read: the class opens a text and reads it. -/
section CY
variable {L wl dr : Nat} {B : Nat → Int} {N : Nat}
theorem c_open18 {Q : Wd → Prop} {w0 : Wd} (kk : ∀ w1, FL (fun _ _ => False) (fun a _ => a = 27) w0 w1 → (∀ j, j < 15 → wL w1 27 j = 0) → Wp (Rd_open_40 8 w1) Q) : ∀ (r m k : Nat) (w : Wd), k + r = 15 → r < m → Ok L wl dr 7 w → FL (fun _ _ => False) (fun a _ => a = 27) w0 w → (∀ j, j < k → wL w 27 j = 0) → Wp (Rd_open_18 m 8 (k : Int) w) Q
  | r, 0, k, w, _, hm, _, _, _ => absurd hm (by omega)
  | 0, m + 1, k, w, hk, hm, hO, hF, hZ => by
    rw [Rd_open_18]
    exact wp_R6_4 hO (wp_al (n := 15) (t := 22) hO rfl (by decide) (wp_pos (by omega) (kk w hF (fun j hj => hZ j (by omega)))))
  | r + 1, m + 1, k, w, hk, hm, hO, hF, hZ => by
    rw [Rd_open_18]
    refine wp_R6_4 hO (wp_al (n := 15) (t := 22) hO rfl (by decide) (wp_neg (by omega) (wp_R6_4 hO (wp_wL hO rfl (by omega) ?_))))
    rw [Int.toNat_natCast, w32_id (z := (k : Int) + 1) (by omega) (by omega), show (k : Int) + 1 = ((k + 1 : Nat) : Int) by omega]
    refine c_open18 kk r m (k + 1) _ (by omega) (by omega) hO.sL (hF.sL rfl) (fun j hj => ?_)
    by_cases e : j = k
    · rw [e, wL_eq]
    · rw [wL_ne (by omega)]; exact hZ j (by omega)
/-- from before the first token to it -/
theorem c_pass0 {c : Nat → Int} {w : Wd} (hO : Ok L wl dr 7 w) (hT : CT c N w) (h5 : wI w 8 5 = -1) : Wp (Rd_pass 8 w) (fun r => CUR c N r.2 0 ∧ FL PSt QSt w r.2) := by
  have hg : goes c N 0 := fun i hi => absurd hi (by omega)
  obtain ⟨r1, r2, r3, r4⟩ := hT 0 (by omega) hg
  unfold Rd_pass Rd_pass_0
  refine wp_gd hO rfl (wp_gI hO rfl ?_)
  rw [h5]
  refine wp_pos (by decide) (wp_gI hO rfl ?_)
  rw [h5, show w32 (-1 + 1) = 0 from w32_id (by decide) (by decide)]
  refine wp_pI hO rfl ?_
  generalize hw1 : sI w 8 5 0 = w1
  have hO1 : Ok L wl dr 7 w1 := by rw [← hw1]; exact hO.sI
  have f1 : FL PSt QSt w w1 := by rw [← hw1]; exact (FL.rf w).sI (by unfold PSt; omega)
  have e5 : wI w1 8 5 = 0 := by rw [← hw1, wI_eq]
  refine wp_R6_3 hO1 (wp_R7_0 hO1 (wp_gI hO1 rfl ?_))
  rw [e5]
  refine wp_rI hO1 rfl (by omega) ?_
  rw [show (0 : Int).toNat = 0 from rfl, f1.i 22 _ (by unfold PSt; omega), r1]
  refine wp_pI hO1 rfl ?_
  generalize hw2 : sI w1 8 6 (ck (kK c N 0)) = w2
  have hO2 : Ok L wl dr 7 w2 := by rw [← hw2]; exact hO1.sI
  have f2 : FL PSt QSt w w2 := by rw [← hw2]; exact f1.sI (by unfold PSt; omega)
  have e52 : wI w2 8 5 = 0 := by rw [← hw2, wI_ne (by omega), e5]
  have e62 : wI w2 8 6 = ck (kK c N 0) := by rw [← hw2, wI_eq]
  refine wp_R6_3 hO2 (wp_R7_2 hO2 (wp_gI hO2 rfl ?_))
  rw [e52]
  refine wp_rL hO2 rfl (by omega) ?_
  rw [show (0 : Int).toNat = 0 from rfl, f2.l 24 _ (by unfold QSt; omega)]
  refine wp_pL hO2 rfl (wp_ret ?_)
  have f3 : FL PSt QSt w (sL w2 8 7 (wL w 24 0)) := f2.sL (by unfold QSt; omega)
  refine ⟨⟨⟨by omega, hg⟩, ?_, ?_, fun k => ?_, fun k => ?_⟩, f3⟩
  · rw [wI_sL]; exact e52
  · rw [wI_sL]; exact e62
  · rw [wL_eq]; exact r3 k
  · rw [wL_eq]; exact r4 k
/-- what reading may change of the class, the tape aside -/
def PRt (dr a : Nat) : Prop := a = 8 ∨ (dr ≤ a ∧ a ≤ dr + 9) ∨ (21 ≤ a ∧ a ≤ 23)
theorem c_readText {tx : Nat} {w : Wd} (hd : isWi dr) (hO : Ok L wl dr tx w) (hN : N ≤ 2000) (hB : ∀ i, i < N → wI w 7 i = B i ∧ -128 ≤ B i ∧ B i ≤ 127) (hk : ∀ k, k < 17 → wL w 25 k = ky k) (h4 : wI w 4 1 = 0) (h5 : ∀ k, k < 9 → wI w 5 k = sgn k) : Wp (Rd_readText 8 7 (N : Int) w) (fun r => Ok L wl dr 7 r.2 ∧ (wn r.2 = wn w ∧ wz r.2 = wz w) ∧ (∀ a k, ¬ PRt dr a → wI r.2 a k = wI w a k) ∧ (∀ a k, a ≠ 8 → a ≠ 24 → a ≠ 27 → wL r.2 a k = wL w a k) ∧ match rdl (kK (cb B N) N) (kV (cb B N) N) (kN (cb B N) N) 402 s0 0 with
    | .inl e => r.1 = (e.1 : Int) ∧ wI r.2 8 0 = (kP (cb B N) N e.2 : Int)
    | .inr s => r.1 = ((sT s).1 : Int) ∧ ∃ t, CDR (cb B N) N dr r.2 s t) := by
  have hb := wi_bd hd
  have dn := wi_ne hd
  have hS : Ok L wl dr tx w := hO
  unfold Rd_readText Rd_readText_0 Rd_open Rd_open_0
  generalize hFU : FU = fu; have hfu : 1000000 = fu := hFU
  refine wp_gd hO rfl (wp_call (P := fun w1 => Ok L wl dr 7 w1 ∧ (wn w1 = wn w ∧ wz w1 = wz w) ∧ (∀ a k, ¬ PRt dr a → wI w1 a k = wI w a k) ∧ (∀ a k, a ≠ 8 → a ≠ 24 → a ≠ 27 → wL w1 a k = wL w a k) ∧ CT (cb B N) N w1 ∧ CDR (cb B N) N dr w1 s0 0) (wp_gd hO rfl (wp_R6_3 hO (wp_call (c_cut (B := B) (N := N) hO hN hB hk h4 h5) (fun w1 g1 => ?_)))) (fun w1 g => ?_))
  · obtain ⟨hO1, n1, i1, l1, T1⟩ := g1
    refine wp_R6_1 hO1 dn (wp_call (c_clear hd hO1) (fun w2 g2 => ?_))
    obtain ⟨f2, D2, z2, y2, x2⟩ := g2
    have hO2 := f2.ok hO1
    have T2 : CT (cb B N) N w2 := T1.fl (fun a k q => f2.at a k (by omega)) (fun k => by rw [f2.2.2.2.1])
    refine c_open18 (w0 := w2) (fun w3 f3 y3 => ?_) 15 fu 0 w2 (by omega) (by omega) hO2 (FL.rf w2) (fun j hj => absurd hj (by omega))
    have hO3 := f3.ok hO2
    have T3 : CT (cb B N) N w3 := T2.fl (fun a k q => f3.i a k id) (fun k => f3.l 24 k (by omega))
    unfold Rd_open_40
    refine wp_pI hO3 rfl (wp_pI hO3.sI rfl (wp_pI hO3.sI.sI rfl ?_))
    generalize hw4 : sI (sI (sI w3 8 2 0) 8 0 (-1)) 8 5 (-1) = w4
    have hO4 : Ok L wl dr 7 w4 := by rw [← hw4]; exact hO3.sI.sI.sI
    have i4 : ∀ a k, a ≠ 8 → wI w4 a k = wI w3 a k := fun a k q => by rw [← hw4, wI_ne (by omega), wI_ne (by omega), wI_ne (by omega)]
    have l4 : ∀ a k, wL w4 a k = wL w3 a k := fun a k => by rw [← hw4, wL_sI, wL_sI, wL_sI]
    have m4 : wn w4 = wn w3 ∧ wz w4 = wz w3 := by rw [← hw4]; exact ⟨rfl, rfl⟩
    have u4 : wI w4 8 2 = 0 ∧ wI w4 8 0 = -1 ∧ wI w4 8 5 = -1 := by rw [← hw4]; exact ⟨((wI_ne (by omega)).trans (wI_ne (by omega))).trans (wI_eq _ _ _ _), (wI_ne (by omega)).trans (wI_eq _ _ _ _), wI_eq _ _ _ _⟩
    have T4 : CT (cb B N) N w4 := T3.fl (fun a k q => i4 a k (by omega)) (fun k => l4 _ _)
    clear hw4
    refine wp_call (c_pass0 hO4 T4 u4.2.2) (fun r hr => wp_ret ?_)
    obtain ⟨C5, F5⟩ := hr
    have j5 : ∀ a k, a ≠ 8 → wI r.2 a k = wI w2 a k := fun a k q => ((F5.i a k (by unfold PSt; omega)).trans (i4 a k q)).trans (f3.i a k id)
    have k5 : ∀ a k, a ≠ 8 → wL r.2 a k = wL w3 a k := fun a k q => (F5.l a k (by unfold QSt; omega)).trans (l4 a k)
    refine ⟨(st_rd (dr := dr) F5).ok hO4, ⟨?_, ?_⟩, fun a k q => ?_, fun a k q1 q2 q3 => ?_, T4.px hd (st_px (z := 0) F5), C5, Or.inl ⟨rfl, ?_, ?_⟩, D2.eq (fun a k q1 q2 => j5 a k (by omega)), ⟨0, (j5 _ _ (by omega)).trans z2, Nat.le_refl _, fun m hm => absurd hm (Nat.not_lt_zero _), fun x hx => (j5 _ _ (by omega)).trans (y2 x hx), (j5 _ _ (by omega)).trans x2⟩, fun x hx => absurd hx (Nat.not_lt_zero _), fun v hv => ?_, fun j h1 h2 h3 h4 => (k5 27 j (by omega)).trans (y3 j h1)⟩
    · rw [F5.1.1, m4.1, f3.1.1, f2.2.1, n1.1]
    · rw [F5.1.2, m4.2, f3.1.2, f2.2.2.1, n1.2]
    · unfold PRt at q
      rw [j5 a k (by omega), f2.at a k (by omega), i1 a k (by omega)]
    · rw [k5 a k q1, f3.l a k q3, f2.2.2.2.1, l1 a k q2]
    · rw [F5.i 8 2 (by unfold PSt; omega), u4.1]
    · rw [F5.i 8 0 (by unfold PSt; omega), u4.2.1]
    · constructor
      · rintro ⟨j, j1, j2⟩
        rw [k5 27 j (by omega), y3 j j1] at j2
        exact absurd j2.symm hv
      · intro h
        cases h
  · obtain ⟨hO1, n1, i1, l1, T1, D1⟩ := g
    refine wp_use (c_rd11 (w0 := w1) hd 402 fu 0 0 s0 w1 (by omega) (by omega) (by omega) hO1 T1 D1 (FL.rf w1)) (fun r hr => ?_)
    obtain ⟨f2, hr⟩ := hr
    refine ⟨f2.ok hO1, ⟨f2.1.1.trans n1.1, f2.1.2.trans n1.2⟩, fun a k q => ?_, fun a k q1 q2 q3 => ?_, hr⟩
    · unfold PRt at q
      rw [f2.i a k (by unfold PRd; omega), i1 a k (by unfold PRt; omega)]
    · rw [f2.l a k (by unfold QRd; omega), l1 a k q1 q2 q3]
end CY
