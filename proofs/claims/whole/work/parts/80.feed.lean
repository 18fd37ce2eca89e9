/-! Level 3: calls, feed. -/
theorem n8_bv (b : BitVec 32) : n8 b.toInt = (b.setWidth 8).toInt := by
  unfold n8
  rw [BitVec.toInt_setWidth, BitVec.toInt_eq_toNat_bmod, Int.bmod_bmod_of_dvd (by decide)]
theorem sh_bv (v : BitVec 32) (k : Nat) (hk : k ≤ 24) : (v >>> k).setWidth 8 = (v.sshiftRight k).setWidth 8 := by
  apply BitVec.eq_of_getLsbD_eq
  intro i hi
  have h1 : k + i < 32 := by omega
  have h2 : ¬ 32 ≤ i := by omega
  simp [BitVec.getLsbD_setWidth, BitVec.getLsbD_ushiftRight, BitVec.getLsbD_sshiftRight, h1, hi]
  intro h
  omega
theorem n8_sh (a b : Int) (hb : b = 24 ∨ b = 16 ∨ b = 8 ∨ b = 0) : n8 (oshr a b) = n8 (oushr a b) := by
  unfold oshr oushr
  generalize i32 a = v
  rcases hb with rfl | rfl | rfl | rfl
  · show n8 (v.toBitVec.sshiftRight 24).toInt = n8 (v.toBitVec >>> 24).toInt
    rw [n8_bv, n8_bv, sh_bv _ _ (by decide)]
  · show n8 (v.toBitVec.sshiftRight 16).toInt = n8 (v.toBitVec >>> 16).toInt
    rw [n8_bv, n8_bv, sh_bv _ _ (by decide)]
  · show n8 (v.toBitVec.sshiftRight 8).toInt = n8 (v.toBitVec >>> 8).toInt
    rw [n8_bv, n8_bv, sh_bv _ _ (by decide)]
  · show n8 (v.toBitVec.sshiftRight 0).toInt = n8 (v.toBitVec >>> 0).toInt
    rw [n8_bv, n8_bv, sh_bv _ _ (by decide)]
theorem n8_bd (z : Int) : -128 ≤ n8 z ∧ n8 z ≤ 127 := by
  have h1 := Int.le_bmod (x := z) (m := 256) (by decide)
  have h2 := Int.bmod_lt (x := z) (m := 256) (by decide)
  unfold n8
  omega
def by4 (x : Int) (j : Nat) : Int := n8 (n8 (oushr x (24 - 8 * (j : Int))))
section K23
variable {L wl dr tx s : Nat} {w w0 : Wd} {V : Vl} {σ : Sg} {x y z Y : Int} {n : Nat}
def PTc (n a k : Nat) : Prop := (a = 6 ∧ k = 1) ∨ (a = 7 ∧ n ≤ k)
def PTm (n a k : Nat) : Prop := (a = 223 ∧ k = 2) ∨ (a = 224 ∧ n ≤ k)
theorem c_pf3 (hn : n + 4 ≤ 2000) : ∀ (r m j : Nat) (w : Wd), j + r = 4 → r < m → Ok L wl dr tx w → wI w 6 1 = ((n + j : Nat) : Int) → Fr (PTc n) w0 w → (∀ i, i < j → wI w 7 (n + i) = by4 x i) → Wp (Hh_putFour_3 m 6 x (24 - 8 * (j : Int)) w) (fun w1 => Fr (PTc n) w0 w1 ∧ wI w1 6 1 = ((n + 4 : Nat) : Int) ∧ ∀ i, i < 4 → wI w1 7 (n + i) = by4 x i)
  | r, 0, j, w, _, hm, _, _, _, _ => absurd hm (by omega)
  | 0, m + 1, j, w, hr, hm, hO, h1, hF, hZ => by
    have e : j = 4 := by omega
    subst e
    rw [Hh_putFour_3]
    unfold Hh_putFour_46
    exact wp_pos (by decide) (wp_ret ⟨hF, h1, hZ⟩)
  | r + 1, m + 1, j, w, hr, hm, hO, h1, hF, hZ => by
    rw [Hh_putFour_3]
    refine wp_neg (by omega) (wp_gI hO rfl ?_)
    rw [h1]
    refine wp_neg (by omega) (wp_R11_0 hO (wp_gI hO rfl ?_))
    rw [h1]
    refine wp_wB hO rfl (by omega) ?_
    rw [Int.toNat_natCast]
    rw [show n8 (n8 (oushr x (24 - 8 * (j : Int)))) = by4 x j from rfl]
    generalize hw1 : sI w 7 (n + j) (by4 x j) = w1
    have f1 : Fr (PTc n) w0 w1 := by rw [← hw1]; exact hF.sI (by unfold PTc; omega)
    have hO1 : Ok L wl dr tx w1 := by rw [← hw1]; exact hO.sI
    refine wp_gI hO1 rfl ?_
    rw [show wI w1 6 1 = ((n + j : Nat) : Int) by rw [← hw1, wI_ne (by omega), h1], w32_id (by omega) (by omega), w32_id (z := 24 - 8 * (j : Int) + -8) (by omega) (by omega), show 24 - 8 * (j : Int) + -8 = 24 - 8 * ((j + 1 : Nat) : Int) by omega, show ((n + j : Nat) : Int) + 1 = ((n + (j + 1) : Nat) : Int) by omega]
    refine wp_pI hO1 rfl ?_
    refine c_pf3 hn r m (j + 1) _ (by omega) (by omega) hO1.sI (wI_eq _ _ _ _) (f1.sI (by unfold PTc; omega)) (fun i hi => ?_)
    rw [wI_ne (by omega), ← hw1]
    by_cases p : i = j
    · rw [p, wI_eq]
    · rw [wI_ne (by omega)]; exact hZ i (by omega)
theorem m_pf3 (hn : n + 4 ≤ 2000) : ∀ (r m j : Nat) (w : Wd), j + r = 4 → r < m → Ok L wl dr tx w → wI w 223 2 = ((n + j : Nat) : Int) → Fr (PTm n) w0 w → (∀ i, i < j → wI w 224 (n + i) = by4 x i) → Wp (Mo_put_3 m 223 x (24 - 8 * (j : Int)) w) (fun w1 => Fr (PTm n) w0 w1 ∧ wI w1 223 2 = ((n + 4 : Nat) : Int) ∧ ∀ i, i < 4 → wI w1 224 (n + i) = by4 x i)
  | r, 0, j, w, _, hm, _, _, _, _ => absurd hm (by omega)
  | 0, m + 1, j, w, hr, hm, hO, h1, hF, hZ => by
    have e : j = 4 := by omega
    subst e
    rw [Mo_put_3]
    exact wp_pos (by decide) (wp_ret ⟨hF, h1, hZ⟩)
  | r + 1, m + 1, j, w, hr, hm, hO, h1, hF, hZ => by
    rw [Mo_put_3]
    refine wp_neg (by omega) (wp_R12_1 hO (wp_gI hO rfl ?_))
    rw [h1, n8_sh x _ (by omega)]
    refine wp_wB hO rfl (by omega) ?_
    rw [Int.toNat_natCast]
    rw [show n8 (n8 (oushr x (24 - 8 * (j : Int)))) = by4 x j from rfl]
    generalize hw1 : sI w 224 (n + j) (by4 x j) = w1
    have f1 : Fr (PTm n) w0 w1 := by rw [← hw1]; exact hF.sI (by unfold PTm; omega)
    have hO1 : Ok L wl dr tx w1 := by rw [← hw1]; exact hO.sI
    refine wp_gI hO1 rfl ?_
    rw [show wI w1 223 2 = ((n + j : Nat) : Int) by rw [← hw1, wI_ne (by omega), h1], w32_id (by omega) (by omega), w32_id (z := 24 - 8 * (j : Int) + -8) (by omega) (by omega), show 24 - 8 * (j : Int) + -8 = 24 - 8 * ((j + 1 : Nat) : Int) by omega, show ((n + j : Nat) : Int) + 1 = ((n + (j + 1) : Nat) : Int) by omega]
    refine wp_pI hO1 rfl ?_
    refine m_pf3 hn r m (j + 1) _ (by omega) (by omega) hO1.sI (wI_eq _ _ _ _) (f1.sI (by unfold PTm; omega)) (fun i hi => ?_)
    rw [wI_ne (by omega), ← hw1]
    by_cases p : i = j
    · rw [p, wI_eq]
    · rw [wI_ne (by omega)]; exact hZ i (by omega)
theorem c_put4 {A : Nat → Int} {q : Nat} (hn : n + 4 * (q + 1) ≤ 2000) (hO : Ok L wl dr tx w) (h1 : wI w 6 1 = ((n + 4 * q : Nat) : Int)) (hF : Fr (PTc n) w0 w) (hZ : ∀ i, i < 4 * q → wI w 7 (n + i) = by4 (A (i / 4)) (i % 4)) : Wp (Hh_putFour 6 (A q) w) (fun w1 => Ok L wl dr tx w1 ∧ Fr (PTc n) w0 w1 ∧ wI w1 6 1 = ((n + 4 * (q + 1) : Nat) : Int) ∧ ∀ i, i < 4 * (q + 1) → wI w1 7 (n + i) = by4 (A (i / 4)) (i % 4)) := by
  unfold Hh_putFour Hh_putFour_0
  generalize hFU : FU = fu; have hfu : 1000000 = fu := hFU
  refine wp_gd hO rfl (wp_use (c_pf3 (w0 := w) (x := A q) (n := n + 4 * q) (by omega) 4 fu 0 w (by omega) (by omega) hO h1 (Fr.rf w) (fun i hi => absurd hi (by omega))) (fun w1 g => ⟨g.1.ok hO, hF.tr (g.1.mono (fun a k q => by unfold PTc at q; unfold PTc; omega)), g.2.1, fun i hi => ?_⟩))
  by_cases p : i < 4 * q
  · rw [g.1.at 7 _ (by unfold PTc; omega)]; exact hZ i p
  · have e := g.2.2 (i - 4 * q) (by omega)
    rw [show n + 4 * q + (i - 4 * q) = n + i by omega] at e
    rw [e, show i / 4 = q by omega, show i % 4 = i - 4 * q by omega]
theorem m_put4 {A : Nat → Int} {q : Nat} (hn : n + 4 * (q + 1) ≤ 2000) (hO : Ok L wl dr tx w) (h1 : wI w 223 2 = ((n + 4 * q : Nat) : Int)) (hF : Fr (PTm n) w0 w) (hZ : ∀ i, i < 4 * q → wI w 224 (n + i) = by4 (A (i / 4)) (i % 4)) : Wp (Mo_put 223 (A q) w) (fun w1 => Ok L wl dr tx w1 ∧ Fr (PTm n) w0 w1 ∧ wI w1 223 2 = ((n + 4 * (q + 1) : Nat) : Int) ∧ ∀ i, i < 4 * (q + 1) → wI w1 224 (n + i) = by4 (A (i / 4)) (i % 4)) := by
  unfold Mo_put Mo_put_0
  generalize hFU : FU = fu; have hfu : 1000000 = fu := hFU
  refine wp_gd hO rfl (wp_use (m_pf3 (w0 := w) (x := A q) (n := n + 4 * q) (by omega) 4 fu 0 w (by omega) (by omega) hO h1 (Fr.rf w) (fun i hi => absurd hi (by omega))) (fun w1 g => ⟨g.1.ok hO, hF.tr (g.1.mono (fun a k q => by unfold PTm at q; unfold PTm; omega)), g.2.1, fun i hi => ?_⟩))
  by_cases p : i < 4 * q
  · rw [g.1.at 224 _ (by unfold PTm; omega)]; exact hZ i p
  · have e := g.2.2 (i - 4 * q) (by omega)
    rw [show n + 4 * q + (i - 4 * q) = n + i by omega] at e
    rw [e, show i / 4 = q by omega, show i % 4 = i - 4 * q by omega]
theorem call_feed {a b c d e : Int} (h : INV L w Y) : CALL L w Y (Hh_feed 6 a b c d e) (Mo_feed 223 a b c d e) := by
  have hI := h
  obtain ⟨wl, dr, tx, s, V, σ, hO, hv, hdr, hne, hV, hW, hs, hM, hN, hP, hS, hR, ⟨n, h1, c1, m1, hp⟩, he, hf⟩ := h
  obtain ⟨A, rfl, rfl, rfl, rfl, rfl⟩ : ∃ A : Nat → Int, A 0 = a ∧ A 1 = b ∧ A 2 = c ∧ A 3 = d ∧ A 4 = e := ⟨fun k => if k = 0 then a else if k = 1 then b else if k = 2 then c else if k = 3 then d else e, rfl, rfl, rfl, rfl, rfl⟩
  unfold CALL Hh_feed Hh_feed_0 Mo_feed Mo_feed_0
  refine wp_gd hO rfl (wp_gI hO rfl ?_)
  rw [c1, w32_id (by omega) (by omega)]
  by_cases q : (n : Int) + 20 ≤ 2000
  · have hn : n + 20 ≤ 2000 := by omega
    refine wp_pos q ?_
    refine wp_call (c_put4 (A := A) (q := 0) (n := n) (w0 := w) (by omega) hO c1 (Fr.rf w) (fun i hi => absurd hi (by omega))) (fun w1 g1 => ?_)
    refine wp_call (c_put4 (A := A) (q := 1) (n := n) (w0 := w) (by omega) g1.1 g1.2.2.1 g1.2.1 g1.2.2.2) (fun w2 g2 => ?_)
    refine wp_call (c_put4 (A := A) (q := 2) (n := n) (w0 := w) (by omega) g2.1 g2.2.2.1 g2.2.1 g2.2.2.2) (fun w3 g3 => ?_)
    refine wp_call (c_put4 (A := A) (q := 3) (n := n) (w0 := w) (by omega) g3.1 g3.2.2.1 g3.2.1 g3.2.2.2) (fun w4 g4 => ?_)
    refine wp_call (c_put4 (A := A) (q := 4) (n := n) (w0 := w) (by omega) g4.1 g4.2.2.1 g4.2.1 g4.2.2.2) (fun w5 g5 => ?_)
    obtain ⟨hO5, f5, t5, z5⟩ := g5
    refine wp_gI hO5 rfl (wp_ret (wp_gd hO5 rfl (wp_gI hO5 rfl ?_)))
    have m5 : wI w5 223 2 = (n : Int) := (f5.at 223 2 (by unfold PTc; omega)).trans m1
    rw [m5, w32_id (by omega) (by omega)]
    refine wp_pos q ?_
    refine wp_call (m_put4 (A := A) (q := 0) (n := n) (w0 := w5) (by omega) hO5 m5 (Fr.rf w5) (fun i hi => absurd hi (by omega))) (fun v1 k1 => ?_)
    refine wp_call (m_put4 (A := A) (q := 1) (n := n) (w0 := w5) (by omega) k1.1 k1.2.2.1 k1.2.1 k1.2.2.2) (fun v2 k2 => ?_)
    refine wp_call (m_put4 (A := A) (q := 2) (n := n) (w0 := w5) (by omega) k2.1 k2.2.2.1 k2.2.1 k2.2.2.2) (fun v3 k3 => ?_)
    refine wp_call (m_put4 (A := A) (q := 3) (n := n) (w0 := w5) (by omega) k3.1 k3.2.2.1 k3.2.1 k3.2.2.2) (fun v4 k4 => ?_)
    refine wp_call (m_put4 (A := A) (q := 4) (n := n) (w0 := w5) (by omega) k4.1 k4.2.2.1 k4.2.1 k4.2.2.2) (fun v5 k5 => ?_)
    obtain ⟨hO6, f6, t6, z6⟩ := k5
    have f7 : Fr (fun a k => PTc n a k ∨ PTm n a k) w v5 := (f5.mono (fun a k q => Or.inl q)).tr (f6.mono (fun a k q => Or.inr q))
    refine wp_gI hO6 rfl (wp_ret ⟨?_, ?_, f7.2.1, f7.2.2.1⟩)
    · show wI v5 223 2 = wI w5 6 1
      rw [t6, t5]
    · refine inv_mk hO hv hdr hne hV hW hs hM he hf f7.fb (fun a k q => by unfold PTc PTm at q; unfold KT; omega) (now_eq hV hN (fun a k q => f7.at a k (by unfold PTc PTm; omega)) (fr_l f7 49)) (past_eq hV hP (fun a k q => f7.at a k (by unfold PTc PTm; omega)) (fr_l f7 49)) (slot_eq hV hS (fun a k q => f7.at a k (by unfold PTc PTm; omega)) (fun x k _ _ => fr_l f7 x k)) (papr_eq hR (fun a k q => f7.at a k (by unfold PTc PTm; omega))) ⟨n + 20, by omega, ?_, t6, fun i hi => ?_⟩
      · exact (f6.at 6 1 (by unfold PTm; omega)).trans t5
      · by_cases p : i < n
        · rw [f7.at 7 i (by unfold PTc PTm; omega), f7.at 224 i (by unfold PTc PTm; omega)]; exact hp i p
        · have e5 := z5 (i - n) (by omega)
          have e6 := z6 (i - n) (by omega)
          have ei : n + (i - n) = i := by omega
          generalize i - n = k at e5 e6 ei
          subst ei
          rw [f6.at 7 _ (by unfold PTm; omega), e5, e6]
          exact ⟨rfl, n8_bd _⟩
  · refine wp_neg q (wp_ret (wp_gd hO rfl (wp_gI hO rfl ?_)))
    rw [m1, w32_id (by omega) (by omega)]
    exact wp_neg q (wp_ret ⟨rfl, hI, rfl, rfl⟩)
end K23
