/-! Level 3, the reference: what was before is kept. -/
def PH (a k : Nat) : Prop := a = 259 ∨ (a = 223 ∧ k = 58) ∨ a = 255
section KP
variable {L wl dr tx : Nat} {w : Wd}
theorem kp_ix {u k : Nat} (hu : u < 30) (hk : k < 2860) : w32 (w32 (2860 * (u : Int)) + (k : Int)) = ((2860 * u + k : Nat) : Int) := by
  rw [w32_id (z := 2860 * (u : Int)) (by omega) (by omega), w32_id (by omega) (by omega)]; omega
theorem m_kp98 : ∀ (r n k : Nat) (w : Wd), k + r = 2860 → r < n → Ok L wl dr tx w → (∀ j, j < k → wI w 255 j = wI w 256 j) → Wp (Mo_keeps_98 n 223 (k : Int) w) (fun w1 => Fr (PA 255) w w1 ∧ ∀ j, j < 2860 → wI w1 255 j = wI w 256 j)
  | r, 0, k, w, _, hn, _, _ => absurd hn (by omega)
  | 0, n + 1, k, w, hk, hn, hO, hZ => by
    rw [Mo_keeps_98]
    exact wp_pos (by omega) (wp_ret ⟨Fr.rf w, fun j hj => hZ j (by omega)⟩)
  | r + 1, n + 1, k, w, hk, hn, hO, hZ => by
    rw [Mo_keeps_98]
    refine wp_neg (by omega) (wp_R12_49 hO (wp_R12_50 hO (wp_rI hO rfl (by omega) (wp_wI hO rfl (by omega) ?_))))
    rw [Int.toNat_natCast, w32_id (z := (k : Int) + 1) (by omega) (by omega), show (k : Int) + 1 = ((k + 1 : Nat) : Int) by omega]
    generalize hw1 : sI w 255 k (wI w 256 k) = w1
    have f1 : Fr (PA 255) w w1 := by rw [← hw1]; exact fr_sI PA.i
    have n1 : ∀ j, wI w1 256 j = wI w 256 j := fun j => f1.at 256 j (by unfold PA; omega)
    refine wp_use (m_kp98 r n (k + 1) w1 (by omega) (by omega) (f1.ok hO) (fun j hj => ?_)) (fun w2 g => ⟨f1.tr g.1, fun j hj => (g.2 j hj).trans (n1 j)⟩)
    rw [n1]
    by_cases p : j = k
    · rw [p, ← hw1, wI_eq]
    · rw [← hw1, wI_ne (by omega)]; exact hZ j (by omega)
theorem m_kp52 {Q : Wd → Prop} {u : Nat} (hu : u < 30) : ∀ (r n k : Nat) (w : Wd), k + r = 2860 → r < n → Ok L wl dr tx w → wI w 223 58 = (u : Int) → (∀ j, j < k → wI w 259 (2860 * u + j) = wI w 255 j) →
    (∀ w1, Fr (PA 259) w w1 → (∀ x, ¬ (2860 * u ≤ x ∧ x < 2860 * u + 2860) → wI w1 259 x = wI w 259 x) → (∀ j, j < 2860 → wI w1 259 (2860 * u + j) = wI w 255 j) → Wp (Mo_keeps_86 223 w1) Q) →
    Wp (Mo_keeps_52 n 223 (k : Int) w) Q
  | r, 0, k, w, _, hn, _, _, _, _ => absurd hn (by omega)
  | 0, n + 1, k, w, hk, hn, hO, hU, hZ, kk => by
    rw [Mo_keeps_52]
    exact wp_pos (by omega) (kk w (Fr.rf w) (fun _ _ => rfl) (fun j hj => hZ j (by omega)))
  | r + 1, n + 1, k, w, hk, hn, hO, hU, hZ, kk => by
    rw [Mo_keeps_52]
    refine wp_neg (by omega) (wp_R12_59 hO (wp_gI hO rfl ?_))
    rw [hU, kp_ix hu (by omega)]
    refine wp_R12_49 hO (wp_rI hO rfl (by omega) (wp_wI hO rfl (by omega) ?_))
    rw [Int.toNat_natCast, Int.toNat_natCast, w32_id (z := (k : Int) + 1) (by omega) (by omega), show (k : Int) + 1 = ((k + 1 : Nat) : Int) by omega]
    generalize hw1 : sI w 259 (2860 * u + k) (wI w 255 k) = w1
    have f1 : Fr (PA 259) w w1 := by rw [← hw1]; exact fr_sI PA.i
    have n1 : ∀ j, wI w1 255 j = wI w 255 j := fun j => f1.at 255 j (by unfold PA; omega)
    have h1 : ∀ x, x ≠ 2860 * u + k → wI w1 259 x = wI w 259 x := fun x hx => by rw [← hw1]; exact wI_ne (by omega)
    refine m_kp52 hu r n (k + 1) w1 (by omega) (by omega) (f1.ok hO) ((f1.at 223 58 (by unfold PA; omega)).trans hU) (fun j hj => ?_) (fun w2 g1 g2 g3 => kk w2 (f1.tr g1) (fun x hx => (g2 x hx).trans (h1 x (by omega))) (fun j hj => (g3 j hj).trans (n1 j)))
    rw [n1]
    by_cases p : j = k
    · rw [p, ← hw1, wI_eq]
    · rw [h1 _ (by omega)]; exact hZ j (by omega)
theorem m_kp11 {Q : Wd → Prop} {w0 : Wd} : ∀ (r n k : Nat) (w : Wd), k + r = 82940 → r < n → Ok L wl dr tx w → Fr (PA 259) w0 w → (∀ j, j < k → wI w 259 j = wI w0 259 (j + 2860)) → (∀ j, k ≤ j → wI w 259 j = wI w0 259 j) →
    (∀ w1, Fr (PA 259) w0 w1 → (∀ j, j < 82940 → wI w1 259 j = wI w0 259 (j + 2860)) → Wp (Mo_keeps_40 223 w1) Q) →
    Wp (Mo_keeps_11 n 223 (k : Int) w) Q
  | r, 0, k, w, _, hn, _, _, _, _, _ => absurd hn (by omega)
  | 0, n + 1, k, w, hk, hn, hO, hF, hZ, hY, kk => by
    rw [Mo_keeps_11]
    exact wp_pos (by omega) (kk w hF (fun j hj => hZ j (by omega)))
  | r + 1, n + 1, k, w, hk, hn, hO, hF, hZ, hY, kk => by
    rw [Mo_keeps_11]
    have e1 : w32 ((k : Int) + 2860) = ((k + 2860 : Nat) : Int) := by rw [w32_id (by omega) (by omega)]; omega
    rw [e1]
    refine wp_neg (by omega) (wp_R12_59 hO (wp_R12_59 hO (wp_rI hO rfl (by omega) (wp_wI hO rfl (by omega) ?_))))
    rw [Int.toNat_natCast, Int.toNat_natCast, w32_id (z := (k : Int) + 1) (by omega) (by omega), show (k : Int) + 1 = ((k + 1 : Nat) : Int) by omega, hY (k + 2860) (by omega)]
    generalize hw1 : sI w 259 k (wI w0 259 (k + 2860)) = w1
    have f1 : Fr (PA 259) w0 w1 := by rw [← hw1]; exact hF.sI PA.i
    have h1 : ∀ x, x ≠ k → wI w1 259 x = wI w 259 x := fun x hx => by rw [← hw1]; exact wI_ne (by omega)
    refine m_kp11 r n (k + 1) w1 (by omega) (by omega) (by rw [← hw1]; exact Ok.sI hO) f1 (fun j hj => ?_) (fun j hj => (h1 j (by omega)).trans (hY j (by omega))) kk
    by_cases p : j = k
    · rw [p, ← hw1, wI_eq]
    · rw [h1 _ p]; exact hZ j (by omega)
/-- keeps, u things kept before: of 30 the first is dropped -/
theorem m_keeps {u : Nat} (hu : u ≤ 30) (hO : Ok L wl dr tx w) (hU : wI w 223 58 = (u : Int)) : Wp (Mo_keeps 223 w) (fun w1 => Fr PH w w1 ∧ (∀ j, j < 2860 → wI w1 255 j = wI w 256 j) ∧ wI w1 223 58 = ((min (u + 1) 30 : Nat) : Int) ∧ (∀ i, i + 1 < min (u + 1) 30 → ∀ k, k < 2860 → wI w1 259 (2860 * i + k) = wI w 259 (2860 * (if u = 30 then i + 1 else i) + k)) ∧ (∀ k, k < 2860 → wI w1 259 (2860 * (min (u + 1) 30 - 1) + k) = wI w 255 k)) := by
  unfold Mo_keeps Mo_keeps_0
  generalize hFU : FU = fu; have hfu : 1000000 = fu := hFU
  have last : ∀ (x : Nat) (w2 : Wd), x < 30 → Ok L wl dr tx w2 → wI w2 223 58 = (x : Int) → Wp (Mo_keeps_50 223 w2) (fun w1 => Fr PH w2 w1 ∧ (∀ j, j < 2860 → wI w1 255 j = wI w2 256 j) ∧ wI w1 223 58 = ((x + 1 : Nat) : Int) ∧ (∀ y, ¬ (2860 * x ≤ y ∧ y < 2860 * x + 2860) → wI w1 259 y = wI w2 259 y) ∧ (∀ k, k < 2860 → wI w1 259 (2860 * x + k) = wI w2 255 k)) := by
    intro x w2 hx hO2 hU2
    unfold Mo_keeps_50
    rw [hFU]
    refine m_kp52 hx 2860 fu 0 w2 (by omega) (by omega) hO2 hU2 (fun j hj => absurd hj (by omega)) (fun w3 g1 g2 g3 => ?_)
    have hO3 := g1.ok hO2
    unfold Mo_keeps_86
    rw [hFU]
    refine wp_gI hO3 rfl ?_
    rw [g1.at 223 58 (by unfold PA; omega), hU2, w32_id (by omega) (by omega)]
    refine wp_pI hO3 rfl ?_
    generalize hw4 : sI w3 223 58 ((x : Int) + 1) = w4
    have f4 : Fr PH w2 w4 := by rw [← hw4]; exact (g1.mono (R := PH) (fun a k q => Or.inl q)).sI (by unfold PH; omega)
    have n4 : ∀ a k, a ≠ 223 → wI w4 a k = wI w3 a k := fun a k h => by rw [← hw4]; exact wI_ne (by omega)
    refine wp_use (m_kp98 2860 fu 0 w4 (by omega) (by omega) (f4.ok hO2) (fun j hj => absurd hj (by omega))) (fun w5 g => ⟨f4.tr (g.1.mono (fun a k q => Or.inr (Or.inr q))), fun j hj => ?_, ?_, fun y hy => ?_, fun k hk => ?_⟩)
    · rw [g.2 j hj]; exact f4.at 256 j (by unfold PH; omega)
    · rw [g.1.at 223 58 (by unfold PA; omega), ← hw4, wI_eq]; omega
    · rw [g.1.at 259 y (by unfold PA; omega), n4 _ _ (by omega)]; exact g2 y hy
    · rw [g.1.at 259 _ (by unfold PA; omega), n4 _ _ (by omega)]; exact g3 k hk
  refine wp_gd hO rfl (wp_gI hO rfl ?_)
  rw [hU]
  refine wp_ite (fun q => ?_) (fun q => ?_)
  · have eu : u = 30 := by omega
    subst eu
    refine m_kp11 (w0 := w) 82940 fu 0 w (by omega) (by omega) hO (Fr.rf w) (fun j hj => absurd hj (by omega)) (fun _ _ => rfl) (fun w1 g1 g2 => ?_)
    have hO1 := g1.ok hO
    unfold Mo_keeps_40
    refine wp_gI hO1 rfl ?_
    rw [g1.at 223 58 (by unfold PA; omega), hU, w32_id (by omega) (by omega)]
    refine wp_pI hO1 rfl ?_
    generalize hw2 : sI w1 223 58 (((30 : Nat) : Int) - 1) = w2
    have f2 : Fr PH w w2 := by rw [← hw2]; exact (g1.mono (R := PH) (fun a k q => Or.inl q)).sI (by unfold PH; omega)
    have n2 : ∀ a k, a ≠ 223 → wI w2 a k = wI w1 a k := fun a k h => by rw [← hw2]; exact wI_ne (by omega)
    refine wp_use (last 29 w2 (by omega) (f2.ok hO) (by rw [← hw2, wI_eq]; omega)) (fun w3 g => ⟨f2.tr g.1, fun j hj => ?_, g.2.2.1, fun i hi k hk => ?_, fun k hk => ?_⟩)
    · rw [g.2.1 j hj]; exact f2.at 256 j (by unfold PH; omega)
    · rw [g.2.2.2.1 _ (by omega), n2 _ _ (by omega), g2 _ (by omega), if_pos rfl, show 2860 * i + k + 2860 = 2860 * (i + 1) + k by omega]
    · have := g.2.2.2.2 k hk
      rw [show min (30 + 1) 30 - 1 = 29 by omega, this, n2 _ _ (by omega)]
      exact g1.at 255 k (by unfold PA; omega)
  · refine wp_use (last u w (by omega) hO hU) (fun w3 g => ⟨g.1, g.2.1, ?_, fun i hi k hk => ?_, fun k hk => ?_⟩)
    · rw [g.2.2.1, show min (u + 1) 30 = u + 1 by omega]
    · rw [g.2.2.2.1 _ (by omega), if_neg (by omega)]
    · rw [show min (u + 1) 30 - 1 = u by omega]; exact g.2.2.2.2 k hk
end KP
