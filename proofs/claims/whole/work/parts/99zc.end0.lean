/-! Level 3, read: the reference's end where all is well. -/
section NC
variable {L wl dr tx : Nat} {d n : Nat} {w w0 : Wd}
def P69 (a k : Nat) : Prop := a = 265
theorem m_read215 (hO0 : Ok L wl dr tx w0) : ∀ (r m k : Nat) (w : Wd), k + r = 3 → r < m → Fr P69 w0 w → (∀ j, j < k → wI w 265 j = 0) → Wp (Mo_read_215 m 223 (k : Int) w) (fun q => q.1 = 0 ∧ Fr P69 w0 q.2 ∧ ∀ j, j < 3 → wI q.2 265 j = 0)
  | _, 0, _, _, _, hm, _, _ => absurd hm (by omega)
  | 0, m + 1, k, w, hk, _, hF, hv => by
    rw [Mo_read_215]
    exact wp_pos (by omega) (wp_ret ⟨rfl, hF, fun j hj => hv j (by omega)⟩)
  | r + 1, m + 1, k, w, hk, hm, hF, hv => by
    have hO := hF.ok hO0
    rw [Mo_read_215]
    refine wp_neg (by omega) (wp_R12_66 hO (wp_wZ hO rfl (by omega) (Or.inl rfl) ?_))
    rw [Int.toNat_natCast, w32_id (by omega) (by omega), show (k : Int) + 1 = ((k + 1 : Nat) : Int) by omega]
    refine m_read215 hO0 r m (k + 1) _ (by omega) (by omega) (hF.sI rfl) (fun j hj => ?_)
    by_cases e : j = k
    · rw [e, wI_eq]
    · rw [wI_ne (by omega)]; exact hv j (by omega)
def PE0 (a k : Nat) : Prop := (a = 223 ∧ (k = 17 ∨ k = 18 ∨ k = 58 ∨ k = 63)) ∨ a = 255 ∨ a = 265
theorem m_end0 (hd : d ≤ 1) (hn : n ≤ 6) (hO : Ok L wl dr tx w) (h13 : wI w 223 13 = 0) (h15 : wI w 223 15 = 0) (h19 : wI w 223 19 = (d : Int)) (h237 : wI w 233 d = (n : Int)) : Wp (Mo_read_134 223 w) (fun r => r.1 = 0 ∧ Fr PE0 w r.2 ∧ (wI r.2 223 17 = -1 ∧ wI r.2 223 18 = (d : Int) ∧ wI r.2 223 58 = 0 ∧ wI r.2 223 63 = 0) ∧ (∀ j, j < 3 → wI r.2 265 j = 0) ∧ (∀ j, j < n → wI r.2 255 j = wI w 234 (6 * d + j)) ∧ (∀ j, j < 36 → wI r.2 255 (6 + j) = wI w 238 (36 * d + j)) ∧ wI r.2 255 43 = -1 ∧ (∀ j, 42 ≤ j → j < 2860 → j ≠ 43 → wI r.2 255 j = 0)) := by
  unfold Mo_read_134 Mo_read_164
  generalize hFU : FU = fu
  have hfu : 1000000 = fu := hFU
  refine wp_gI hO rfl (wp_pos (by omega) (wp_gI hO rfl (wp_pos (by omega) (wp_pI hO rfl (wp_gI hO.sI rfl (wp_pos ?_ (wp_gI hO.sI rfl (wp_pos ?_ (wp_gI hO.sI rfl (wp_pI hO.sI rfl ?_))))))))))
  · rw [wI_ne (by omega)]; omega
  · rw [wI_ne (by omega)]; omega
  rw [wI_ne (by omega), h19]
  generalize hw1 : sI (sI w 223 17 (-1)) 223 18 (d : Int) = w1
  have hO1 : Ok L wl dr tx w1 := by rw [← hw1]; exact hO.sI.sI
  have f1 : Fr PE0 w w1 := by rw [← hw1]; exact (fr_sI (by unfold PE0; omega)).sI (by unfold PE0; omega)
  have v17 : wI w1 223 17 = -1 := by rw [← hw1, wI_ne (by omega), wI_eq]
  have v18 : wI w1 223 18 = (d : Int) := by rw [← hw1, wI_eq]
  have n1 : ∀ a k, a ≠ 223 → wI w1 a k = wI w a k := fun a k q => by rw [← hw1, wI_ne (by omega), wI_ne (by omega)]
  clear hw1
  refine wp_call (m_begins hd hn hO1 v18 ((n1 _ _ (by omega)).trans h237)) (fun w2 g => ?_)
  obtain ⟨f2, g1, g2, g3, g4⟩ := g
  have hO2 := f2.ok hO1
  refine wp_pI hO2 rfl (wp_pI hO2.sI rfl ?_)
  generalize hw3 : sI (sI w2 223 58 0) 223 63 0 = w3
  have hO3 : Ok L wl dr tx w3 := by rw [← hw3]; exact hO2.sI.sI
  have f3 : Fr PE0 w w3 := by rw [← hw3]; exact ((f1.tr (f2.mono (fun a k q => Or.inr (Or.inl q)))).sI (by unfold PE0; omega)).sI (by unfold PE0; omega)
  have v63 : wI w3 223 63 = 0 := by rw [← hw3, wI_eq]
  have v58 : wI w3 223 58 = 0 := by rw [← hw3, wI_ne (by omega), wI_eq]
  have n3 : ∀ a k, a ≠ 223 ∨ (k ≠ 58 ∧ k ≠ 63) → wI w3 a k = wI w2 a k := fun a k q => by rw [← hw3, wI_ne (by omega), wI_ne (by omega)]
  clear hw3
  refine wp_use (m_read215 hO3 3 fu 0 w3 rfl (by omega) (Fr.rf w3) (fun j hj => absurd hj (Nat.not_lt_zero _))) (fun q g => ?_)
  obtain ⟨q0, f4, q1⟩ := g
  have n4 : ∀ a k, a ≠ 265 → wI q.2 a k = wI w3 a k := fun a k z => f4.at a k z
  refine ⟨q0, f3.tr (f4.mono (fun a k q => Or.inr (Or.inr q))), ⟨?_, ?_, (n4 _ _ (by omega)).trans v58, (n4 _ _ (by omega)).trans v63⟩, q1, fun j hj => ?_, fun j hj => ?_, ?_, fun j j1 j2 j3 => ?_⟩
  · rw [n4 _ _ (by omega), n3 _ _ (by omega), f2.at 223 17 (by unfold P59; omega), v17]
  · rw [n4 _ _ (by omega), n3 _ _ (by omega), f2.at 223 18 (by unfold P59; omega), v18]
  · rw [n4 _ _ (by omega), n3 _ _ (by omega), g1 j hj, n1 _ _ (by omega)]
  · rw [n4 _ _ (by omega), n3 _ _ (by omega), g2 j hj, n1 _ _ (by omega)]
  · rw [n4 _ _ (by omega), n3 _ _ (by omega), g3]
  · rw [n4 _ _ (by omega), n3 _ _ (by omega), g4 j j1 j2 j3]
end NC
