/-! Level 3, read: the reference's reader, whole. -/
section MW1
variable {L wl dr tx : Nat} {c : Nat → Int} {N d : Nat} {w : Wd}
def P46 (d a k : Nat) : Prop := (a = 243 ∨ a = 244) ∧ 10 * d ≤ k ∧ k < 10 * d + 10
theorem m_plain46 {w0 : Wd} (hd : d ≤ 1) (hO0 : Ok L wl dr tx w0) : ∀ (r m k : Nat) (w : Wd), k + r = 10 → r < m → Fr (P46 d) w0 w → (∀ j, j < k → wI w 243 (10 * d + j) = 0 ∧ wI w 244 (10 * d + j) = 0) → Wp (Mo_plain_46 m 223 (d : Int) (k : Int) w) (fun w1 => Fr (P46 d) w0 w1 ∧ ∀ j, j < 10 → wI w1 243 (10 * d + j) = 0 ∧ wI w1 244 (10 * d + j) = 0)
  | _, 0, _, _, _, hm, _, _ => absurd hm (by omega)
  | 0, m + 1, k, w, hk, _, hF, hv => by
    rw [Mo_plain_46]
    exact wp_pos (by omega) (wp_ret ⟨hF, fun j hj => hv j (by omega)⟩)
  | r + 1, m + 1, k, w, hk, hm, hF, hv => by
    have hO := hF.ok hO0
    rw [Mo_plain_46]
    refine wp_neg (by omega) (wp_R12_33 hO ?_)
    rw [w32_id (z := 10 * (d : Int)) (by omega) (by omega), w32_id (z := 10 * (d : Int) + (k : Int)) (by omega) (by omega), w32_id (z := (k : Int) + 1) (by omega) (by omega), show 10 * (d : Int) + (k : Int) = ((10 * d + k : Nat) : Int) by omega, show (k : Int) + 1 = ((k + 1 : Nat) : Int) by omega]
    refine wp_wI hO rfl (by omega) (wp_R12_34 hO.sI (wp_wI hO.sI rfl (by omega) ?_))
    rw [Int.toNat_natCast]
    refine m_plain46 hd hO0 r m (k + 1) _ (by omega) (by omega) ((hF.sI (by unfold P46; omega)).sI (by unfold P46; omega)) (fun j hj => ?_)
    by_cases e : j = k
    · rw [e, wI_eq, wI_ne (by omega), wI_eq]
      exact ⟨rfl, rfl⟩
    · rw [wI_ne (by omega), wI_ne (by omega), wI_ne (by omega), wI_ne (by omega)]
      exact hv j (by omega)
def Ppl (d a k : Nat) : Prop := P46 d a k ∨ ((a = 233 ∨ a = 235 ∨ (239 ≤ a ∧ a ≤ 242)) ∧ k = d)
theorem m_plain (hd : d ≤ 1) (hO : Ok L wl dr tx w) : Wp (Mo_plain 223 (d : Int) w) (fun w1 => Fr (Ppl d) w w1 ∧ (wI w1 233 d = 0 ∧ wI w1 235 d = 0 ∧ wI w1 239 d = 0 ∧ wI w1 240 d = 3 ∧ wI w1 241 d = 9999 ∧ wI w1 242 d = 0) ∧ ∀ j, j < 10 → wI w1 243 (10 * d + j) = 0 ∧ wI w1 244 (10 * d + j) = 0) := by
  unfold Mo_plain Mo_plain_0
  generalize hFU : FU = fu; have hfu : 1000000 = fu := hFU
  refine wp_gd hO rfl (wp_R12_23 hO (wp_wI hO rfl (by omega) ?_))
  rw [Int.toNat_natCast]
  generalize hw1 : sI w 233 d 0 = w1
  have f1 : Fr (Ppl d) w w1 := by rw [← hw1]; exact fr_sI (by unfold Ppl; omega)
  have v1 : wI w1 233 d = 0 := by rw [← hw1, wI_eq]
  clear hw1
  have hO1 := f1.ok hO
  refine wp_R12_25 hO1 (wp_wI hO1 rfl (by omega) ?_)
  rw [Int.toNat_natCast]
  generalize hw2 : sI w1 235 d 0 = w2
  have f2 : Fr (Ppl d) w w2 := by rw [← hw2]; exact f1.sI (by unfold Ppl; omega)
  have v2 : wI w2 233 d = 0 ∧ wI w2 235 d = 0 := by rw [← hw2, wI_eq, wI_ne (by omega)]; exact ⟨v1, rfl⟩
  clear hw2
  have hO2 := f2.ok hO
  refine wp_R12_29 hO2 (wp_wI hO2 rfl (by omega) ?_)
  rw [Int.toNat_natCast]
  generalize hw3 : sI w2 239 d 0 = w3
  have f3 : Fr (Ppl d) w w3 := by rw [← hw3]; exact f2.sI (by unfold Ppl; omega)
  have v3 : wI w3 233 d = 0 ∧ wI w3 235 d = 0 ∧ wI w3 239 d = 0 := by rw [← hw3, wI_eq, wI_ne (by omega), wI_ne (by omega)]; exact ⟨v2.1, v2.2, rfl⟩
  clear hw3
  have hO3 := f3.ok hO
  refine wp_R12_30 hO3 (wp_wI hO3 rfl (by omega) ?_)
  rw [Int.toNat_natCast]
  generalize hw4 : sI w3 240 d 3 = w4
  have f4 : Fr (Ppl d) w w4 := by rw [← hw4]; exact f3.sI (by unfold Ppl; omega)
  have v4 : wI w4 233 d = 0 ∧ wI w4 235 d = 0 ∧ wI w4 239 d = 0 ∧ wI w4 240 d = 3 := by rw [← hw4, wI_eq, wI_ne (by omega), wI_ne (by omega), wI_ne (by omega)]; exact ⟨v3.1, v3.2.1, v3.2.2, rfl⟩
  clear hw4
  have hO4 := f4.ok hO
  refine wp_R12_31 hO4 (wp_wI hO4 rfl (by omega) ?_)
  rw [Int.toNat_natCast]
  generalize hw5 : sI w4 241 d 9999 = w5
  have f5 : Fr (Ppl d) w w5 := by rw [← hw5]; exact f4.sI (by unfold Ppl; omega)
  have v5 : wI w5 233 d = 0 ∧ wI w5 235 d = 0 ∧ wI w5 239 d = 0 ∧ wI w5 240 d = 3 ∧ wI w5 241 d = 9999 := by rw [← hw5, wI_eq, wI_ne (by omega), wI_ne (by omega), wI_ne (by omega), wI_ne (by omega)]; exact ⟨v4.1, v4.2.1, v4.2.2.1, v4.2.2.2, rfl⟩
  clear hw5
  have hO5 := f5.ok hO
  refine wp_R12_32 hO5 (wp_wI hO5 rfl (by omega) ?_)
  rw [Int.toNat_natCast]
  generalize hw6 : sI w5 242 d 0 = w6
  have f6 : Fr (Ppl d) w w6 := by rw [← hw6]; exact f5.sI (by unfold Ppl; omega)
  have v6 : wI w6 233 d = 0 ∧ wI w6 235 d = 0 ∧ wI w6 239 d = 0 ∧ wI w6 240 d = 3 ∧ wI w6 241 d = 9999 ∧ wI w6 242 d = 0 := by rw [← hw6, wI_eq, wI_ne (by omega), wI_ne (by omega), wI_ne (by omega), wI_ne (by omega), wI_ne (by omega)]; exact ⟨v5.1, v5.2.1, v5.2.2.1, v5.2.2.2.1, v5.2.2.2.2, rfl⟩
  clear hw6
  have hO6 := f6.ok hO
  refine wp_use (m_plain46 hd hO6 10 fu 0 w6 rfl (by omega) (Fr.rf w6) (fun j hj => absurd hj (by omega))) (fun w7 g => ?_)
  obtain ⟨f7, g⟩ := g
  have n7 : ∀ a k, a ≠ 243 → a ≠ 244 → wI w7 a k = wI w6 a k := fun a k q1 q2 => f7.at a k (by unfold P46; omega)
  exact ⟨f6.tr (f7.mono (fun a k q => Or.inl q)), ⟨(n7 _ _ (by omega) (by omega)).trans v6.1, (n7 _ _ (by omega) (by omega)).trans v6.2.1, (n7 _ _ (by omega) (by omega)).trans v6.2.2.1, (n7 _ _ (by omega) (by omega)).trans v6.2.2.2.1, (n7 _ _ (by omega) (by omega)).trans v6.2.2.2.2.1, (n7 _ _ (by omega) (by omega)).trans v6.2.2.2.2.2⟩, g⟩
end MW1
