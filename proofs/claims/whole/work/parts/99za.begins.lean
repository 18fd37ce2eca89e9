/-! Level 3, read: the reference begins anew. -/
section NA
variable {L wl dr tx : Nat} {d n : Nat} {w0 : Wd}
def P59 (a k : Nat) : Prop := a = 255
theorem m_bg65 {wz' : Wd} (hd : d ≤ 1) (hO0 : Ok L wl dr tx w0) (h18 : wI w0 223 18 = (d : Int)) (hFz : Fr P59 w0 wz') : ∀ (r m k : Nat) (w : Wd), k + r = 36 → r < m → Fr P59 w0 w → (∀ j, j < k → wI w 255 (6 + j) = wI w0 238 (36 * d + j)) → (∀ j, j < 6 ∨ 42 ≤ j → wI w 255 j = wI wz' 255 j) → Wp (Mo_begins_65 m 223 (k : Int) w) (fun w1 => Fr P59 w0 w1 ∧ (∀ j, j < 36 → wI w1 255 (6 + j) = wI w0 238 (36 * d + j)) ∧ wI w1 255 43 = -1 ∧ (∀ j, j < 6 ∨ (42 ≤ j ∧ j ≠ 43) → wI w1 255 j = wI wz' 255 j))
  | _, 0, _, _, _, hm, _, _, _ => absurd hm (by omega)
  | 0, m + 1, k, w, hk, _, hF, hv, hu => by
    have hO := hF.ok hO0
    rw [Mo_begins_65]
    unfold Mo_begins_100
    refine wp_pos (by omega) (wp_R12_49 hO (wp_wI hO rfl (by omega) (wp_ret ⟨hF.sI rfl, fun j hj => ?_, wI_eq _ _ _ _, fun j hj => ?_⟩)))
    · have e : 6 + j ≠ (43 : Int).toNat := by show 6 + j ≠ 43; omega
      rw [wI_ne (Or.inr e)]
      exact hv j (by omega)
    · have e : j ≠ (43 : Int).toNat := by show j ≠ 43; omega
      rw [wI_ne (Or.inr e)]
      exact hu j (by omega)
  | r + 1, m + 1, k, w, hk, hm, hF, hv, hu => by
    have hO := hF.ok hO0
    rw [Mo_begins_65]
    refine wp_neg (by omega) (wp_R12_49 hO (wp_R12_28 hO (wp_gI hO rfl ?_)))
    rw [hF.at 223 18 (by unfold P59; omega), h18, w32_id (z := 36 * (d : Int)) (by omega) (by omega), w32_id (z := 36 * (d : Int) + (k : Int)) (by omega) (by omega), show 36 * (d : Int) + (k : Int) = ((36 * d + k : Nat) : Int) by omega]
    refine wp_rI hO rfl (by omega) ?_
    rw [Int.toNat_natCast, hF.at 238 _ (by unfold P59; omega), w32_id (z := 6 + (k : Int)) (by omega) (by omega), w32_id (z := (k : Int) + 1) (by omega) (by omega), show 6 + (k : Int) = ((6 + k : Nat) : Int) by omega, show (k : Int) + 1 = ((k + 1 : Nat) : Int) by omega]
    refine wp_wI hO rfl (by omega) ?_
    rw [Int.toNat_natCast]
    refine m_bg65 hd hO0 h18 hFz r m (k + 1) _ (by omega) (by omega) (hF.sI rfl) (fun j hj => ?_) (fun j hj => ?_)
    · by_cases e : j = k
      · rw [e, wI_eq]
      · rw [wI_ne (by omega)]; exact hv j (by omega)
    · rw [wI_ne (by omega)]; exact hu j hj
theorem m_bg24 {Q : Wd → Prop} {wz' : Wd} (hd : d ≤ 1) (hn : n ≤ 6) (hO0 : Ok L wl dr tx w0) (h18 : wI w0 223 18 = (d : Int)) (h237 : wI w0 233 d = (n : Int)) (kk : ∀ w1, Fr P59 w0 w1 → (∀ j, j < n → wI w1 255 j = wI w0 234 (6 * d + j)) → (∀ j, 6 ≤ j → wI w1 255 j = wI wz' 255 j) → Wp (Mo_begins_63 223 w1) Q) : ∀ (r m k : Nat) (w : Wd), k + r = n → r < m → Fr P59 w0 w → (∀ j, j < k → wI w 255 j = wI w0 234 (6 * d + j)) → (∀ j, 6 ≤ j → wI w 255 j = wI wz' 255 j) → Wp (Mo_begins_24 m 223 (k : Int) w) Q
  | _, 0, _, _, _, hm, _, _, _ => absurd hm (by omega)
  | 0, m + 1, k, w, hk, _, hF, hv, hu => by
    have hO := hF.ok hO0
    rw [Mo_begins_24]
    refine wp_R12_23 hO (wp_gI hO rfl ?_)
    rw [hF.at 223 18 (by unfold P59; omega), h18]
    refine wp_rI hO rfl (by omega) ?_
    rw [Int.toNat_natCast, hF.at 233 d (by unfold P59; omega), h237]
    exact wp_pos (by omega) (kk w hF (fun j hj => hv j (by omega)) hu)
  | r + 1, m + 1, k, w, hk, hm, hF, hv, hu => by
    have hO := hF.ok hO0
    have e18 : wI w 223 18 = (d : Int) := (hF.at 223 18 (by unfold P59; omega)).trans h18
    rw [Mo_begins_24]
    refine wp_R12_23 hO (wp_gI hO rfl ?_)
    rw [e18]
    refine wp_rI hO rfl (by omega) ?_
    rw [Int.toNat_natCast, hF.at 233 d (by unfold P59; omega), h237]
    refine wp_neg (by omega) (wp_R12_49 hO (wp_R12_24 hO (wp_gI hO rfl ?_)))
    rw [e18, w32_id (z := 6 * (d : Int)) (by omega) (by omega), w32_id (z := 6 * (d : Int) + (k : Int)) (by omega) (by omega), show 6 * (d : Int) + (k : Int) = ((6 * d + k : Nat) : Int) by omega]
    refine wp_rI hO rfl (by omega) ?_
    rw [Int.toNat_natCast, hF.at 234 _ (by unfold P59; omega), w32_id (z := (k : Int) + 1) (by omega) (by omega), show (k : Int) + 1 = ((k + 1 : Nat) : Int) by omega]
    refine wp_wI hO rfl (by omega) ?_
    rw [Int.toNat_natCast]
    refine m_bg24 hd hn hO0 h18 h237 kk r m (k + 1) _ (by omega) (by omega) (hF.sI rfl) (fun j hj => ?_) (fun j hj => ?_)
    · by_cases e : j = k
      · rw [e, wI_eq]
      · rw [wI_ne (by omega)]; exact hv j (by omega)
    · rw [wI_ne (by omega)]; exact hu j hj
end NA
