/-! Level 3, read: the reference's call, up to its end. -/
theorem n8_id {z : Int} (h : -128 ≤ z ∧ z ≤ 127) : n8 z = z := by
  unfold n8
  rw [Int.bmod_def]
  split <;> omega
section MY
variable {L wl dr tx : Nat} {N : Nat} {w0 : Wd}
def P29 (a k : Nat) : Prop := a = 225
theorem m_read10 {Q : Int × Wd → Prop} (hN : N ≤ 2000) (hO0 : Ok L wl dr tx w0) (h4 : wI w0 223 4 = (N : Int)) (hB : ∀ i, i < N → -128 ≤ wI w0 224 i ∧ wI w0 224 i ≤ 127) (kk : ∀ w1, Fr P29 w0 w1 → (∀ j, j < N → wI w1 225 j = wI w0 224 j) → Wp (Mo_read_36 223 w1) Q) : ∀ (r m i : Nat) (w : Wd), i + r = N → r < m → Fr P29 w0 w → (∀ j, j < i → wI w 225 j = wI w0 224 j) → Wp (Mo_read_10 m 223 (i : Int) w) Q
  | _, 0, _, _, _, hm, _, _ => absurd hm (by omega)
  | 0, m + 1, i, w, hi, _, hF, hv => by
    rw [Mo_read_10]
    refine wp_gI (hF.ok hO0) rfl ?_
    rw [hF.at 223 4 (by unfold P29; omega), h4]
    exact wp_pos (by omega) (kk w hF (fun j hj => hv j (by omega)))
  | r + 1, m + 1, i, w, hi, hm, hF, hv => by
    have hO := hF.ok hO0
    rw [Mo_read_10]
    refine wp_gI hO rfl ?_
    rw [hF.at 223 4 (by unfold P29; omega), h4]
    refine wp_neg (by omega) (wp_R12_3 hO (wp_R12_1 hO (wp_rB hO rfl (by omega) (wp_wB hO rfl (by omega) ?_))))
    rw [Int.toNat_natCast, hF.at 224 i (by unfold P29; omega), n8_id (hB i (by omega)), w32_id (by omega) (by omega), show (i : Int) + 1 = ((i + 1 : Nat) : Int) by omega]
    refine m_read10 hN hO0 h4 hB kk r m (i + 1) _ (by omega) (by omega) (hF.sI rfl) (fun j hj => ?_)
    by_cases e : j = i
    · rw [e, wI_eq]
    · rw [wI_ne (by omega)]; exact hv j (by omega)
end MY
