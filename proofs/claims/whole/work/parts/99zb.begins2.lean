/-! Level 3, read: the reference begins anew, whole. -/
section NB
variable {L wl dr tx : Nat} {d n : Nat} {w w0 : Wd}
theorem m_bg2 {Q : Wd → Prop} (hO0 : Ok L wl dr tx w0) (kk : ∀ w1, Fr P59 w0 w1 → (∀ j, j < 2860 → wI w1 255 j = 0) → Wp (Mo_begins_22 223 w1) Q) : ∀ (r m k : Nat) (w : Wd), k + r = 2860 → r < m → Fr P59 w0 w → (∀ j, j < k → wI w 255 j = 0) → Wp (Mo_begins_2 m 223 (k : Int) w) Q
  | _, 0, _, _, _, hm, _, _ => absurd hm (by omega)
  | 0, m + 1, k, w, hk, _, hF, hv => by
    rw [Mo_begins_2]
    exact wp_pos (by omega) (kk w hF (fun j hj => hv j (by omega)))
  | r + 1, m + 1, k, w, hk, hm, hF, hv => by
    have hO := hF.ok hO0
    rw [Mo_begins_2]
    refine wp_neg (by omega) (wp_R12_49 hO (wp_wI hO rfl (by omega) ?_))
    rw [Int.toNat_natCast, w32_id (by omega) (by omega), show (k : Int) + 1 = ((k + 1 : Nat) : Int) by omega]
    refine m_bg2 hO0 kk r m (k + 1) _ (by omega) (by omega) (hF.sI rfl) (fun j hj => ?_)
    by_cases e : j = k
    · rw [e, wI_eq]
    · rw [wI_ne (by omega)]; exact hv j (by omega)
theorem m_begins (hd : d ≤ 1) (hn : n ≤ 6) (hO : Ok L wl dr tx w) (h18 : wI w 223 18 = (d : Int)) (h237 : wI w 233 d = (n : Int)) : Wp (Mo_begins 223 w) (fun w1 => Fr P59 w w1 ∧ (∀ j, j < n → wI w1 255 j = wI w 234 (6 * d + j)) ∧ (∀ j, j < 36 → wI w1 255 (6 + j) = wI w 238 (36 * d + j)) ∧ wI w1 255 43 = -1 ∧ (∀ j, 42 ≤ j → j < 2860 → j ≠ 43 → wI w1 255 j = 0)) := by
  unfold Mo_begins Mo_begins_0
  generalize hFU : FU = fu
  have hfu : 1000000 = fu := hFU
  refine wp_gd hO rfl (m_bg2 hO (fun w1 f1 v1 => ?_) 2860 fu 0 w rfl (by omega) (Fr.rf w) (fun j hj => absurd hj (Nat.not_lt_zero _)))
  unfold Mo_begins_22
  rw [hFU]
  refine m_bg24 (wz' := w1) hd hn hO h18 h237 (fun w2 f2 v2 u2 => ?_) n fu 0 w1 (Nat.zero_add _) (by omega) f1 (fun j hj => absurd hj (Nat.not_lt_zero _)) (fun _ _ => rfl)
  unfold Mo_begins_63
  rw [hFU]
  refine wp_use (m_bg65 (wz' := w2) hd hO h18 f2 36 fu 0 w2 rfl (by omega) f2 (fun j hj => absurd hj (Nat.not_lt_zero _)) (fun _ _ => rfl)) (fun w3 g => ?_)
  obtain ⟨f3, g1, g2, g3⟩ := g
  refine ⟨f3, fun j hj => ?_, g1, g2, fun j j1 j2 j3 => ?_⟩
  · rw [g3 j (by omega)]; exact v2 j hj
  · rw [g3 j (by omega), u2 j (by omega), v1 j j2]
end NB
