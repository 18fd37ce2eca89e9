/-! Level 3, the reference: lessons, what is learned, drift. -/
def PR (i a k : Nat) : Prop := a = 256 ∧ k = i
theorem ix_bd {h l : Nat} (hh : h < 6) (hl : l < 6) : 0 ≤ ((6 + 6 * h + l : Nat) : Int) ∧ ((6 + 6 * h + l : Nat) : Int) < ((2860 : Nat) : Int) := by omega
theorem ix_l {l : Nat} (hl : l < 6) : 0 ≤ (l : Int) ∧ (l : Int) < ((2860 : Nat) : Int) := by omega
theorem ix_s {h s : Nat} (hh : h < 6) (hs : s ≤ 1) : 0 ≤ ((6 * s + h : Nat) : Int) ∧ ((6 * s + h : Nat) : Int) < ((12 : Nat) : Int) := by omega
theorem ix_ne {h l : Nat} : l ≠ 6 + 6 * h + l := by omega
theorem ls_mul (r : Nat) (x : Int) : x + (r : Int) * x = ((r + 1 : Nat) : Int) * x := by
  rw [show ((r + 1 : Nat) : Int) = (r : Int) + 1 by omega, Int.add_mul]
  omega
section M4
variable {L wl dr tx s : Nat} {V : Vl} {σ : Sg} {w : Wd} {lt nM nH oH oL : Int}
theorem m_ls14 {h l N : Nat} {t sk' : Int} (ht : 0 ≤ t ∧ t ≤ 99) (hk : 0 ≤ sk' ∧ sk' ≤ 99) (hh : h < 6) (hl : l < 6) (hs1 : s ≤ 1) (hN : N ≤ 1000) : ∀ (r n k : Nat) (z : Int) (w : Wd), k + r = N → r < n → Ok L wl dr tx w → wI w 223 18 = (s : Int) → wI w 236 (6 * s + h) = sk' → wI w 256 l = t → wI w 256 (6 + 6 * h + l) = z → (0 ≤ z ∧ z ≤ 99) →
    Wp (Mo_lessons_14 n 223 (h : Int) (l : Int) (N : Int) ((6 + 6 * h + l : Nat) : Int) (k : Int) w) (fun w1 => Fr (PR (6 + 6 * h + l)) w w1 ∧ wI w1 256 (6 + 6 * h + l) = near z t ((r : Int) * sk'))
  | r, 0, k, z, w, _, hn, _, _, _, _, _, _ => absurd hn (by omega)
  | 0, n + 1, k, z, w, hr, hn, hO, hs, hsk, hti, hz, hzb => by
    rw [Mo_lessons_14]
    refine wp_pos (by omega) (wp_ret ⟨Fr.rf w, ?_⟩)
    rw [hz]
    simp [near_zero]
  | r + 1, n + 1, k, z, w, hr, hn, hO, hs, hsk, hti, hz, hzb => by
    have e1 : w32 (w32 (6 * (s : Int)) + (h : Int)) = ((6 * s + h : Nat) : Int) := by
      rw [w32_id (z := 6 * (s : Int)) (by omega) (by omega), w32_id (by omega) (by omega)]; omega
    have kb : 0 ≤ ab z t ∧ ab z t ≤ 99 := by unfold ab; split <;> omega
    rw [Mo_lessons_14]
    refine wp_neg (by omega) (wp_R12_50 hO (wp_rI hO rfl (ix_bd hh hl) (wp_R12_50 hO (wp_rI hO rfl (ix_l hl) ?_))))
    rw [Int.toNat_natCast, Int.toNat_natCast, hz, hti]
    refine wp_eq (q_apart w hzb ht) (wp_R12_26 hO (wp_gI hO rfl ?_))
    show Wp ((rdI w 236 (w32 (w32 (6 * wI w 223 18) + (h : Int)))).bind _) _
    rw [hs, e1]
    refine wp_rI hO rfl (ix_s hh hs1) ?_
    rw [Int.toNat_natCast, hsk]
    have go : ∀ x : Int, x = min sk' (ab z t) → Wp (Mo_lessons_76 (Mo_lessons_14 n) 223 (h : Int) (l : Int) (N : Int) ((6 + 6 * h + l : Nat) : Int) (k : Int) x w) (fun w1 => Fr (PR (6 + 6 * h + l)) w w1 ∧ wI w1 256 (6 + 6 * h + l) = near z t (((r + 1 : Nat) : Int) * sk')) := by
      intro x hx
      unfold Mo_lessons_76
      refine wp_R12_50 hO (wp_rI hO rfl (ix_bd hh hl) (wp_R12_50 hO (wp_rI hO rfl (ix_bd hh hl) (wp_R12_50 hO (wp_rI hO rfl (ix_l hl) ?_)))))
      rw [Int.toNat_natCast, Int.toNat_natCast, hz, hti]
      have fin : ∀ y : Int, w32 (z + y) = near z t sk' → Wp (Mo_lessons_110 (Mo_lessons_14 n) 223 (h : Int) (l : Int) (N : Int) ((6 + 6 * h + l : Nat) : Int) (k : Int) y z ((6 + 6 * h + l : Nat) : Int) 256 w) (fun w1 => Fr (PR (6 + 6 * h + l)) w w1 ∧ wI w1 256 (6 + 6 * h + l) = near z t (((r + 1 : Nat) : Int) * sk')) := by
        intro y hy
        unfold Mo_lessons_110
        refine wp_wI hO rfl (ix_bd hh hl) ?_
        rw [hy, Int.toNat_natCast, w32_id (z := (k : Int) + 1) (by omega) (by omega), show (k : Int) + 1 = ((k + 1 : Nat) : Int) by omega]
        have f1 : Fr (PR (6 + 6 * h + l)) w (sI w 256 (6 + 6 * h + l) (near z t sk')) := fr_sI ⟨rfl, rfl⟩
        refine wp_use (m_ls14 ht hk hh hl hs1 hN r n (k + 1) (near z t sk') _ (by omega) (by omega) (f1.ok hO) ((wI_ne (Or.inl (by decide))).trans hs) ((wI_ne (Or.inl (by decide))).trans hsk) ((wI_ne (Or.inr ix_ne)).trans hti) (wI_eq _ _ _ _) (near_bd hzb ht hk.1)) (fun w2 h2 => ⟨f1.tr h2.1, ?_⟩)
        rw [h2.2, near_add hk.1 (Int.mul_nonneg (by omega) hk.1)]
        rw [ls_mul]
      refine wp_ite (fun q => fin _ ?_) (fun q => fin _ ?_)
      · rw [w32_id (z := -x) (by omega) (by omega), w32_id (by omega) (by omega)]
        unfold near
        rw [if_neg (by omega)]
        omega
      · rw [w32_id (by omega) (by omega)]
        unfold near
        rw [if_pos (by omega)]
        omega
    refine wp_ite (fun q => go _ ?_) (fun q => wp_R12_26 hO (wp_gI hO rfl ?_))
    · dsimp only at q ⊢; omega
    · show Wp ((rdI w 236 (w32 (w32 (6 * wI w 223 18) + (h : Int)))).bind _) _
      rw [hs, e1]
      refine wp_rI hO rfl (ix_s hh hs1) ?_
      rw [Int.toNat_natCast, hsk]
      refine go _ ?_
      dsimp only at q
      omega
theorem mc_put {h l : Nat} {z : Int} {w1 : Wd} (hV : VOK V) (hM : MC w s V σ lt nM nH oH oL) (hl : l < nl V) (hh : h < nh V) (f : Fr (PR (6 + 6 * h + l)) w w1) (hz : wI w1 256 (6 + 6 * h + l) = z) : MC w1 s V (put σ h l z) lt nM nH oH oL := by
  have h6 := hV.1
  have h7 := hV.2.1
  have n1 : ∀ a k, a ≠ 256 ∨ k ≠ 6 + 6 * h + l → wI w1 a k = wI w a k := fun a k q => f.at a k (by unfold PR; omega)
  obtain ⟨m0, m1, m2, m3, m4, m5, m6, m7⟩ := hM
  refine ⟨(n1 _ _ (by omega)).trans m0, m1.eq (fun a k q1 q2 => n1 a k (by omega)), ⟨(n1 _ _ (by omega)).trans m2.1, (n1 _ _ (by omega)).trans m2.2.1, (n1 _ _ (by omega)).trans m2.2.2.1, fun y hy => (n1 _ _ (by omega)).trans (m2.2.2.2.1 y hy), fun x hx y hy => ?_, fun x hx => (n1 _ _ (by omega)).trans (m2.2.2.2.2.2 x hx)⟩, (n1 _ _ (by omega)).trans m3, (n1 _ _ (by omega)).trans m4, (n1 _ _ (by omega)).trans m5, (n1 _ _ (by omega)).trans m6, (n1 _ _ (by omega)).trans m7⟩
  show _ = if x = h ∧ y = l then z else sp σ x y
  by_cases q : x = h ∧ y = l
  · rw [if_pos q, q.1, q.2, Nat.zero_add]; exact hz
  · rw [if_neg q]
    exact (n1 _ _ (by omega)).trans (m2.2.2.2.2.1 x hx y hy)
theorem m_lessons {h l N : Nat} (hV : VOK V) (hK : SOK V σ) (hO : Ok L wl dr tx w) (hM : MC w s V σ lt nM nH oH oL) (hh : h < nh V) (hl : l < nl V) (hN : N ≤ 1000) : Wp (Mo_lessons 223 (h : Int) (l : Int) (N : Int) w) (fun w1 => Fr (PR (6 + 6 * h + l)) w w1 ∧ wI w1 256 (6 + 6 * h + l) = near (sp σ h l) (hd σ l) ((N : Int) * sk V h) ∧ MC w1 s V (put σ h l (near (sp σ h l) (hd σ l) ((N : Int) * sk V h))) lt nM nH oH oL) := by
  have h6 := hV.1
  have h7 := hV.2.1
  have e1 : w32 (w32 (6 + w32 (6 * (h : Int))) + (l : Int)) = ((6 + 6 * h + l : Nat) : Int) := by
    rw [w32_id (z := 6 * (h : Int)) (by omega) (by omega), w32_id (z := 6 + 6 * (h : Int)) (by omega) (by omega), w32_id (by omega) (by omega)]; omega
  unfold Mo_lessons Mo_lessons_0
  generalize hFU : FU = fu; have hfu : 1000000 = fu := hFU
  rw [e1]
  refine wp_gd hO rfl (wp_use (m_ls14 (hK.1 l hl) (hV.2.2.2.2.1 h hh).1 (by omega) (by omega) hM.2.1.1 hN N fu 0 (sp σ h l) w (by omega) (by omega) hO hM.1 (hM.2.1.2.2.1 h hh).1 (hM.hd hl) (hM.sp hh hl) (hK.2.1 h hh l hl)) (fun w1 h1 => ⟨h1.1, h1.2, mc_put hV hM hl hh h1.1 h1.2⟩))
theorem m_le101 {h : Nat} (hV : VOK V) (hK : SOK V σ) (hO : Ok L wl dr tx w) (hM : MC w s V σ lt nM nH oH oL) (hh : h < nh V) : ∀ (r n l : Nat), l + 1 + r = nl V → r < n → Mo_learns_101 n 223 (h : Int) (mo (fun l => ab (sp σ h l) (hd σ l)) l : Int) ((l + 1 : Nat) : Int) w = some ((mo (fun l => ab (sp σ h l) (hd σ l)) (nl V - 1) : Int), w)
  | r, 0, l, _, hn => absurd hn (by omega)
  | 0, n + 1, l, hl, hn => by
    refine wp_out ?_
    have hs := hM.2.1.1
    rw [Mo_learns_101]
    refine wp_R12_23 hO (wp_gI hO rfl ?_)
    rw [hM.1]
    refine wp_rI hO rfl (by omega) ?_
    rw [Int.toNat_natCast, hM.2.1.2.1.1]
    refine wp_pos (by omega) (wp_ret ?_)
    rw [show l = nl V - 1 by omega]
  | r + 1, n + 1, l, hl, hn => by
    refine wp_out ?_
    have h6 := hV.1
    have hs := hM.2.1.1
    have hml := mo_le (fun l => ab (sp σ h l) (hd σ l)) l
    have e : mo (fun l => ab (sp σ h l) (hd σ l)) (l + 1) = if ab (sp σ h (mo (fun l => ab (sp σ h l) (hd σ l)) l)) (hd σ (mo (fun l => ab (sp σ h l) (hd σ l)) l)) < ab (sp σ h (l + 1)) (hd σ (l + 1)) then l + 1 else mo (fun l => ab (sp σ h l) (hd σ l)) l := rfl
    have ih := m_le101 hV hK hO hM hh r n (l + 1) (by omega) (by omega)
    rw [e] at ih
    generalize mo (fun l => ab (sp σ h l) (hd σ l)) l = B at *
    rw [Mo_learns_101]
    refine wp_R12_23 hO (wp_gI hO rfl ?_)
    rw [hM.1]
    refine wp_rI hO rfl (by omega) ?_
    rw [Int.toNat_natCast, hM.2.1.2.1.1]
    refine wp_neg (by omega) (wp_eq (m_shapeOf hV hO hM hh (by omega)) (wp_R12_50 hO (wp_rI hO rfl (by omega) ?_)))
    rw [Int.toNat_natCast, hM.hd (by omega)]
    refine wp_eq (q_apart w (hK.2.1 h hh (l + 1) (by omega)) (hK.1 (l + 1) (by omega))) (wp_eq (m_shapeOf hV hO hM hh (by omega)) (wp_R12_50 hO (wp_rI hO rfl (by omega) ?_)))
    rw [Int.toNat_natCast, hM.hd (l := B) (by omega)]
    refine wp_eq (q_apart w (hK.2.1 h hh B (by omega)) (hK.1 B (by omega))) ?_
    unfold Mo_learns_156
    rw [w32_id (z := ((l + 1 : Nat) : Int) + 1) (by omega) (by omega), show ((l + 1 : Nat) : Int) + 1 = ((l + 1 + 1 : Nat) : Int) by omega]
    refine wp_ite (fun q => ?_) (fun q => ?_)
    · have q' : ab (sp σ h (l + 1)) (hd σ (l + 1)) ≤ ab (sp σ h B) (hd σ B) := q
      rw [if_neg (by omega)] at ih
      exact wp_is ih rfl
    · have q' : ¬ ab (sp σ h (l + 1)) (hd σ (l + 1)) ≤ ab (sp σ h B) (hd σ B) := q
      rw [if_pos (by omega)] at ih
      exact wp_is ih rfl
theorem m_learns {h : Nat} {d : Int} (hV : VOK V) (hK : SOK V σ) (hO : Ok L wl dr tx w) (hM : MC w s V σ lt nM nH oH oL) (hh : h < nh V) : Wp (Mo_learns 223 (h : Int) d w) (fun r => r.1 = (if nl V = 0 then -1 else if (h : Int) = oH then oL else lrn V σ h d) ∧ Fr PM1 w r.2) := by
  have h6 := hV.1
  have h7 := hV.2.1
  have hs := hM.2.1.1
  unfold Mo_learns Mo_learns_0
  generalize hFU : FU = fu; have hfu : 1000000 = fu := hFU
  refine wp_gd hO rfl (wp_R12_23 hO (wp_gI hO rfl ?_))
  rw [hM.1]
  refine wp_rI hO rfl (by omega) ?_
  rw [Int.toNat_natCast, hM.2.1.2.1.1]
  refine wp_ite (fun q => wp_ret ⟨by rw [if_pos (by omega)], Fr.rf w⟩) (fun q => wp_gI hO rfl ?_)
  rw [hM.2.2.2.2.2.2.1, if_neg (show ¬ nl V = 0 by omega)]
  refine wp_ite (fun q2 => wp_gI hO rfl (wp_ret ⟨by rw [if_pos q2]; exact hM.2.2.2.2.2.2.2, Fr.rf w⟩)) (fun q2 => wp_gI hO rfl ?_)
  rw [if_neg q2, hM.1]
  have e1 : w32 (w32 (w32 (10 * (s : Int)) + 3) + (h : Int)) = ((10 * s + (3 + h) : Nat) : Int) := by
    rw [w32_id (z := 10 * (s : Int)) (by omega) (by omega), w32_id (z := 10 * (s : Int) + 3) (by omega) (by omega), w32_id (by omega) (by omega)]; omega
  rw [e1]
  refine wp_R12_33 hO (wp_rI hO rfl (by omega) (wp_R12_34 hO (wp_rI hO rfl (by omega) ?_)))
  rw [Int.toNat_natCast]
  have hlaw := hM.2.1.2.2.2 (3 + h) (by omega)
  unfold lrn
  rw [if_neg (show ¬ nl V = 0 by omega)]
  cases hq : lo V (3 + h) with
  | none =>
    rw [hq] at hlaw
    refine wp_pos (by rw [hlaw.1, hlaw.2]; decide) ?_
    exact wp_is (m_le101 hV hK hO hM hh (nl V - 1) fu 0 (by omega) (by omega)) ⟨rfl, Fr.rf w⟩
  | some q9 =>
    rw [hq] at hlaw
    obtain ⟨bs, e⟩ := q9
    obtain ⟨f, hf1, hf2, -⟩ := hlaw
    refine wp_neg (by omega) (wp_call (m_setsOf hO) (fun w1 g1 => ?_))
    rw [hM.yr] at g1
    have f1 : Fr PM1 w w1 := g1.1.mono (fun a k q => Or.inl q)
    rw [show w32 (3 + (h : Int)) = ((3 + h : Nat) : Int) by rw [w32_id (by omega) (by omega)]; omega]
    refine wp_call (m_tells (f1.ok hO) (hM.fr hV f1) (Or.inr (Or.inl ⟨by omega, by omega⟩)) hV g1.2) (fun r hr => ?_)
    have f2 : Fr PM1 w r.2 := f1.tr (hr.2.mono (fun a k q => Or.inr q))
    have hO2 := f2.ok hO
    have hM2 := hM.fr hV f2
    rw [hr.1, hq]
    unfold Mo_learns_94
    refine wp_ite (fun p => ?_) (fun p => wp_ret ⟨?_, f2⟩)
    · refine wp_R12_23 hO2 (wp_gI hO2 rfl ?_)
      rw [hM2.1]
      refine wp_rI hO2 rfl (by omega) ?_
      rw [Int.toNat_natCast, hM2.2.1.2.1.1]
      refine wp_irm (by omega) (wp_ret ⟨?_, f2⟩)
      show _ = if levo _ _ < 0 then _ else _
      rw [if_neg (by omega)]
    · show _ = if levo _ _ < 0 then _ else _
      rw [if_pos (by omega)]
end M4
