/-! Level 3: calls, shape. -/
section K6
variable {L wl dr tx s : Nat} {w : Wd} {V : Vl} {σ : Sg} {x y z Y : Int}
theorem m_shape {a l : Nat} {zz : Int} (hI : INV L w Y) (hV : VOK V) (hO : Ok L wl dr tx w) (hs : wI w 223 18 = (s : Int)) (hM : MW w s V) (hN : NOW w V Y σ) (ha : a < nh V) (hl : l < nl V) (v : Int) (hv : v = if zz = 0 then sp σ a l else if zz = 1 then wrt V σ (sd V) a l else if zz = 2 then ab (sp σ a l) (hd σ l) else -1) :
    Wp (Mo_shape 223 (a : Int) (l : Int) zz w) (fun q => q.1 = v ∧ INV L q.2 Y ∧ wn q.2 = wn w ∧ wz q.2 = wz w) := by
  have h6 := hV.1
  unfold Mo_shape Mo_shape_0
  refine wp_gd hO rfl (wp_eq (q_misHeir hV hO hs hM) ?_)
  unfold bz
  rw [if_pos (show 0 ≤ (a : Int) ∧ (a : Int) < (nh V : Int) by omega)]
  refine wp_neg (show ¬ (1 : Int) = 0 by decide) (wp_eq (q_misLetter hV hO hs hM) ?_)
  unfold bz
  rw [if_pos (show 0 ≤ (l : Int) ∧ (l : Int) < (nl V : Int) by omega)]
  refine wp_neg (show ¬ (1 : Int) = 0 by decide) (wp_call (i_copies hV hO (Fr.rf w) hs hM hN) (fun w2 g2 => ?_))
  have hO2 := g2.1.ok hO
  have fin : INV L w2 Y ∧ wn w2 = wn w ∧ wz w2 = wz w := ⟨inv_fr hI g2.1, g2.1.2.1, g2.1.2.2.1⟩
  refine wp_ite (fun q0 => ?_) (fun q0 => ?_)
  · rw [if_pos q0] at hv
    exact wp_eq (m_shapeOf hV hO2 g2.2 ha hl) (wp_ret ⟨hv.symm, fin⟩)
  rw [if_neg q0] at hv
  refine wp_ite (fun q1 => ?_) (fun q1 => ?_)
  · rw [if_pos q1] at hv
    exact wp_eq (m_writes hV hO2 g2.2 ha hl) (wp_ret ⟨hv.symm, fin⟩)
  rw [if_neg q1] at hv
  refine wp_ite (fun q2 => ?_) (fun q2 => ?_)
  · rw [if_pos q2] at hv
    refine wp_eq (m_shapeOf hV hO2 g2.2 ha hl) (wp_R12_50 hO2 (wp_rI hO2 rfl (by omega) ?_))
    rw [Int.toNat_natCast, g2.2.hd hl]
    exact wp_eq (q_apart w2 (hN.1.2.1 a ha l hl) (hN.1.1 l hl)) (wp_ret ⟨hv.symm, fin⟩)
  · rw [if_neg q2] at hv
    exact wp_ret ⟨hv.symm, fin⟩
theorem call_shape (h : INV L w Y) : CALL L w Y (Hh_shape 6 x y z) (Mo_shape 223 x y z) := by
  have hI := h
  obtain ⟨wl, dr, tx, s, V, σ, hO, hv, hdr, hne, hV, hW, hs, hM, hN, -⟩ := h
  unfold CALL Hh_shape Hh_shape_0 Hh_shape_16
  refine wp_gd hO rfl (wp_eq (q_isHeir hO hv hW) ?_)
  unfold bz
  by_cases q : 0 ≤ x ∧ x < (nh V : Int)
  · rw [if_pos q]
    refine wp_neg (show ¬ (1 : Int) = 0 by decide) (wp_eq (q_isLetter hO hv hW) ?_)
    unfold bz
    by_cases p : 0 ≤ y ∧ y < (nl V : Int)
    · rw [if_pos p]
      obtain ⟨a, rfl⟩ := Int.eq_ofNat_of_zero_le q.1
      obtain ⟨l, rfl⟩ := Int.eq_ofNat_of_zero_le p.1
      have ha : a < nh V := by omega
      have hl : l < nl V := by omega
      have fin := fun v e => m_shape (zz := z) hI hV hO hs hM hN ha hl v e
      refine wp_neg (show ¬ (1 : Int) = 0 by decide) (wp_ite (fun q0 => ?_) (fun q0 => ?_))
      · refine wp_R11_4 hO (wp_eq (c_own hV hO isSt_40 hN.2.1 ha hl) (wp_ret (fin _ ?_)))
        rw [if_pos q0]
      refine wp_ite (fun q1 => ?_) (fun q1 => ?_)
      · refine wp_R11_3 hO (wi_ne hv) (wp_R11_4 hO (wp_R11_3 hO (wi_ne hv) (wp_gI hO (sh_Wi L hv) ?_)))
        show Wp ((Ct_written wl 40 (wI w wl 5) (a : Int) (l : Int) w).bind _) _
        rw [hW.1.2.2.2.2.2]
        refine wp_eq (c_written hV hO isSt_40 hv hN.2.1 hW ha hl) (wp_ret (fin _ ?_))
        rw [if_neg q0, if_pos q1]
      refine wp_ite (fun q2 => ?_) (fun q2 => wp_ret (fin _ ?_))
      · refine wp_R11_4 hO (wp_eq (c_off hV hN.1 hO isSt_40 hN.2.1 ha hl) (wp_ret (fin _ ?_)))
        rw [if_neg q0, if_neg q1, if_pos q2]
      · rw [if_neg q0, if_neg q1, if_neg q2]
    · rw [if_neg p]
      unfold Mo_shape Mo_shape_0 Mo_shape_16
      refine wp_pos rfl (wp_ret (wp_gd hO rfl (wp_eq (q_misHeir hV hO hs hM) ?_)))
      unfold bz
      rw [if_pos q]
      refine wp_neg (show ¬ (1 : Int) = 0 by decide) (wp_eq (q_misLetter hV hO hs hM) ?_)
      unfold bz
      rw [if_neg p]
      exact wp_pos rfl (wp_ret ⟨rfl, hI, rfl, rfl⟩)
  · rw [if_neg q]
    unfold Mo_shape Mo_shape_0 Mo_shape_16
    refine wp_pos rfl (wp_ret (wp_gd hO rfl (wp_eq (q_misHeir hV hO hs hM) ?_)))
    unfold bz
    rw [if_neg q]
    exact wp_pos rfl (wp_ret ⟨rfl, hI, rfl, rfl⟩)
end K6
