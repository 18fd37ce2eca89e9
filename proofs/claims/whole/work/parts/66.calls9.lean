/-! Level 3: calls, chance as a whole. -/
section K9
variable {L wl dr tx s : Nat} {w : Wd} {V : Vl} {σ : Sg} {x y z Y : Int}
theorem call_chance (h : INV L w Y) : CALL L w Y (Hh_chance 6 x y) (Mo_chance 223 x y) := by
  have hI := h
  obtain ⟨wl, dr, tx, s, V, σ, hO, hv, hdr, hne, hV, hW, hs, hM, hN, -⟩ := h
  unfold CALL Hh_chance Hh_chance_0 Hh_chance_18 Mo_chance Mo_chance_0 Mo_chance_18
  generalize hFU : FU = fu; have hfu : 1000000 = fu := hFU
  refine wp_gd hO rfl (wp_eq (q_isHeir hO hv hW) ?_)
  unfold bz
  by_cases q : 0 ≤ x ∧ x < (nh V : Int)
  · rw [if_pos q]
    refine wp_neg (show ¬ (1 : Int) = 0 by decide) (wp_eq (q_within 1 50) ?_)
    unfold bz
    by_cases p : 1 ≤ y ∧ y ≤ 50
    · rw [if_pos p]
      obtain ⟨a, rfl⟩ := Int.eq_ofNat_of_zero_le q.1
      obtain ⟨n, rfl⟩ := Int.eq_ofNat_of_zero_le (show 0 ≤ y by omega)
      refine wp_neg (show ¬ (1 : Int) = 0 by decide) (wp_use (c_ch25 (a := a) (N := n) (w0 := w) hV hv (by omega) n fu 0 w (by omega) (by omega) hO hW hN.1 hN.2.1 (Fr.rf w)) (fun r hr => ?_))
      have f1 := hr.2
      have hO1 := f1.ok hO
      have h1 := i_same hV f1 hs hM
      refine wp_gd hO1 rfl (wp_eq (q_misHeir hV hO1 h1.1 h1.2) ?_)
      unfold bz
      rw [if_pos q]
      refine wp_neg (show ¬ (1 : Int) = 0 by decide) (wp_eq (q_min 1 50) ?_)
      unfold bz
      rw [if_pos p]
      refine wp_neg (show ¬ (1 : Int) = 0 by decide) (wp_call (i_copies hV hO f1 hs hM hN) (fun w2 g2 => ?_))
      have hO2 := g2.1.ok hO
      refine wp_pI hO2 rfl ?_
      generalize hw3 : sI w2 223 51 0 = w3
      have f3 : Fr PS w w3 := by rw [← hw3]; exact g2.1.sI (by unfold PS; omega)
      refine wp_use (m_ch31 (a := a) (N := n) (w0 := w) hV hN.1 (by omega) n fu 0 w3 (by omega) (by omega) (f3.ok hO) (mc_lots hV g2.2 0 hw3) f3) (fun r2 h2 => ⟨h2.1.trans hr.1.symm, inv_fr hI h2.2, h2.2.2.1, h2.2.2.2.1⟩)
    · rw [if_neg p]
      refine wp_pos rfl (wp_ret (wp_gd hO rfl (wp_eq (q_misHeir hV hO hs hM) ?_)))
      unfold bz
      rw [if_pos q]
      refine wp_neg (show ¬ (1 : Int) = 0 by decide) (wp_eq (q_min 1 50) ?_)
      unfold bz
      rw [if_neg p]
      exact wp_pos rfl (wp_ret ⟨rfl, hI, rfl, rfl⟩)
  · rw [if_neg q]
    refine wp_pos rfl (wp_ret (wp_gd hO rfl (wp_eq (q_misHeir hV hO hs hM) ?_)))
    unfold bz
    rw [if_neg q]
    exact wp_pos rfl (wp_ret ⟨rfl, hI, rfl, rfl⟩)
end K9
