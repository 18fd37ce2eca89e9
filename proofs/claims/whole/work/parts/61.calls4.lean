/-! Level 3: calls, plan. -/
section K4
variable {L wl dr tx s : Nat} {w : Wd} {V : Vl} {σ : Sg} {x y Y : Int}
theorem call_plan (h : INV L w Y) : CALL L w Y (Hh_plan 6 x y) (Mo_plan 223 x y) := by
  have hI := h
  obtain ⟨wl, dr, tx, s, V, σ, hO, hv, hdr, hne, hV, hW, hs, hM, hN, -⟩ := h
  have hv' := wi_bd hv
  unfold CALL Hh_plan Hh_plan_0 Hh_plan_18 Mo_plan Mo_plan_0 Mo_plan_18
  refine wp_gd hO rfl (wp_eq (q_isHeir hO hv hW) ?_)
  unfold bz
  by_cases q : 0 ≤ x ∧ x < (nh V : Int)
  · rw [if_pos q]
    refine wp_neg (show ¬ (1 : Int) = 0 by decide) (wp_eq (q_within 0 12) ?_)
    unfold bz
    by_cases p : 0 ≤ y ∧ y ≤ 12
    · rw [if_pos p]
      obtain ⟨a, rfl⟩ := Int.eq_ofNat_of_zero_le q.1
      obtain ⟨d, rfl⟩ := Int.eq_ofNat_of_zero_le p.1
      refine wp_neg (show ¬ (1 : Int) = 0 by decide) (wp_R11_11 hO (wp_R11_3 hO (wi_ne hv) (wp_R11_4 hO ?_)))
      refine wp_call (c_lay hV hN.1 hv isSt_40 hO hW hN.2.1 (by omega) (by omega)) (fun r hr => wp_ret ?_)
      have f1 : Fr PS w r.2 := hr.2.1.mono (fun a k q => by unfold PP at q; unfold PS; omega)
      have hO1 := f1.ok hO
      have h1 := i_same hV f1 hs hM
      refine wp_gd hO1 rfl (wp_eq (q_misHeir hV hO1 h1.1 h1.2) ?_)
      unfold bz
      rw [if_pos q]
      refine wp_neg (show ¬ (1 : Int) = 0 by decide) (wp_eq (q_min 0 12) ?_)
      unfold bz
      rw [if_pos p]
      refine wp_neg (show ¬ (1 : Int) = 0 by decide) (wp_call (i_copies hV hO f1 hs hM hN) (fun w2 g2 => ?_))
      refine wp_call (m_plans hV hN.1 (g2.1.ok hO) g2.2 (by omega) (by omega)) (fun r2 h2 => ?_)
      have f3 : Fr PS w r2.2 := g2.1.tr (h2.2.1.mono (fun a k q => by unfold PMP at q; unfold PS; omega))
      exact wp_ret ⟨h2.1.trans hr.1.symm, inv_fr hI f3, f3.2.1, f3.2.2.1⟩
    · rw [if_neg p]
      refine wp_pos rfl (wp_ret (wp_gd hO rfl (wp_eq (q_misHeir hV hO hs hM) ?_)))
      unfold bz
      rw [if_pos q]
      refine wp_neg (show ¬ (1 : Int) = 0 by decide) (wp_eq (q_min 0 12) ?_)
      unfold bz
      rw [if_neg p]
      exact wp_pos rfl (wp_ret ⟨rfl, hI, rfl, rfl⟩)
  · rw [if_neg q]
    refine wp_pos rfl (wp_ret (wp_gd hO rfl (wp_eq (q_misHeir hV hO hs hM) ?_)))
    unfold bz
    rw [if_neg q]
    exact wp_pos rfl (wp_ret ⟨rfl, hI, rfl, rfl⟩)
end K4
