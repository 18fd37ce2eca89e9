/-! Level 3: calls, planOf. -/
section K5
variable {L wl dr tx s : Nat} {w : Wd} {V : Vl} {σ : Sg} {x y z Y : Int}
theorem call_planOf (h : INV L w Y) : CALL L w Y (Hh_planOf 6 x y z) (Mo_planOf 223 x y z) := by
  have hI := h
  obtain ⟨wl, dr, tx, s, V, σ, hO, hv, hdr, hne, hV, hW, hs, hM, hN, -⟩ := h
  have hv' := wi_bd hv
  have h6 := hV.1
  unfold CALL Hh_planOf Hh_planOf_0 Hh_planOf_26 Mo_planOf Mo_planOf_0 Mo_planOf_26
  refine wp_gd hO rfl (wp_eq (q_isHeir hO hv hW) ?_)
  unfold bz
  by_cases q : 0 ≤ x ∧ x < (nh V : Int)
  · rw [if_pos q]
    refine wp_neg (show ¬ (1 : Int) = 0 by decide) (wp_eq (q_within 0 12) ?_)
    unfold bz
    by_cases p : 0 ≤ y ∧ y ≤ 12
    · rw [if_pos p]
      refine wp_neg (show ¬ (1 : Int) = 0 by decide) (wp_eq (q_isLetter hO hv hW) ?_)
      unfold bz
      by_cases t : 0 ≤ z ∧ z < (nl V : Int)
      · rw [if_pos t]
        obtain ⟨a, rfl⟩ := Int.eq_ofNat_of_zero_le q.1
        obtain ⟨d, rfl⟩ := Int.eq_ofNat_of_zero_le p.1
        obtain ⟨l, rfl⟩ := Int.eq_ofNat_of_zero_le t.1
        refine wp_neg (show ¬ (1 : Int) = 0 by decide) (wp_R11_11 hO (wp_R11_3 hO (wi_ne hv) (wp_R11_4 hO ?_)))
        refine wp_call (c_lay hV hN.1 hv isSt_40 hO hW hN.2.1 (by omega) (by omega)) (fun r hr => ?_)
        have f1 : Fr PS w r.2 := hr.2.1.mono (fun a k q => by unfold PP at q; unfold PS; omega)
        have hO1 := f1.ok hO
        refine wp_R11_11 hO1 (wp_R5_0 hO1 (wp_rI hO1 rfl (by omega) (wp_ret ?_)))
        rw [Int.toNat_natCast, hr.2.2 l (by omega)]
        have h1 := i_same hV f1 hs hM
        refine wp_gd hO1 rfl (wp_eq (q_misHeir hV hO1 h1.1 h1.2) ?_)
        unfold bz
        rw [if_pos q]
        refine wp_neg (show ¬ (1 : Int) = 0 by decide) (wp_eq (q_min 0 12) ?_)
        unfold bz
        rw [if_pos p]
        refine wp_neg (show ¬ (1 : Int) = 0 by decide) (wp_eq (q_misLetter hV hO1 h1.1 h1.2) ?_)
        unfold bz
        rw [if_pos t]
        refine wp_neg (show ¬ (1 : Int) = 0 by decide) (wp_call (i_copies hV hO f1 hs hM hN) (fun w2 g2 => ?_))
        refine wp_call (m_plans hV hN.1 (g2.1.ok hO) g2.2 (by omega) (by omega)) (fun r2 h2 => ?_)
        have f3 : Fr PS w r2.2 := g2.1.tr (h2.2.1.mono (fun a k q => by unfold PMP at q; unfold PS; omega))
        have hO3 := f3.ok hO
        refine wp_R12_61 hO3 (wp_rI hO3 rfl (by omega) (wp_ret ⟨?_, inv_fr hI f3, f3.2.1, f3.2.2.1⟩))
        rw [Int.toNat_natCast]
        exact h2.2.2 l (by omega)
      · rw [if_neg t]
        refine wp_pos rfl (wp_ret (wp_gd hO rfl (wp_eq (q_misHeir hV hO hs hM) ?_)))
        unfold bz
        rw [if_pos q]
        refine wp_neg (show ¬ (1 : Int) = 0 by decide) (wp_eq (q_min 0 12) ?_)
        unfold bz
        rw [if_pos p]
        refine wp_neg (show ¬ (1 : Int) = 0 by decide) (wp_eq (q_misLetter hV hO hs hM) ?_)
        unfold bz
        rw [if_neg t]
        exact wp_pos rfl (wp_ret ⟨rfl, hI, rfl, rfl⟩)
    · rw [if_neg p]
      refine wp_pos rfl (wp_ret (wp_gd hO rfl (wp_eq (q_misHeir hV hO hs hM) ?_)))
      unfold bz
      rw [if_pos q]
      refine wp_neg (show ¬ (1 : Int) = 0 by decide) (wp_eq (q_min 0 12) ?_)
      unfold bz
      rw [if_neg p]
      exact wp_pos rfl (wp_ret ⟨rfl, hI, rfl, rfl⟩)
  · rw [if_neg q]
    refine wp_pos rfl (wp_ret (wp_gd hO rfl (wp_eq (q_misHeir hV hO hs hM) ?_)))
    unfold bz
    rw [if_neg q]
    exact wp_pos rfl (wp_ret ⟨rfl, hI, rfl, rfl⟩)
end K5
