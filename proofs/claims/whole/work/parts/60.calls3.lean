/-! Level 3: calls, without and unlike. -/
section K3
variable {L wl dr tx s : Nat} {w : Wd} {V : Vl} {σ : Sg} {x y Y : Int}
theorem call_without (h : INV L w Y) : CALL L w Y (Hh_without 6 x) (Mo_without 223 x) := by
  have hI := h
  obtain ⟨wl, dr, tx, s, V, σ, hO, hv, hdr, hne, hV, hW, hs, hM, hN, -⟩ := h
  unfold CALL Hh_without Hh_without_0 Mo_without Mo_without_0
  refine wp_gd hO rfl (wp_eq (q_isHeir hO hv hW) ?_)
  unfold bz
  by_cases q : 0 ≤ x ∧ x < (nh V : Int)
  · rw [if_pos q]
    refine wp_neg (show ¬ (1 : Int) = 0 by decide) (wp_R11_10 hO (wp_R11_3 hO (wi_ne hv) (wp_R11_4 hO (wp_R11_3 hO (wi_ne hv) (wp_gI hO (sh_Wi L hv) ?_)))))
    show Wp ((Ct_compare 176 wl 40 (wI w wl 5) w).bind _) _
    rw [hW.1.2.2.2.2.2]
    refine wp_call (i_compare hV hO hv hW hN) (fun w1 g => ?_)
    have hO1 := g.1.ok hO
    refine wp_R11_10 hO1 (wp_R11_3 hO1 (wi_ne hv) (wp_call (c_award hV hv hO1 g.2.2 g.2.1) (fun r hr => wp_ret ?_)))
    have f2 : Fr PS w r.2 := g.1.tr (hr.2.1.mono (fun a k q => by unfold PV at q; unfold PS; omega))
    have hO2 := f2.ok hO
    have h1 := i_same hV f2 hs hM
    refine wp_gd hO2 rfl (wp_eq (q_misHeir hV hO2 h1.1 h1.2) ?_)
    unfold bz
    rw [if_pos q]
    refine wp_neg (show ¬ (1 : Int) = 0 by decide) (wp_call (i_copies hV hO f2 hs hM hN) (fun w3 g3 => ?_))
    have hO3 := g3.1.ok hO
    refine wp_pI hO3 rfl ?_
    generalize hw4 : sI w3 223 53 x = w4
    have f4 : Fr PS w w4 := by rw [← hw4]; exact g3.1.sI (by unfold PS; omega)
    refine wp_call (m_judged hV hN.1 (f4.ok hO) (mc_field hV g3.2 53 x (Or.inr rfl) hw4)) (fun r2 h2 => ?_)
    have f5 : Fr PS w r2.2 := f4.tr (h2.2.1.mono (fun a k q => by unfold PM2 at q; unfold PS; omega))
    refine wp_eq (q_orNobody _) (wp_ret ⟨?_, inv_fr hI f5, f5.2.1, f5.2.2.1⟩)
    show cow r2.1 = r.1
    rw [h2.1, hr.1]
    rfl
  · rw [if_neg q]
    refine wp_pos rfl (wp_ret (wp_gd hO rfl (wp_eq (q_misHeir hV hO hs hM) ?_)))
    unfold bz
    rw [if_neg q]
    exact wp_pos rfl (wp_ret ⟨rfl, hI, rfl, rfl⟩)
theorem call_unlike (h : INV L w Y) : CALL L w Y (Hh_unlike 6 x y) (Mo_unlike 223 x y) := by
  have hI := h
  obtain ⟨wl, dr, tx, s, V, σ, hO, hv, hdr, hne, hV, hW, hs, hM, hN, -⟩ := h
  have h6 := hV.2.1
  have h3 := hV.2.2.1
  unfold CALL Hh_unlike Hh_unlike_0 Hh_unlike_16 Mo_unlike Mo_unlike_0 Mo_unlike_16
  refine wp_gd hO rfl (wp_eq (q_isHeir hO hv hW) ?_)
  unfold bz
  by_cases q : 0 ≤ x ∧ x < (nh V : Int)
  · rw [if_pos q]
    refine wp_neg (show ¬ (1 : Int) = 0 by decide) (wp_eq (q_isMaster hO hv hW) ?_)
    unfold bz
    by_cases p : 0 ≤ y ∧ y < (nm V : Int)
    · rw [if_pos p]
      obtain ⟨a, rfl⟩ := Int.eq_ofNat_of_zero_le q.1
      obtain ⟨m, rfl⟩ := Int.eq_ofNat_of_zero_le p.1
      refine wp_neg (show ¬ (1 : Int) = 0 by decide) (wp_R11_10 hO (wp_R11_3 hO (wi_ne hv) (wp_R11_4 hO (wp_R11_3 hO (wi_ne hv) (wp_gI hO (sh_Wi L hv) ?_)))))
      show Wp ((Ct_compare 176 wl 40 (wI w wl 5) w).bind _) _
      rw [hW.1.2.2.2.2.2]
      refine wp_call (i_compare hV hO hv hW hN) (fun w1 g => ?_)
      have hO1 := g.1.ok hO
      refine wp_R11_10 hO1 (wp_R1_0 hO1 (wp_178 hO1 (by omega) ?_))
      rw [Int.toNat_natCast]
      refine wp_rI hO1 (sh_in178 L (by omega)) (by omega) (wp_ret ?_)
      rw [Int.toNat_natCast, g.2.1 a (by omega) m (by omega)]
      have h1 := i_same hV g.1 hs hM
      refine wp_gd hO1 rfl (wp_eq (q_misHeir hV hO1 h1.1 h1.2) ?_)
      unfold bz
      rw [if_pos q]
      refine wp_neg (show ¬ (1 : Int) = 0 by decide) (wp_eq (q_misMaster hV hO1 h1.1 h1.2) ?_)
      unfold bz
      rw [if_pos p]
      refine wp_neg (show ¬ (1 : Int) = 0 by decide) (wp_call (i_copies hV hO g.1 hs hM hN) (fun w2 g2 => ?_))
      refine wp_call (m_unlikeTo hV hN.1 (g2.1.ok hO) g2.2 (by omega) (by omega)) (fun r2 h2 => ?_)
      have f3 : Fr PS w r2.2 := g2.1.tr (h2.2.mono (fun a k q => by unfold PM1 at q; unfold PS; omega))
      exact wp_ret ⟨h2.1, inv_fr hI f3, f3.2.1, f3.2.2.1⟩
    · rw [if_neg p]
      refine wp_pos rfl (wp_ret (wp_gd hO rfl (wp_eq (q_misHeir hV hO hs hM) ?_)))
      unfold bz
      rw [if_pos q]
      refine wp_neg (show ¬ (1 : Int) = 0 by decide) (wp_eq (q_misMaster hV hO hs hM) ?_)
      unfold bz
      rw [if_neg p]
      exact wp_pos rfl (wp_ret ⟨rfl, hI, rfl, rfl⟩)
  · rw [if_neg q]
    refine wp_pos rfl (wp_ret (wp_gd hO rfl (wp_eq (q_misHeir hV hO hs hM) ?_)))
    unfold bz
    rw [if_neg q]
    exact wp_pos rfl (wp_ret ⟨rfl, hI, rfl, rfl⟩)
end K3
