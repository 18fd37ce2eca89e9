/-! Level 3: calls, heir as a whole. -/
section K11
variable {L wl dr tx s : Nat} {w : Wd} {V : Vl} {σ : Sg} {x y z Y : Int}
theorem call_heir (h : INV L w Y) : CALL L w Y (Hh_heir 6 x z) (Mo_heir 223 x z) := by
  have hI := h
  obtain ⟨wl, dr, tx, s, V, σ, hO, hv, hdr, hne, hV, hW, hs, hM, hN, -⟩ := h
  have hv' := wi_bd hv
  have h7 := hV.2.1
  unfold CALL Hh_heir Hh_heir_0
  refine wp_gd hO rfl (wp_eq (q_isHeir hO hv hW) ?_)
  unfold bz
  by_cases q : 0 ≤ x ∧ x < (nh V : Int)
  · rw [if_pos q]
    obtain ⟨a, rfl⟩ := Int.eq_ofNat_of_zero_le q.1
    have ha' : a < nh V := by omega
    have fin := fun w1 f v e => m_heir (w1 := w1) (zz := z) hI hV hO f hs hM hN ha' v e
    refine wp_neg (show ¬ (1 : Int) = 0 by decide) (wp_ite (fun q0 => ?_) (fun q0 => ?_))
    · refine wp_R11_3 hO (wi_ne hv) (wp_R10_8 hO hv (wp_rI hO (sh_Wi_8 L hv) (by omega) (wp_ret (fin w (Fr.rf w) _ ?_))))
      rw [if_pos q0]
      exact (hW.2.1 a ha').1
    refine wp_ite (fun q1 => ?_) (fun q1 => ?_)
    · refine wp_R11_3 hO (wi_ne hv) (wp_R10_9 hO hv (wp_rI hO (sh_Wi_9 L hv) (by omega) (wp_ret (fin w (Fr.rf w) _ ?_))))
      rw [if_neg q0, if_pos q1]
      exact (hW.2.1 a ha').2
    refine wp_ite (fun q2 => ?_) (fun q2 => ?_)
    · unfold Hh_sumNow Hh_sumNow_0
      refine wp_call (P := fun r => r.1 = uall V σ (sd V) (-1) a ∧ Fr PS w r.2) ?_ (fun r hr => wp_ret (fin r.2 hr.2 _ ?_))
      · refine wp_gd hO rfl (wp_R11_10 hO (wp_R11_3 hO (wi_ne hv) (wp_R11_4 hO (wp_R11_3 hO (wi_ne hv) (wp_gI hO (sh_Wi L hv) ?_)))))
        show Wp ((Ct_compare 176 wl 40 (wI w wl 5) w).bind _) _
        rw [hW.1.2.2.2.2.2]
        refine wp_call (i_compare hV hO hv hW hN) (fun w1 g => ?_)
        have hO1 := g.1.ok hO
        exact wp_R11_10 hO1 (wp_R11_3 hO1 (wi_ne hv) (wp_eq (c_sum hV hv hO1 g.2.2 g.2.1 ha') (wp_ret ⟨rfl, g.1⟩)))
      · rw [if_neg q0, if_neg q1, if_pos q2]; exact hr.1
    refine wp_ite (fun q3 => ?_) (fun q3 => ?_)
    · refine wp_R11_4 hO (wp_R9_5 hO isSt_40 (wp_rI hO (sh_St_5 L isSt_40) (by omega) (wp_ret (fin w (Fr.rf w) _ ?_))))
      rw [if_neg q0, if_neg q1, if_neg q2, if_pos q3]
      exact hN.2.1.2.2.2.2.2 a ha'
    refine wp_ite (fun q4 => ?_) (fun q4 => wp_ret (fin w (Fr.rf w) _ ?_))
    · refine wp_R11_3 hO (wi_ne hv) (wp_R11_4 hO (wp_call (c_learned hV hN.1 hv isSt_40 hO hW hN.2.1 ha') (fun r hr => wp_ret (fin r.2 (hr.2.mono (fun a k q => by unfold PL at q; unfold PS; omega)) _ ?_))))
      rw [if_neg q0, if_neg q1, if_neg q2, if_neg q3, if_pos q4]
      exact hr.1
    · rw [if_neg q0, if_neg q1, if_neg q2, if_neg q3, if_neg q4]
  · rw [if_neg q]
    unfold Mo_heir Mo_heir_0
    refine wp_pos rfl (wp_ret (wp_gd hO rfl (wp_eq (q_misHeir hV hO hs hM) ?_)))
    unfold bz
    rw [if_neg q]
    exact wp_pos rfl (wp_ret ⟨rfl, hI, rfl, rfl⟩)
end K11
