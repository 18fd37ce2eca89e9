/-! Level 3: calls, what is now. -/
section K2
variable {L wl dr tx s : Nat} {w : Wd} {V : Vl} {σ : Sg} {x y Y : Int}
theorem i_same {w1 : Wd} (hV : VOK V) (f : Fr PS w w1) (hs : wI w 223 18 = (s : Int)) (hM : MW w s V) : wI w1 223 18 = (s : Int) ∧ MW w1 s V :=
  ⟨(f.at 223 18 (by unfold PS; omega)).trans hs, hM.eq (fun a k q1 q2 => f.at a k (by unfold PS; omega))⟩
/-- the reference copies, whatever scratch was written before -/
theorem i_copies {w1 : Wd} (hV : VOK V) (hO : Ok L wl dr tx w) (f : Fr PS w w1) (hs : wI w 223 18 = (s : Int)) (hM : MW w s V) (hN : NOW w V Y σ) : Wp (Mo_copies 223 w1) (fun w2 => Fr PS w w2 ∧ MC w2 s V σ (sd V) (-1) (-1) (-1) (-1)) := by
  have h1 := i_same hV f hs hM
  refine wp_use (m_copies hV (f.ok hO) h1.1 h1.2 (hN.2.2.1.eq hV (fun k hk => f.at 255 _ (by unfold PS; omega)))) (fun w2 g => ⟨f.tr (g.1.mono (fun a k q => by unfold PK at q; unfold PS; omega)), g.2.2⟩)
theorem i_compare (hV : VOK V) (hO : Ok L wl dr tx w) (hv : isWi wl) (hW : CW w wl V) (hN : NOW w V Y σ) : Wp (Ct_compare 176 wl 40 (sd V) w) (fun w1 => Fr PS w w1 ∧ UN w1 V (ulk V σ (sd V)) ∧ CW w1 wl V) := by
  have hv' := wi_bd hv
  refine wp_use (c_compare hV hN.1 hv isSt_40 hO hW hN.2.1) (fun w1 g => ⟨g.1.mono (fun a k q => by unfold PC2 at q; unfold PS; omega), g.2, hW.eq (fun a k q1 q2 => g.1.at a k (by unfold PC2; omega))⟩)
theorem call_vote (h : INV L w Y) : CALL L w Y (Hh_vote 6 x) (Mo_vote 223 x) := by
  have hI := h
  obtain ⟨wl, dr, tx, s, V, σ, hO, hv, hdr, hne, hV, hW, hs, hM, hN, -⟩ := h
  unfold CALL Hh_vote Hh_vote_0 Mo_vote Mo_vote_0
  refine wp_gd hO rfl (wp_eq (q_isMaster hO hv hW) ?_)
  unfold bz
  by_cases q : 0 ≤ x ∧ x < (nm V : Int)
  · rw [if_pos q]
    obtain ⟨m, rfl⟩ := Int.eq_ofNat_of_zero_le q.1
    have hm : m < nm V := by omega
    refine wp_neg (show ¬ (1 : Int) = 0 by decide) (wp_R11_10 hO (wp_R11_3 hO (wi_ne hv) (wp_R11_4 hO (wp_R11_3 hO (wi_ne hv) (wp_gI hO (sh_Wi L hv) ?_)))))
    show Wp ((Ct_compare 176 wl 40 (wI w wl 5) w).bind _) _
    rw [hW.1.2.2.2.2.2]
    refine wp_call (i_compare hV hO hv hW hN) (fun w1 g => ?_)
    have hO1 := g.1.ok hO
    refine wp_R11_10 hO1 (wp_R11_3 hO1 (wi_ne hv) (wp_eq (c_choice hV hv hO1 g.2.2 g.2.1 hm) (wp_ret ?_)))
    have h1 := i_same hV g.1 hs hM
    refine wp_gd hO1 rfl (wp_eq (q_misMaster hV hO1 h1.1 h1.2) ?_)
    unfold bz
    rw [if_pos q]
    refine wp_neg (show ¬ (1 : Int) = 0 by decide) (wp_call (i_copies hV hO g.1 hs hM hN) (fun w2 g2 => ?_))
    refine wp_call (m_voteOf hV hN.1 (g2.1.ok hO) g2.2 hm) (fun r2 h2 => ?_)
    have f3 : Fr PS w r2.2 := g2.1.tr (h2.2.mono (fun a k q => by unfold PM1 at q; unfold PS; omega))
    refine wp_eq (q_orNobody _) (wp_ret ⟨?_, inv_fr hI f3, f3.2.1, f3.2.2.1⟩)
    show cow r2.1 = _
    rw [h2.1]
  · rw [if_neg q]
    refine wp_pos rfl (wp_ret (wp_gd hO rfl (wp_eq (q_misMaster hV hO hs hM) ?_)))
    unfold bz
    rw [if_neg q]
    exact wp_pos rfl (wp_ret ⟨rfl, hI, rfl, rfl⟩)
theorem mc_field {w1 : Wd} {lt nM nH oH oL : Int} (hV : VOK V) (h : MC w s V σ lt nM nH oH oL) (k : Nat) (z : Int) (hk : k = 52 ∨ k = 53) (hw : sI w 223 k z = w1) : MC w1 s V σ lt (if k = 52 then z else nM) (if k = 53 then z else nH) oH oL := by
  have n1 : ∀ a j, a ≠ 223 ∨ j ≠ k → wI w1 a j = wI w a j := fun a j q => by rw [← hw]; exact wI_ne q
  obtain ⟨h0, h1, h2, h3, h4, h5, h6, h7⟩ := h
  refine ⟨(n1 _ _ (by omega)).trans h0, h1.eq (fun a j q1 q2 => n1 a j (by omega)), h2.eq hV (fun j _ => n1 256 _ (by omega)), (n1 _ _ (by omega)).trans h3, ?_, ?_, (n1 _ _ (by omega)).trans h6, (n1 _ _ (by omega)).trans h7⟩
  · rcases hk with rfl | rfl
    · rw [← hw]; exact wI_eq _ _ _ _
    · exact (n1 _ _ (by omega)).trans h4
  · rcases hk with rfl | rfl
    · exact (n1 _ _ (by omega)).trans h5
    · rw [← hw]; exact wI_eq _ _ _ _
theorem call_swing (h : INV L w Y) : CALL L w Y (Hh_swing 6 x) (Mo_swing 223 x) := by
  have hI := h
  obtain ⟨wl, dr, tx, s, V, σ, hO, hv, hdr, hne, hV, hW, hs, hM, hN, -⟩ := h
  unfold CALL Hh_swing Hh_swing_0 Mo_swing Mo_swing_0
  refine wp_gd hO rfl (wp_eq (q_isMaster hO hv hW) ?_)
  unfold bz
  by_cases q : 0 ≤ x ∧ x < (nm V : Int)
  · rw [if_pos q]
    refine wp_neg (show ¬ (1 : Int) = 0 by decide) (wp_R11_10 hO (wp_R11_3 hO (wi_ne hv) (wp_R11_4 hO (wp_R11_3 hO (wi_ne hv) (wp_gI hO (sh_Wi L hv) ?_)))))
    show Wp ((Ct_compare 176 wl 40 (wI w wl 5) w).bind _) _
    rw [hW.1.2.2.2.2.2]
    refine wp_call (i_compare hV hO hv hW hN) (fun w1 g => ?_)
    have hO1 := g.1.ok hO
    refine wp_R11_10 hO1 (wp_R11_3 hO1 (wi_ne hv) (wp_call (c_award hV hv hO1 g.2.2 g.2.1) (fun r hr => wp_ret ?_)))
    have f2 : Fr PS w r.2 := g.1.tr (hr.2.1.mono (fun a k q => by unfold PV at q; unfold PS; omega))
    have hO2 := f2.ok hO
    have h1 := i_same hV f2 hs hM
    refine wp_gd hO2 rfl (wp_eq (q_misMaster hV hO2 h1.1 h1.2) ?_)
    unfold bz
    rw [if_pos q]
    refine wp_neg (show ¬ (1 : Int) = 0 by decide) (wp_call (i_copies hV hO f2 hs hM hN) (fun w3 g3 => ?_))
    have hO3 := g3.1.ok hO
    refine wp_pI hO3 rfl ?_
    generalize hw4 : sI w3 223 52 x = w4
    have f4 : Fr PS w w4 := by rw [← hw4]; exact g3.1.sI (by unfold PS; omega)
    refine wp_call (m_judged hV hN.1 (f4.ok hO) (mc_field hV g3.2 52 x (Or.inl rfl) hw4)) (fun r2 h2 => ?_)
    have f5 : Fr PS w r2.2 := f4.tr (h2.2.1.mono (fun a k q => by unfold PM2 at q; unfold PS; omega))
    refine wp_eq (q_orNobody _) (wp_ret ⟨?_, inv_fr hI f5, f5.2.1, f5.2.2.1⟩)
    show cow r2.1 = r.1
    rw [h2.1, hr.1]
    rfl
  · rw [if_neg q]
    refine wp_pos rfl (wp_ret (wp_gd hO rfl (wp_eq (q_misMaster hV hO hs hM) ?_)))
    unfold bz
    rw [if_neg q]
    exact wp_pos rfl (wp_ret ⟨rfl, hI, rfl, rfl⟩)
end K2
