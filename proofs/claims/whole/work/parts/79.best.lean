/-! Level 3: calls, bestLetter. -/
section K22
variable {L wl dr tx s : Nat} {w w0 : Wd} {V : Vl} {σ : Sg} {x y z Y : Int} {h l N : Nat}
theorem c_bl69 {Q : Int × Wd → Prop} {k40 : Nat → Int → Int → Int → Int → Int → Int → Wd → Option (Int × Wd)} {wh b mo' : Int} (hV : VOK V) (hK : SOK V σ) (hv : isWi wl) (hN : N ≤ 100) (kk : ∀ w1, Fr PS w0 w1 → Wp (Hh_bestLetter_106 k40 6 (h : Int) (N : Int) wh b mo' (l : Int) (btm V σ h l N) w1) Q) : ∀ (r m n : Nat) (w : Wd), n + r = N → r < m → Ok L wl dr tx w → CW w wl V → CS w 44 V (yit V (h : Int) (l : Int) σ n) → Fr PS w0 w → Wp (Hh_bestLetter_69 k40 m 6 (h : Int) (N : Int) wh b mo' (l : Int) (btm V σ h l n) (n : Int) w) Q
  | r, 0, n, w, _, hm, _, _, _, _ => absurd hm (by omega)
  | 0, m + 1, n, w, hr, hm, hO, hW, hS, hF => by
    have e : n = N := by omega
    subst e
    rw [Hh_bestLetter_69]
    exact wp_pos (by omega) (kk w hF)
  | r + 1, m + 1, n, w, hr, hm, hO, hW, hS, hF => by
    have hv' := wi_bd hv
    rw [Hh_bestLetter_69]
    refine wp_neg (by omega) (wp_R11_10 hO (wp_R11_3 hO (wi_ne hv) (wp_R11_5 hO (wp_call (c_year hV (sok_yit hV hK n) hv isSt_44 hO hW hS) (fun r1 h1 => ?_)))))
    have f1 : Fr PS w0 r1.2 := hF.tr (h1.2.1.mono (fun a k q => by unfold PY at q; unfold PS; omega))
    have ec : r1.1 = cow (ow (yit V (h : Int) (l : Int) σ (n + 1))) := h1.1
    have e : btm V σ h l (n + 1) = if ow (yit V (h : Int) (l : Int) σ (n + 1)) = (h : Int) then w32 (btm V σ h l n + 1) else btm V σ h l n := rfl
    have ih := c_bl69 hV hK hv hN kk r m (n + 1) r1.2 (by omega) (by omega) (h1.2.1.ok hO) (hW.eq (fun a k q1 q2 => h1.2.1.at a k (by unfold PY; omega))) h1.2.2.1 f1
    unfold Hh_bestLetter_100
    rw [w32_id (z := (n : Int) + 1) (by omega) (by omega), show (n : Int) + 1 = ((n + 1 : Nat) : Int) by omega]
    rw [e] at ih
    refine wp_ite (fun q => ?_) (fun q => ?_)
    · rw [if_pos (cow_is.mp (ec ▸ q))] at ih; exact ih
    · rw [if_neg (fun p => q (ec ▸ cow_is.mpr p))] at ih; exact ih
theorem c_bl40 {wh : Int} (hV : VOK V) (hNo : NOW w0 V Y σ) (hv : isWi wl) (hO0 : Ok L wl dr tx w0) (hW0 : CW w0 wl V) (hN : N ≤ 100) : ∀ (r m l : Nat) (w : Wd), l + r = nl V → r < m → Fr PS w0 w → Wp (Hh_bestLetter_40 m 6 (h : Int) (N : Int) wh (bst V σ h N l).1 (bst V σ h N l).2 (l : Int) w) (fun q => q.1 = (if wh = 0 then (bst V σ h N (nl V)).1 else (bst V σ h N (nl V)).2) ∧ Fr PS w0 q.2)
  | r, 0, l, w, _, hm, _ => absurd hm (by omega)
  | 0, m + 1, l, w, hr, hm, hF => by
    have hv' := wi_bd hv
    have hO := hF.ok hO0
    have hW : CW w wl V := hW0.eq (fun a k q1 q2 => hF.at a k (by unfold PS; omega))
    have e : l = nl V := by omega
    subst e
    rw [Hh_bestLetter_40]
    refine wp_R11_3 hO (wi_ne hv) (wp_gI hO (sh_Wi L hv) ?_)
    rw [hW.1.1]
    unfold Hh_bestLetter_127 Hh_bestLetter_138
    refine wp_pos (by omega) (wp_ite (fun q => wp_ret ⟨?_, hF⟩) (fun q => wp_ret ⟨?_, hF⟩))
    · rw [if_pos q]
    · rw [if_neg q]
  | r + 1, m + 1, l, w, hr, hm, hF => by
    have hv' := wi_bd hv
    have h6 := hV.1
    have hO := hF.ok hO0
    have hW : CW w wl V := hW0.eq (fun a k q1 q2 => hF.at a k (by unfold PS; omega))
    rw [Hh_bestLetter_40]
    refine wp_R11_3 hO (wi_ne hv) (wp_gI hO (sh_Wi L hv) ?_)
    rw [hW.1.1]
    refine wp_neg (by omega) (wp_R11_5 hO (wp_R11_4 hO (wp_call (i_trial hV hO0 hv hW0 hNo hF) (fun w1 g => ?_))))
    generalize hFU : FU = fu
    have hfu : 1000000 = fu := hFU
    have e : bst V σ h N (l + 1) = if (bst V σ h N l).2 < btm V σ h l N then ((l : Int), btm V σ h l N) else bst V σ h N l := rfl
    refine c_bl69 (w0 := w0) hV hNo.1 hv hN (fun w2 f2 => ?_) N fu 0 w1 (by omega) (by omega) (g.1.ok hO0) g.2.2 g.2.1 g.1
    have ih := c_bl40 (wh := wh) hV hNo hv hO0 hW0 hN r m (l + 1) w2 (by omega) (by omega) f2
    unfold Hh_bestLetter_106 Hh_bestLetter_121
    rw [w32_id (z := (l : Int) + 1) (by omega) (by omega), show (l : Int) + 1 = ((l + 1 : Nat) : Int) by omega]
    rw [e] at ih
    refine wp_ite (fun q => ?_) (fun q => ?_)
    · rw [if_neg (by omega)] at ih; exact ih
    · rw [if_pos (by omega)] at ih; exact ih
theorem mc_one {w1 : Wd} {lt nM nH oH oL a b : Int} (hV : VOK V) (h : MC w s V σ lt nM nH oH oL) (hw : sI (sI w 223 54 a) 223 55 b = w1) : MC w1 s V σ lt nM nH a b := by
  have n1 : ∀ a j, a ≠ 223 ∨ (j ≠ 54 ∧ j ≠ 55) → wI w1 a j = wI w a j := fun a j q => by rw [← hw, wI_ne (by omega), wI_ne (by omega)]
  obtain ⟨h0, h1, h2, h3, h4, h5, h6, h7⟩ := h
  exact ⟨(n1 _ _ (by omega)).trans h0, h1.eq (fun a j q1 q2 => n1 a j (by omega)), h2.eq hV (fun j _ => n1 256 _ (by omega)), (n1 _ _ (by omega)).trans h3, (n1 _ _ (by omega)).trans h4, (n1 _ _ (by omega)).trans h5, by rw [← hw, wI_ne (by omega), wI_eq], by rw [← hw, wI_eq]⟩
theorem m_bl75 {Q : Int × Wd → Prop} {k40 : Nat → Int → Int → Int → Int → Int → Int → Wd → Option (Int × Wd)} {wh b mo' : Int} (hV : VOK V) (hK : SOK V σ) (hl : l < nl V) (hN : N ≤ 100) (kk : ∀ w1, Fr PS w0 w1 → Wp (Mo_bestLetter_105 k40 223 (h : Int) (N : Int) wh b mo' (l : Int) (btm V σ h l N) w1) Q) : ∀ (r m n d : Nat) (w : Wd), n + r = N → r < m → Ok L wl dr tx w → MC w s V (yit V (h : Int) (l : Int) σ n) (sd V) (-1) (-1) (h : Int) (l : Int) → d ≤ 400 → wI w 256 45 = (d : Int) → Fr PS w0 w → Wp (Mo_bestLetter_75 k40 m 223 (h : Int) (N : Int) wh b mo' (l : Int) (btm V σ h l n) (n : Int) w) Q
  | r, 0, n, d, w, _, hm, _, _, _, _, _ => absurd hm (by omega)
  | 0, m + 1, n, d, w, hr, hm, hO, hM, hd4, h45, hF => by
    have e : n = N := by omega
    subst e
    rw [Mo_bestLetter_75]
    exact wp_pos (by omega) (kk w hF)
  | r + 1, m + 1, n, d, w, hr, hm, hO, hM, hd4, h45, hF => by
    rw [Mo_bestLetter_75]
    refine wp_neg (by omega) (wp_call (m_year hV (sok_yit hV hK n) (fun _ _ => by omega) hO hM hd4 h45) (fun w1 h1 => ?_))
    have f1 : Fr PS w0 w1 := hF.tr (h1.1.mono (fun a k q => by unfold PM5 at q; unfold PS; omega))
    have hO1 := h1.1.ok hO
    have e : btm V σ h l (n + 1) = if ow (yit V (h : Int) (l : Int) σ (n + 1)) = (h : Int) then w32 (btm V σ h l n + 1) else btm V σ h l n := rfl
    have ih := m_bl75 hV hK hl hN kk r m (n + 1) (min (d + 1) 400) w1 (by omega) (by omega) hO1 h1.2.1 (by omega) h1.2.2.1.1 f1
    unfold Mo_bestLetter_99
    refine wp_R12_50 hO1 (wp_rI hO1 rfl (by omega) ?_)
    rw [w32_id (z := (n : Int) + 1) (by omega) (by omega), show (n : Int) + 1 = ((n + 1 : Nat) : Int) by omega, show wI w1 256 (43 : Int).toNat = ow (yit V (h : Int) (l : Int) σ (n + 1)) from h1.2.1.2.2.1.2.2.1]
    rw [e] at ih
    refine wp_ite (fun q => ?_) (fun q => ?_)
    · rw [if_pos q] at ih; exact ih
    · rw [if_neg q] at ih; exact ih
theorem m_bl40 {wh : Int} (hV : VOK V) (hNo : NOW w0 V Y σ) (hO0 : Ok L wl dr tx w0) (hs : wI w0 223 18 = (s : Int)) (hM0 : MW w0 s V) (hN : N ≤ 100) : ∀ (r m l : Nat) (w : Wd), l + r = nl V → r < m → Fr PS w0 w → Wp (Mo_bestLetter_40 m 223 (h : Int) (N : Int) wh (bst V σ h N l).1 (bst V σ h N l).2 (l : Int) w) (fun q => q.1 = (if wh = 0 then (bst V σ h N (nl V)).1 else (bst V σ h N (nl V)).2) ∧ Fr PS w0 q.2)
  | r, 0, l, w, _, hm, _ => absurd hm (by omega)
  | 0, m + 1, l, w, hr, hm, hF => by
    have hs1 := hM0.1
    have hO := hF.ok hO0
    have h1 := i_same hV hF hs hM0
    have e : l = nl V := by omega
    subst e
    rw [Mo_bestLetter_40]
    refine wp_R12_23 hO (wp_gI hO rfl ?_)
    rw [h1.1]
    refine wp_rI hO rfl (by omega) ?_
    rw [Int.toNat_natCast, h1.2.2.1.1]
    unfold Mo_bestLetter_129 Mo_bestLetter_140
    refine wp_pos (by omega) (wp_ite (fun q => wp_ret ⟨?_, hF⟩) (fun q => wp_ret ⟨?_, hF⟩))
    · rw [if_pos q]
    · rw [if_neg q]
  | r + 1, m + 1, l, w, hr, hm, hF => by
    have hs1 := hM0.1
    have h6 := hV.1
    have hO := hF.ok hO0
    have h1 := i_same hV hF hs hM0
    rw [Mo_bestLetter_40]
    refine wp_R12_23 hO (wp_gI hO rfl ?_)
    rw [h1.1]
    refine wp_rI hO rfl (by omega) ?_
    rw [Int.toNat_natCast, h1.2.2.1.1]
    refine wp_neg (by omega) (wp_call (i_copies45 hV hO0 hF hs hM0 hNo) (fun w1 g => ?_))
    have hO1 := g.1.ok hO0
    refine wp_pI hO1 rfl (wp_pI hO1.sI rfl ?_)
    generalize hw2 : sI (sI w1 223 54 (h : Int)) 223 55 (l : Int) = w2
    have f2 : Fr PS w0 w2 := by rw [← hw2]; exact (g.1.sI (by unfold PS; omega)).sI (by unfold PS; omega)
    generalize hFU : FU = fu
    have hfu : 1000000 = fu := hFU
    have e : bst V σ h N (l + 1) = if (bst V σ h N l).2 < btm V σ h l N then ((l : Int), btm V σ h l N) else bst V σ h N l := rfl
    refine m_bl75 (w0 := w0) (s := s) hV hNo.1 (by omega) hN (fun w3 f3 => ?_) N fu 0 _ w2 (by omega) (by omega) (f2.ok hO0) (mc_one hV g.2.1 hw2) g.2.2.2 (by rw [← hw2, wI_ne (by omega), wI_ne (by omega)]; exact g.2.2.1) f2
    have ih := m_bl40 (wh := wh) hV hNo hO0 hs hM0 hN r m (l + 1) w3 (by omega) (by omega) f3
    unfold Mo_bestLetter_105 Mo_bestLetter_123
    rw [w32_id (z := (l : Int) + 1) (by omega) (by omega), show (l : Int) + 1 = ((l + 1 : Nat) : Int) by omega]
    rw [e] at ih
    refine wp_ite (fun q => ?_) (fun q => ?_)
    · rw [if_pos q] at ih; exact ih
    · rw [if_neg q] at ih; exact ih
theorem call_bestLetter (h : INV L w Y) : CALL L w Y (Hh_bestLetter 6 x y z) (Mo_bestLetter 223 x y z) := by
  have hI := h
  obtain ⟨wl, dr, tx, s, V, σ, hO, hv, hdr, hne, hV, hW, hs, hM, hN, -⟩ := h
  unfold CALL Hh_bestLetter Hh_bestLetter_0 Hh_bestLetter_27 Mo_bestLetter Mo_bestLetter_0 Mo_bestLetter_27
  generalize hFU : FU = fu; have hfu : 1000000 = fu := hFU
  have h6 := hV.1
  refine wp_gd hO rfl (wp_eq (q_isHeir hO hv hW) ?_)
  unfold bz
  by_cases q : 0 ≤ x ∧ x < (nh V : Int)
  · rw [if_pos q]
    refine wp_neg (show ¬ (1 : Int) = 0 by decide) (wp_eq (q_within 1 50) ?_)
    unfold bz
    by_cases p : 1 ≤ y ∧ y ≤ 50
    · rw [if_pos p]
      refine wp_neg (show ¬ (1 : Int) = 0 by decide) (wp_eq (q_within 0 1) ?_)
      unfold bz
      by_cases o : 0 ≤ z ∧ z ≤ 1
      · rw [if_pos o]
        obtain ⟨a, rfl⟩ := Int.eq_ofNat_of_zero_le q.1
        obtain ⟨n, rfl⟩ := Int.eq_ofNat_of_zero_le (show 0 ≤ y by omega)
        refine wp_neg (show ¬ (1 : Int) = 0 by decide) (wp_use (c_bl40 (h := a) (N := n) (wh := z) (w0 := w) hV hN hv hO hW (by omega) (nl V) fu 0 w (by omega) (by omega) (Fr.rf w)) (fun r hr => ?_))
        have h1 := i_same hV hr.2 hs hM
        refine wp_gd (hr.2.ok hO) rfl (wp_eq (q_misHeir hV (hr.2.ok hO) h1.1 h1.2) ?_)
        unfold bz
        rw [if_pos q]
        refine wp_neg (show ¬ (1 : Int) = 0 by decide) (wp_eq (q_min 1 50) ?_)
        unfold bz
        rw [if_pos p]
        refine wp_neg (show ¬ (1 : Int) = 0 by decide) (wp_eq (q_min 0 1) ?_)
        unfold bz
        rw [if_pos o]
        refine wp_neg (show ¬ (1 : Int) = 0 by decide) (wp_use (m_bl40 (h := a) (N := n) (wh := z) (w0 := w) hV hN hO hs hM (by omega) (nl V) fu 0 r.2 (by omega) (by omega) hr.2) (fun r2 h2 => ⟨h2.1.trans hr.1.symm, inv_fr hI h2.2, h2.2.2.1, h2.2.2.2.1⟩))
      · rw [if_neg o]
        refine wp_pos rfl (wp_ret (wp_gd hO rfl (wp_eq (q_misHeir hV hO hs hM) ?_)))
        unfold bz
        rw [if_pos q]
        refine wp_neg (show ¬ (1 : Int) = 0 by decide) (wp_eq (q_min 1 50) ?_)
        unfold bz
        rw [if_pos p]
        refine wp_neg (show ¬ (1 : Int) = 0 by decide) (wp_eq (q_min 0 1) ?_)
        unfold bz
        rw [if_neg o]
        exact wp_pos rfl (wp_ret ⟨rfl, hI, rfl, rfl⟩)
    · rw [if_neg p]
      refine wp_pos rfl (wp_ret (wp_gd hO rfl (wp_eq (q_misHeir hV hO hs hM) ?_)))
      unfold bz
      rw [if_pos q]
      refine wp_neg (show ¬ (1 : Int) = 0 by decide) (wp_eq (q_min 1 50) ?_)
      unfold bz
      rw [if_neg p]
      exact wp_pos rfl (wp_ret ⟨rfl, hI, rfl, rfl⟩)
  · rw [if_neg q]
    refine wp_pos rfl (wp_ret (wp_gd hO rfl (wp_eq (q_misHeir hV hO hs hM) ?_)))
    unfold bz
    rw [if_neg q]
    exact wp_pos rfl (wp_ret ⟨rfl, hI, rfl, rfl⟩)
end K22
