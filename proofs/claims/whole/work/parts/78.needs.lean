/-! Level 3: calls, needs and bestLetter. -/
def tch (V : Vl) (σ : Sg) (h : Nat) (D : Nat → Nat) : Nat → Sg
  | 0 => σ
  | l + 1 => put (tch V σ h D l) h l (near (sp (tch V σ h D l) h l) (hd (tch V σ h D l) l) ((D l : Int) * sk V h))
theorem sok_tch {V : Vl} {σ : Sg} {h : Nat} {D : Nat → Nat} (hV : VOK V) (hK : SOK V σ) (hh : h < nh V) : ∀ l, l ≤ nl V → SOK V (tch V σ h D l)
  | 0, _ => hK
  | l + 1, hl => by
    have ih := sok_tch (D := D) hV hK hh l (by omega)
    exact ih.put (near_bd (ih.2.1 h hh l (by omega)) (ih.1 l (by omega)) (Int.mul_nonneg (by omega) (hV.2.2.2.2.1 h hh).1.1))
def nds (V : Vl) (σ : Sg) (h : Nat) : Nat → Nat → Int
  | 0, _ => -2
  | r + 1, d => if jdg V (tch V σ h (pda (pC V σ h) (nl V) d) (nl V)) (sd V) = (h : Int) then (d : Int) else nds V σ h r (d + 1)
theorem pda_le (C : Nat → Nat → Int) (N d l : Nat) : pda C N d l ≤ d := Nat.le_trans (md_le C N _ _) (lf_le C N d l)
def btm (V : Vl) (σ : Sg) (h l : Nat) : Nat → Int
  | 0 => 0
  | n + 1 => if ow (yit V (h : Int) (l : Int) σ (n + 1)) = (h : Int) then w32 (btm V σ h l n + 1) else btm V σ h l n
def bst (V : Vl) (σ : Sg) (h N : Nat) : Nat → Int × Int
  | 0 => (-2, -2)
  | l + 1 => if (bst V σ h N l).2 < btm V σ h l N then ((l : Int), btm V σ h l N) else bst V σ h N l
section K21
variable {L wl dr tx s : Nat} {w w0 : Wd} {V : Vl} {σ : Sg} {x y z Y : Int} {h : Nat}
theorem c_nd49 {Q : Int × Wd → Prop} {k12 : Nat → Int → Int → Wd → Option (Int × Wd)} {D : Nat → Nat} {d : Int} (hV : VOK V) (hK : SOK V σ) (hv : isWi wl) (hh : h < nh V) (hD : ∀ l, D l ≤ 12) (kk : ∀ w1, Fr PS w0 w1 → CS w1 44 V (tch V σ h D (nl V)) → Wp (Hh_needs_94 k12 6 (h : Int) d w1) Q) : ∀ (r m l : Nat) (w : Wd), l + r = nl V → r < m → Ok L wl dr tx w → CW w wl V → CS w 44 V (tch V σ h D l) → (∀ j, j < nl V → wI w 187 j = (D j : Int)) → Fr PS w0 w → Wp (Hh_needs_49 k12 m 6 (h : Int) d (l : Int) w) Q
  | r, 0, l, w, _, hm, _, _, _, _, _ => absurd hm (by omega)
  | 0, m + 1, l, w, hr, hm, hO, hW, hS, hZ, hF => by
    rw [Hh_needs_49]
    refine wp_R11_3 hO (wi_ne hv) (wp_gI hO (sh_Wi L hv) ?_)
    rw [hW.1.1]
    refine wp_pos (by omega) (kk w hF ?_)
    rw [show nl V = l by omega]
    exact hS
  | r + 1, m + 1, l, w, hr, hm, hO, hW, hS, hZ, hF => by
    have hv' := wi_bd hv
    have h6 := hV.1
    have h6' := hV.2.1
    have hsk := (hV.2.2.2.2.1 h hh).1
    have hmul := mul_bd (n := D l) (by have := hD l; omega) hsk
    rw [Hh_needs_49]
    refine wp_R11_3 hO (wi_ne hv) (wp_gI hO (sh_Wi L hv) ?_)
    rw [hW.1.1]
    refine wp_neg (by omega) (wp_R11_5 hO (wp_R11_11 hO (wp_R5_0 hO (wp_rI hO rfl (by omega) (wp_R11_3 hO (wi_ne hv) (wp_R10_8 hO hv (wp_rI hO (sh_Wi_8 L hv) (by omega) ?_)))))))
    rw [Int.toNat_natCast, Int.toNat_natCast, hZ l (by omega), (hW.2.1 h hh).1, w32_id (z := (D l : Int) * sk V h) (by omega) (by omega)]
    refine wp_eq (c_teach hV (sok_tch hV hK hh l (by omega)) hO isSt_44 hS hh (by omega) (by omega)) ?_
    have hS2 := hS.put (z := near (sp (tch V σ h D l) h l) (hd (tch V σ h D l) l) ((D l : Int) * sk V h)) hV (show l < nl V by omega) (h := h)
    generalize hw2 : sI w (44 + 2) (6 * h + l) (near (sp (tch V σ h D l) h l) (hd (tch V σ h D l) l) ((D l : Int) * sk V h)) = w2 at hS2 ⊢
    have n2 : ∀ a k, a ≠ 46 → wI w2 a k = wI w a k := fun a k q => by rw [← hw2, wI_ne (by omega)]
    rw [w32_id (z := (l : Int) + 1) (by omega) (by omega), show (l : Int) + 1 = ((l + 1 : Nat) : Int) by omega]
    exact c_nd49 hV hK hv hh hD kk r m (l + 1) w2 (by omega) (by omega) (by rw [← hw2]; exact hO.sI) (hW.eq (fun a k q1 q2 => n2 a k (by omega))) hS2 (fun j hj => (n2 187 j (by omega)).trans (hZ j hj)) (by rw [← hw2]; exact hF.sI (by unfold PS; omega))
theorem c_nd12 (hV : VOK V) (hN : NOW w0 V Y σ) (hv : isWi wl) (hO0 : Ok L wl dr tx w0) (hW0 : CW w0 wl V) (hh : h < nh V) : ∀ (r m d : Nat) (w : Wd), d + r = 13 → r < m → Fr PS w0 w → Wp (Hh_needs_12 m 6 (h : Int) (d : Int) w) (fun q => q.1 = nds V σ h r d ∧ Fr PS w0 q.2)
  | r, 0, d, w, _, hm, _ => absurd hm (by omega)
  | 0, m + 1, d, w, hr, hm, hF => by
    rw [Hh_needs_12]
    exact wp_pos (by omega) (wp_ret ⟨rfl, hF⟩)
  | r + 1, m + 1, d, w, hr, hm, hF => by
    have hv' := wi_bd hv
    have hO := hF.ok hO0
    have hW : CW w wl V := hW0.eq (fun a k q1 q2 => hF.at a k (by unfold PS; omega))
    have hS : CS w 40 V σ := hN.2.1.eq (fun a k q1 q2 => hF.at a k (by unfold PS; omega))
    rw [Hh_needs_12]
    refine wp_neg (by omega) (wp_R11_11 hO (wp_R11_3 hO (wi_ne hv) (wp_R11_4 hO (wp_call (c_lay hV hN.1 hv isSt_40 hO hW hS hh (by omega)) (fun r1 h1 => ?_)))))
    have f1 : Fr PS w0 r1.2 := hF.tr (h1.2.1.mono (fun a k q => by unfold PP at q; unfold PS; omega))
    have hO1 := f1.ok hO0
    refine wp_R11_5 hO1 (wp_R11_4 hO1 (wp_call (c_copy isSt_44 isSt_40 (by omega) hO1) (fun w2 g => ?_)))
    have f2 : Fr PS w0 w2 := f1.tr (g.1.mono (fun a k q => by unfold PB at q; unfold PS; omega))
    have hO2 := f2.ok hO0
    have hW2 : CW w2 wl V := hW0.eq (fun a k q1 q2 => f2.at a k (by unfold PS; omega))
    have hS2 : CS w2 44 V σ := cs_copy hV (hN.2.1.eq (fun a k q1 q2 => f1.at a k (by unfold PS; omega))) g.2
    have e : nds V σ h (r + 1) d = if jdg V (tch V σ h (pda (pC V σ h) (nl V) d) (nl V)) (sd V) = (h : Int) then (d : Int) else nds V σ h r (d + 1) := rfl
    generalize hFU : FU = fu
    have hfu : 1000000 = fu := hFU
    refine c_nd49 (w0 := w0) (D := pda (pC V σ h) (nl V) d) hV hN.1 hv hh (fun l => by have := pda_le (pC V σ h) (nl V) d l; omega) (fun w3 f3 hS3 => ?_) (nl V) fu 0 w2 (by omega) (by have := hV.1; omega) hO2 hW2 hS2 (fun j hj => (g.1.at 187 j (by unfold PB; omega)).trans (h1.2.2 j hj)) f2
    have hO3 := f3.ok hO0
    have hW3 : CW w3 wl V := hW0.eq (fun a k q1 q2 => f3.at a k (by unfold PS; omega))
    unfold Hh_needs_94
    refine wp_R11_10 hO3 (wp_R11_3 hO3 (wi_ne hv) (wp_R11_5 hO3 (wp_R11_3 hO3 (wi_ne hv) (wp_gI hO3 (sh_Wi L hv) ?_))))
    rw [hW3.1.2.2.2.2.2]
    refine wp_call (c_given hV (sok_tch hV hN.1 hh _ (by omega)) hv isSt_44 hO3 hW3 hS3) (fun r4 h4 => ?_)
    have f4 : Fr PS w0 r4.2 := f3.tr (h4.2.mono (fun a k q => by unfold PC2 PV at q; unfold PS; omega))
    have ec : r4.1 = cow (jdg V (tch V σ h (pda (pC V σ h) (nl V) d) (nl V)) (sd V)) := h4.1
    refine wp_ite (fun q => wp_ret ⟨?_, f4⟩) (fun q => ?_)
    · rw [e, if_pos (cow_is.mp (ec ▸ q))]
    · rw [e, if_neg (fun p => q (ec ▸ cow_is.mpr p)), w32_id (z := (d : Int) + 1) (by omega) (by omega), show (d : Int) + 1 = ((d + 1 : Nat) : Int) by omega]
      exact c_nd12 hV hN hv hO0 hW0 hh r m (d + 1) r4.2 (by omega) (by omega) f4
theorem m_nd31 {Q : Int × Wd → Prop} {k12 : Nat → Int → Int → Wd → Option (Int × Wd)} {D : Nat → Nat} {d : Int} (hV : VOK V) (hK : SOK V σ) (hh : h < nh V) (hD : ∀ l, D l ≤ 12) (kk : ∀ w1, Ok L wl dr tx w1 → Fr PS w0 w1 → MC w1 s V (tch V σ h D (nl V)) (sd V) (-1) (-1) (-1) (-1) → Wp (Mo_needs_62 k12 223 (h : Int) d w1) Q) : ∀ (r m l : Nat) (w : Wd), l + r = nl V → r < m → Ok L wl dr tx w → MC w s V (tch V σ h D l) (sd V) (-1) (-1) (-1) (-1) → (∀ j, j < nl V → wI w 261 j = (D j : Int)) → Fr PS w0 w → Wp (Mo_needs_31 k12 m 223 (h : Int) d (l : Int) w) Q
  | r, 0, l, w, _, hm, _, _, _, _ => absurd hm (by omega)
  | 0, m + 1, l, w, hr, hm, hO, hM, hZ, hF => by
    have hs1 := hM.2.1.1
    rw [Mo_needs_31]
    refine wp_R12_23 hO (wp_gI hO rfl ?_)
    rw [hM.1]
    refine wp_rI hO rfl (by omega) ?_
    rw [Int.toNat_natCast, hM.2.1.2.1.1]
    refine wp_pos (by omega) (kk w hO hF ?_)
    rw [show nl V = l by omega]
    exact hM
  | r + 1, m + 1, l, w, hr, hm, hO, hM, hZ, hF => by
    have hs1 := hM.2.1.1
    have h6 := hV.1
    rw [Mo_needs_31]
    refine wp_R12_23 hO (wp_gI hO rfl ?_)
    rw [hM.1]
    refine wp_rI hO rfl (by omega) ?_
    rw [Int.toNat_natCast, hM.2.1.2.1.1]
    refine wp_neg (by omega) (wp_R12_61 hO (wp_rI hO rfl (by omega) ?_))
    rw [Int.toNat_natCast, hZ l (by omega)]
    refine wp_call (m_lessons hV (sok_tch hV hK hh l (by omega)) hO hM hh (by omega) (by have := hD l; omega)) (fun w1 g => ?_)
    rw [w32_id (z := (l : Int) + 1) (by omega) (by omega), show (l : Int) + 1 = ((l + 1 : Nat) : Int) by omega]
    exact m_nd31 hV hK hh hD kk r m (l + 1) w1 (by omega) (by omega) (g.1.ok hO) g.2.2 (fun j hj => (g.1.at 261 j (by unfold PR; omega)).trans (hZ j hj)) (hF.tr (g.1.mono (fun a k q => by unfold PR at q; unfold PS; omega)))
theorem m_nd12 (hV : VOK V) (hN : NOW w0 V Y σ) (hO0 : Ok L wl dr tx w0) (hs : wI w0 223 18 = (s : Int)) (hM0 : MW w0 s V) (hh : h < nh V) : ∀ (r m d : Nat) (w : Wd), d + r = 13 → r < m → Fr PS w0 w → Wp (Mo_needs_12 m 223 (h : Int) (d : Int) w) (fun q => q.1 = nds V σ h r d ∧ Fr PS w0 q.2)
  | r, 0, d, w, _, hm, _ => absurd hm (by omega)
  | 0, m + 1, d, w, hr, hm, hF => by
    rw [Mo_needs_12]
    exact wp_pos (by omega) (wp_ret ⟨rfl, hF⟩)
  | r + 1, m + 1, d, w, hr, hm, hF => by
    rw [Mo_needs_12]
    refine wp_neg (by omega) (wp_call (i_copies hV hO0 hF hs hM0 hN) (fun w1 g1 => ?_))
    refine wp_call (m_plans hV hN.1 (g1.1.ok hO0) g1.2 hh (by omega)) (fun r2 g2 => ?_)
    have f2 : Fr PS w0 r2.2 := g1.1.tr (g2.2.1.mono (fun a k q => by unfold PMP at q; unfold PS; omega))
    have e : nds V σ h (r + 1) d = if jdg V (tch V σ h (pda (pC V σ h) (nl V) d) (nl V)) (sd V) = (h : Int) then (d : Int) else nds V σ h r (d + 1) := rfl
    generalize hFU : FU = fu
    have hfu : 1000000 = fu := hFU
    refine m_nd31 (w0 := w0) (D := pda (pC V σ h) (nl V) d) hV hN.1 hh (fun l => by have := pda_le (pC V σ h) (nl V) d l; omega) (fun w3 hO3 f3 hM3 => ?_) (nl V) fu 0 r2.2 (by omega) (by have := hV.1; omega) (f2.ok hO0) (mc_frp hV g1.2 g2.2.1) g2.2.2 f2
    unfold Mo_needs_62
    refine wp_call (m_judged hV (sok_tch hV hN.1 hh _ (by omega)) hO3 hM3) (fun r4 h4 => ?_)
    have f4 : Fr PS w0 r4.2 := f3.tr (h4.2.1.mono (fun a k q => by unfold PM2 at q; unfold PS; omega))
    have ec : r4.1 = jdg V (tch V σ h (pda (pC V σ h) (nl V) d) (nl V)) (sd V) := h4.1
    refine wp_ite (fun q => wp_ret ⟨?_, f4⟩) (fun q => ?_)
    · rw [e, if_pos (ec ▸ q)]
    · rw [e, if_neg (fun p => q (ec ▸ p)), w32_id (z := (d : Int) + 1) (by omega) (by omega), show (d : Int) + 1 = ((d + 1 : Nat) : Int) by omega]
      exact m_nd12 hV hN hO0 hs hM0 hh r m (d + 1) r4.2 (by omega) (by omega) f4
theorem call_needs (h : INV L w Y) : CALL L w Y (Hh_needs 6 x) (Mo_needs 223 x) := by
  have hI := h
  obtain ⟨wl, dr, tx, s, V, σ, hO, hv, hdr, hne, hV, hW, hs, hM, hN, -⟩ := h
  unfold CALL Hh_needs Hh_needs_0 Mo_needs Mo_needs_0
  generalize hFU : FU = fu; have hfu : 1000000 = fu := hFU
  refine wp_gd hO rfl (wp_eq (q_isHeir hO hv hW) ?_)
  unfold bz
  by_cases q : 0 ≤ x ∧ x < (nh V : Int)
  · rw [if_pos q]
    obtain ⟨a, rfl⟩ := Int.eq_ofNat_of_zero_le q.1
    refine wp_neg (show ¬ (1 : Int) = 0 by decide) (wp_use (c_nd12 (w0 := w) hV hN hv hO hW (by omega) 13 fu 0 w (by omega) (by omega) (Fr.rf w)) (fun r hr => ?_))
    have h1 := i_same hV hr.2 hs hM
    refine wp_gd (hr.2.ok hO) rfl (wp_eq (q_misHeir hV (hr.2.ok hO) h1.1 h1.2) ?_)
    unfold bz
    rw [if_pos q]
    refine wp_neg (show ¬ (1 : Int) = 0 by decide) (wp_use (m_nd12 (w0 := w) hV hN hO hs hM (by omega) 13 fu 0 r.2 (by omega) (by omega) hr.2) (fun r2 h2 => ⟨h2.1.trans hr.1.symm, inv_fr hI h2.2, h2.2.2.1, h2.2.2.2.1⟩))
  · rw [if_neg q]
    refine wp_pos rfl (wp_ret (wp_gd hO rfl (wp_eq (q_misHeir hV hO hs hM) ?_)))
    unfold bz
    rw [if_neg q]
    exact wp_pos rfl (wp_ret ⟨rfl, hI, rfl, rfl⟩)
end K21
