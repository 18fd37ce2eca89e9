/-! Level 3: calls, nobody as a whole. -/
section K13
variable {L wl dr tx s : Nat} {w : Wd} {V : Vl} {σ : Sg} {x y z Y : Int}
/-- the trial is made of what is now -/
theorem i_trial (hV : VOK V) (hO : Ok L wl dr tx w) (hv : isWi wl) (hW : CW w wl V) (hN : NOW w V Y σ) {w1 : Wd} (f : Fr PS w w1) : Wp (St_copy 44 40 w1) (fun w2 => Fr PS w w2 ∧ CS w2 44 V σ ∧ CW w2 wl V) := by
  have hv' := wi_bd hv
  refine wp_use (c_copy isSt_44 isSt_40 (by omega) (f.ok hO)) (fun w2 g => ?_)
  have f2 : Fr PS w w2 := f.tr (g.1.mono (fun a k q => by unfold PB at q; unfold PS; omega))
  exact ⟨f2, cs_copy hV (hN.2.1.eq (fun a k q1 q2 => f.at a k (by unfold PS; omega))) g.2, hW.eq (fun a k q1 q2 => f2.at a k (by unfold PS; omega))⟩
/-- the reference's copy brings how much is led -/
theorem i_copies45 {w1 : Wd} (hV : VOK V) (hO : Ok L wl dr tx w) (f : Fr PS w w1) (hs : wI w 223 18 = (s : Int)) (hM : MW w s V) (hN : NOW w V Y σ) : Wp (Mo_copies 223 w1) (fun w2 => Fr PS w w2 ∧ MC w2 s V σ (sd V) (-1) (-1) (-1) (-1) ∧ wI w2 256 45 = ((min (yr σ) 400).toNat : Int) ∧ (min (yr σ) 400).toNat ≤ 400) := by
  have h1 := i_same hV f hs hM
  have hy := hN.2.2.2.1.1
  refine wp_use (m_copies hV (f.ok hO) h1.1 h1.2 (hN.2.2.1.eq hV (fun k hk => f.at 255 _ (by unfold PS; omega)))) (fun w2 g => ⟨f.tr (g.1.mono (fun a k q => by unfold PK at q; unfold PS; omega)), g.2.2, ?_, by omega⟩)
  have e := hN.2.2.2.2.1
  rw [g.2.1 45 (by omega), f.at 255 45 (by unfold PS; omega)]
  rw [Nat.zero_add] at e
  rw [e]
  omega
theorem call_nobody (h : INV L w Y) : CALL L w Y (Hh_nobody 6) (Mo_nobody 223) := by
  have hI := h
  obtain ⟨wl, dr, tx, s, V, σ, hO, hv, hdr, hne, hV, hW, hs, hM, hN, -⟩ := h
  unfold CALL Hh_nobody Hh_nobody_0 Mo_nobody Mo_nobody_0
  generalize hFU : FU = fu; have hfu : 1000000 = fu := hFU
  refine wp_gd hO rfl (wp_R11_5 hO (wp_R11_4 hO (wp_call (i_trial hV hO hv hW hN (Fr.rf w)) (fun w1 g => ?_))))
  refine wp_use (c_nb13 (w0 := w) hV hN.1 hv 200 fu 0 w1 (by omega) (by omega) (g.1.ok hO) g.2.2 g.2.1 g.1) (fun r hr => ?_)
  refine wp_gd (hr.2.ok hO) rfl (wp_call (i_copies45 hV hO hr.2 hs hM hN) (fun w2 g2 => ?_))
  exact wp_use (m_nb6 (w0 := w) hV hN.1 200 fu 0 _ w2 (by omega) (by omega) (g2.1.ok hO) g2.2.1 g2.2.2.2 g2.2.2.1 g2.1) (fun r2 h2 => ⟨h2.1.trans hr.1.symm, inv_fr hI h2.2, h2.2.2.1, h2.2.2.2.1⟩)
end K13
