/-! Level 3: calls, heir. -/
section K10
variable {L wl dr tx s : Nat} {w : Wd} {V : Vl} {σ : Sg} {x y z Y : Int}
theorem lrn_eq {a : Nat} {d : Int} {oL : Int} : (if nl V = 0 then -1 else if (a : Int) = -1 then oL else lrn V σ a d) = lrn V σ a d := by
  by_cases q : nl V = 0
  · unfold lrn; rw [if_pos q, if_pos q]
  · rw [if_neg q, if_neg (by omega)]
theorem m_heir {a : Nat} {w1 : Wd} {zz : Int} (hI : INV L w Y) (hV : VOK V) (hO : Ok L wl dr tx w) (f : Fr PS w w1) (hs : wI w 223 18 = (s : Int)) (hM : MW w s V) (hN : NOW w V Y σ) (ha' : a < nh V) (v : Int) (hv : v = if zz = 0 then sk V a else if zz = 1 then tr V a else if zz = 2 then uall V σ (sd V) (-1) a else if zz = 3 then ha σ a else if zz = 4 then cow (lrn V σ a 0) else -1) :
    Wp (Mo_heir 223 (a : Int) zz w1) (fun q => q.1 = v ∧ INV L q.2 Y ∧ wn q.2 = wn w ∧ wz q.2 = wz w) := by
  have h7 := hV.2.1
  have hO1 := f.ok hO
  have h1 := i_same hV f hs hM
  have hs1 := hM.1
  unfold Mo_heir Mo_heir_0
  refine wp_gd hO1 rfl (wp_eq (q_misHeir hV hO1 h1.1 h1.2) ?_)
  unfold bz
  rw [if_pos (show 0 ≤ (a : Int) ∧ (a : Int) < (nh V : Int) by omega)]
  refine wp_neg (show ¬ (1 : Int) = 0 by decide) (wp_call (i_copies hV hO f hs hM hN) (fun w2 g2 => ?_))
  have hO2 := g2.1.ok hO
  have fin : ∀ w3, Fr PS w w3 → INV L w3 Y ∧ wn w3 = wn w ∧ wz w3 = wz w := fun w3 f3 => ⟨inv_fr hI f3, f3.2.1, f3.2.2.1⟩
  have e1 : w32 (w32 (6 * (s : Int)) + (a : Int)) = ((6 * s + a : Nat) : Int) := by
    rw [w32_id (z := 6 * (s : Int)) (by omega) (by omega), w32_id (by omega) (by omega)]; omega
  refine wp_ite (fun q0 => ?_) (fun q0 => ?_)
  · rw [if_pos q0] at hv
    refine wp_R12_26 hO2 (wp_gI hO2 rfl ?_)
    rw [g2.2.1, e1]
    refine wp_rI hO2 rfl (by omega) (wp_ret ⟨?_, fin w2 g2.1⟩)
    rw [Int.toNat_natCast, hv]
    exact (g2.2.2.1.2.2.1 a ha').1
  rw [if_neg q0] at hv
  refine wp_ite (fun q1 => ?_) (fun q1 => ?_)
  · rw [if_pos q1] at hv
    refine wp_R12_27 hO2 (wp_gI hO2 rfl ?_)
    rw [g2.2.1, e1]
    refine wp_rI hO2 rfl (by omega) (wp_ret ⟨?_, fin w2 g2.1⟩)
    rw [Int.toNat_natCast, hv]
    exact (g2.2.2.1.2.2.1 a ha').2
  rw [if_neg q1] at hv
  refine wp_ite (fun q2 => ?_) (fun q2 => ?_)
  · rw [if_pos q2] at hv
    refine wp_call (m_unlikeAll hV hN.1 hO2 g2.2 ha') (fun r hr => wp_ret ⟨hr.1.trans hv.symm, fin _ (g2.1.tr (hr.2.mono (fun a k q => by unfold PM1 at q; unfold PS; omega)))⟩)
  rw [if_neg q2] at hv
  refine wp_ite (fun q3 => ?_) (fun q3 => ?_)
  · rw [if_pos q3] at hv
    have e2 : w32 (46 + (a : Int)) = ((46 + a : Nat) : Int) := by rw [w32_id (by omega) (by omega)]; omega
    rw [e2]
    refine wp_R12_50 hO2 (wp_rI hO2 rfl (by omega) (wp_ret ⟨?_, fin w2 g2.1⟩))
    have e3 := g2.2.2.2.1.2.2.2.2.2 a ha'
    rw [Nat.zero_add] at e3
    rw [Int.toNat_natCast, hv]
    exact e3
  rw [if_neg q3] at hv
  refine wp_ite (fun q4 => ?_) (fun q4 => ?_)
  · rw [if_pos q4] at hv
    refine wp_call (m_learns hV hN.1 hO2 g2.2 ha') (fun r hr => ?_)
    have er : r.1 = lrn V σ a 0 := hr.1.trans lrn_eq
    have f3 : Fr PS w r.2 := g2.1.tr (hr.2.mono (fun a k q => by unfold PM1 at q; unfold PS; omega))
    unfold Mo_heir_114
    refine wp_ite (fun p => ?_) (fun p => wp_ret ⟨?_, fin _ f3⟩)
    · refine wp_call (m_learns hV hN.1 (f3.ok hO) (g2.2.fr hV hr.2) ha') (fun r4 h4 => wp_ret ⟨?_, fin _ (f3.tr (h4.2.mono (fun a k q => by unfold PM1 at q; unfold PS; omega)))⟩)
      show r4.1 = v
      rw [h4.1, lrn_eq, hv, cow_nn (by omega)]
    · show (-2 : Int) = v
      rw [hv]
      unfold cow
      rw [if_pos (by omega)]
  · rw [if_neg q4] at hv
    exact wp_ret ⟨hv.symm, fin w2 g2.1⟩
end K10
