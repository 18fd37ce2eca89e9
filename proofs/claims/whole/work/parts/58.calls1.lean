/-! Level 3: calls, the first. -/
def bz (p : Prop) [Decidable p] : Int := if p then 1 else 0
section K1
variable {L wl dr tx s : Nat} {w : Wd} {V : Vl} {x : Int}
theorem wi_ne {v : Nat} (h : isWi v) : v ≠ 0 := by rcases h with rfl | rfl <;> decide
theorem q_isLetter (hO : Ok L wl dr tx w) (hv : isWi wl) (hW : CW w wl V) : Hh_isLetter 6 x w = some (bz (0 ≤ x ∧ x < (nl V : Int)), w) := by
  refine wp_out ?_
  unfold Hh_isLetter Hh_isLetter_0 Hh_isLetter_19 Hh_isLetter_20 bz
  refine wp_gd hO rfl (wp_ite (fun q => wp_rZr (by decide) (by rw [if_neg (by omega)])) (fun q => wp_R11_3 hO (wi_ne hv) (wp_gI hO (sh_Wi L hv) ?_)))
  rw [hW.1.1]
  exact wp_ite (fun q2 => wp_rZr (by decide) (by rw [if_neg (by omega)])) (fun q2 => wp_rZr (by decide) (by rw [if_pos (by omega)]))
theorem q_misLetter (hV : VOK V) (hO : Ok L wl dr tx w) (hs : wI w 223 18 = (s : Int)) (hW : MW w s V) : Mo_isLetterAt 223 x w = some (bz (0 ≤ x ∧ x < (nl V : Int)), w) := by
  refine wp_out ?_
  have hs1 := hW.1
  have hb := hV.1
  unfold Mo_isLetterAt Mo_isLetterAt_0 Mo_in Mo_in_0 Mo_in_14 Mo_in_15 bz
  refine wp_gd hO rfl (wp_R12_23 hO (wp_gI hO rfl ?_))
  rw [hs]
  refine wp_rI hO rfl (by omega) ?_
  rw [Int.toNat_natCast, hW.2.1.1, w32_id (by omega) (by omega)]
  by_cases q : x < 0
  · rw [if_pos q, if_neg (by omega)]; exact wp_ret rfl
  · rw [if_neg q]
    by_cases q2 : (nl V : Int) - 1 < x
    · rw [if_pos q2, if_neg (by omega)]; exact wp_ret rfl
    · rw [if_neg q2, if_pos (by omega)]; exact wp_ret rfl
theorem q_isHeir (hO : Ok L wl dr tx w) (hv : isWi wl) (hW : CW w wl V) : Hh_isHeir 6 x w = some (bz (0 ≤ x ∧ x < (nh V : Int)), w) := by
  refine wp_out ?_
  unfold Hh_isHeir Hh_isHeir_0 Hh_isHeir_19 Hh_isHeir_20 bz
  refine wp_gd hO rfl (wp_ite (fun q => wp_rZr (by decide) (by rw [if_neg (by omega)])) (fun q => wp_R11_3 hO (wi_ne hv) (wp_gI hO (sh_Wi L hv) ?_)))
  rw [hW.1.2.1]
  exact wp_ite (fun q2 => wp_rZr (by decide) (by rw [if_neg (by omega)])) (fun q2 => wp_rZr (by decide) (by rw [if_pos (by omega)]))
theorem q_misHeir (hV : VOK V) (hO : Ok L wl dr tx w) (hs : wI w 223 18 = (s : Int)) (hW : MW w s V) : Mo_isHeir 223 x w = some (bz (0 ≤ x ∧ x < (nh V : Int)), w) := by
  refine wp_out ?_
  have hs1 := hW.1
  have hb := hV.2.1
  unfold Mo_isHeir Mo_isHeir_0 Mo_in Mo_in_0 Mo_in_14 Mo_in_15 bz
  refine wp_gd hO rfl (wp_R12_25 hO (wp_gI hO rfl ?_))
  rw [hs]
  refine wp_rI hO rfl (by omega) ?_
  rw [Int.toNat_natCast, hW.2.1.2.1, w32_id (by omega) (by omega)]
  by_cases q : x < 0
  · rw [if_pos q, if_neg (by omega)]; exact wp_ret rfl
  · rw [if_neg q]
    by_cases q2 : (nh V : Int) - 1 < x
    · rw [if_pos q2, if_neg (by omega)]; exact wp_ret rfl
    · rw [if_neg q2, if_pos (by omega)]; exact wp_ret rfl
theorem q_isMaster (hO : Ok L wl dr tx w) (hv : isWi wl) (hW : CW w wl V) : Hh_isMaster 6 x w = some (bz (0 ≤ x ∧ x < (nm V : Int)), w) := by
  refine wp_out ?_
  unfold Hh_isMaster Hh_isMaster_0 Hh_isMaster_19 Hh_isMaster_20 bz
  refine wp_gd hO rfl (wp_ite (fun q => wp_rZr (by decide) (by rw [if_neg (by omega)])) (fun q => wp_R11_3 hO (wi_ne hv) (wp_gI hO (sh_Wi L hv) ?_)))
  rw [hW.1.2.2.1]
  exact wp_ite (fun q2 => wp_rZr (by decide) (by rw [if_neg (by omega)])) (fun q2 => wp_rZr (by decide) (by rw [if_pos (by omega)]))
theorem q_misMaster (hV : VOK V) (hO : Ok L wl dr tx w) (hs : wI w 223 18 = (s : Int)) (hW : MW w s V) : Mo_isMaster 223 x w = some (bz (0 ≤ x ∧ x < (nm V : Int)), w) := by
  refine wp_out ?_
  have hs1 := hW.1
  have hb := hV.2.2.1
  unfold Mo_isMaster Mo_isMaster_0 Mo_in Mo_in_0 Mo_in_14 Mo_in_15 bz
  refine wp_gd hO rfl (wp_R12_29 hO (wp_gI hO rfl ?_))
  rw [hs]
  refine wp_rI hO rfl (by omega) ?_
  rw [Int.toNat_natCast, hW.2.1.2.2.1, w32_id (by omega) (by omega)]
  by_cases q : x < 0
  · rw [if_pos q, if_neg (by omega)]; exact wp_ret rfl
  · rw [if_neg q]
    by_cases q2 : (nm V : Int) - 1 < x
    · rw [if_pos q2, if_neg (by omega)]; exact wp_ret rfl
    · rw [if_neg q2, if_pos (by omega)]; exact wp_ret rfl
theorem q_within (a b : Int) : Hh_isWithin x a b w = some (bz (a ≤ x ∧ x ≤ b), w) := by
  refine wp_out ?_
  unfold Hh_isWithin Hh_isWithin_0 Hh_isWithin_14 Hh_isWithin_15 bz
  exact wp_ite (fun q => wp_rZr (by decide) (by rw [if_neg (by omega)])) (fun q => wp_ite (fun q2 => wp_rZr (by decide) (by rw [if_neg (by omega)])) (fun q2 => wp_rZr (by decide) (by rw [if_pos (by omega)])))
theorem q_min (a b : Int) : Mo_in x a b w = some (bz (a ≤ x ∧ x ≤ b), w) := by
  refine wp_out ?_
  unfold Mo_in Mo_in_0 Mo_in_14 Mo_in_15 bz
  exact wp_ite (fun q => wp_rZr (by decide) (by rw [if_neg (by omega)])) (fun q => wp_ite (fun q2 => wp_rZr (by decide) (by rw [if_neg (by omega)])) (fun q2 => wp_rZr (by decide) (by rw [if_pos (by omega)])))
theorem q_orNobody (z : Int) : Mo_orNobody z w = some (cow z, w) := by
  unfold Mo_orNobody Mo_orNobody_0 Mo_orNobody_10 cow
  by_cases q : 0 ≤ z
  · rw [if_pos q, if_neg (by omega)]
  · rw [if_neg q, if_pos (by omega)]
theorem call_place {Y : Int} (h : INV L w Y) : CALL L w Y (Hh_place 6) (Mo_place 223) := by
  have hI := h
  obtain ⟨wl, dr, tx, s, V, σ, hO, hv, -, -, -, -, -, -, -, -, -, -, -, he, -⟩ := h
  unfold CALL Hh_place Hh_place_0 Mo_place Mo_place_0
  refine wp_gd hO rfl (wp_R11_2 hO (wp_gI hO rfl (wp_ret ?_)))
  exact wp_gd hO rfl (wp_gI hO rfl (wp_ret ⟨he.symm, hI, rfl, rfl⟩))
theorem call_hand {Y : Int} (h : INV L w Y) : CALL L w Y (Hh_hand 6 x) (Mo_hand 223 x) := by
  have hI := h
  obtain ⟨wl, dr, tx, s, V, σ, hO, hv, hdr, hne, hV, hW, hs, hM, hN, -⟩ := h
  have h6 := hV.1
  unfold CALL Hh_hand Hh_hand_0 Mo_hand Mo_hand_0 Hh_hand_21 Mo_hand_18
  refine wp_gd hO rfl (wp_eq (q_isLetter hO hv hW) ?_)
  unfold bz
  by_cases q : 0 ≤ x ∧ x < (nl V : Int)
  · rw [if_pos q]
    obtain ⟨l, rfl⟩ := Int.eq_ofNat_of_zero_le q.1
    have hl : l < nl V := by omega
    refine wp_neg (show ¬ (1 : Int) = 0 by decide) (wp_R11_4 hO (wp_R9_3 hO isSt_40 (wp_rI hO (sh_St_3 L isSt_40) (by omega) (wp_ret ?_))))
    refine wp_gd hO rfl (wp_eq (q_misLetter hV hO hs hM) ?_)
    unfold bz
    rw [if_pos q]
    refine wp_neg (show ¬ (1 : Int) = 0 by decide) (wp_R12_49 hO (wp_rI hO rfl (by omega) (wp_ret ⟨?_, hI, rfl, rfl⟩)))
    show wI w 255 (l : Int).toNat = wI w 41 (l : Int).toNat
    rw [Int.toNat_natCast]
    have e1 := hN.2.1.2.2.2.1 l hl
    have e2 := hN.2.2.1.2.2.2.1 l hl
    rw [Nat.zero_add] at e2
    exact e2.trans e1.symm
  · rw [if_neg q]
    refine wp_pos rfl (wp_ret (wp_gd hO rfl (wp_eq (q_misLetter hV hO hs hM) ?_)))
    unfold bz
    rw [if_neg q]
    exact wp_pos rfl (wp_ret ⟨rfl, hI, rfl, rfl⟩)
theorem call_judge {Y : Int} (h : INV L w Y) : CALL L w Y (Hh_judge 6) (Mo_judge 223) := by
  have hI := h
  obtain ⟨wl, dr, tx, s, V, σ, hO, hv, hdr, hne, hV, hW, hs, hM, hN, -⟩ := h
  have hv' := wi_bd hv
  unfold CALL Hh_judge Hh_judge_0 Mo_judge Mo_judge_0
  refine wp_gd hO rfl (wp_R11_10 hO (wp_R11_3 hO (wi_ne hv) (wp_R11_4 hO (wp_R11_3 hO (wi_ne hv) (wp_gI hO (sh_Wi L hv) ?_)))))
  rw [hW.1.2.2.2.2.2]
  refine wp_call (c_given hV hN.1 hv isSt_40 hO hW hN.2.1) (fun r hr => wp_ret ?_)
  have f1 : Fr PS w r.2 := hr.2.mono (fun a k q => by unfold PC2 PV at q; unfold PS; omega)
  have hO1 := f1.ok hO
  have n1 : ∀ a k, 202 ≤ a → a ≠ 223 ∨ k = 18 → a ≤ 252 ∨ a = 255 → wI r.2 a k = wI w a k := fun a k q1 q2 q3 => f1.at a k (by unfold PS; omega)
  refine wp_gd hO1 rfl (wp_call (m_copies hV hO1 ((n1 223 18 (by omega) (by omega) (by omega)).trans hs) (hM.eq (fun a k q1 q2 => n1 a k (by omega) (by omega) (by omega))) (hN.2.2.1.eq hV (fun k hk => n1 255 _ (by omega) (by omega) (by omega)))) (fun w2 g => ?_))
  have f2 : Fr PS w w2 := f1.tr (g.1.mono (fun a k q => by unfold PK at q; unfold PS; omega))
  refine wp_call (m_judged hV hN.1 (f2.ok hO) g.2.2) (fun r2 h2 => ?_)
  have f3 : Fr PS w r2.2 := f2.tr (h2.2.1.mono (fun a k q => by unfold PM2 at q; unfold PS; omega))
  refine wp_eq (q_orNobody _) (wp_ret ⟨?_, inv_fr hI f3, f3.2.1, f3.2.2.1⟩)
  show cow r2.1 = r.1
  rw [h2.1, hr.1]
end K1
