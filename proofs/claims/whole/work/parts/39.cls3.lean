/-! Level 3, the class: sums, choices, the award. -/
section C3
variable {L wl dr tx b v : Nat} {V : Vl} {σ : Sg} {U : Nat → Nat → Int} {w : Wd}
theorem c_sum6 {h : Nat} {no : Int} (hV : VOK V) (hv : isWi v) (hO : Ok L wl dr tx w) (hW : CW w v V) (hU : UN w V U) (hh : h < nh V) : ∀ (r n m : Nat), m + r = nm V → r < n → Ct_sum_6 n 176 v (h : Int) no (usk (U h) no m) (m : Int) w = some (usk (U h) no (nm V), w)
  | r, 0, m, _, hn => absurd hn (by omega)
  | 0, n + 1, m, hm, hn => by
    refine wp_out ?_
    rw [Ct_sum_6]
    refine wp_gI hO (sh_Wi L hv) ?_
    rw [hW.1.2.2.1]
    refine wp_pos (by omega) (wp_ret ?_)
    rw [show m = nm V by omega]
  | r + 1, n + 1, m, hm, hn => by
    refine wp_out ?_
    have h3 := hV.2.2.1
    have h6 := hV.2.1
    rw [Ct_sum_6]
    refine wp_gI hO (sh_Wi L hv) ?_
    rw [hW.1.2.2.1]
    refine wp_neg (by omega) ?_
    unfold Ct_sum_35
    rw [w32_id (z := (m : Int) + 1) (by omega) (by omega), show (m : Int) + 1 = ((m + 1 : Nat) : Int) by omega]
    have ih := c_sum6 (no := no) hV hv hO hW hU hh r n (m + 1) (by omega) (by omega)
    refine wp_ite (fun q => ?_) (fun q => ?_)
    · have e : usk (U h) no (m + 1) = usk (U h) no m := if_pos q
      rw [e] at ih
      exact wp_is ih rfl
    · have e : usk (U h) no (m + 1) = w32 (usk (U h) no m + U h m) := if_neg q
      rw [e] at ih
      refine wp_R1_0 hO (wp_178 hO (by omega) ?_)
      rw [Int.toNat_natCast]
      refine wp_rI hO (sh_in178 L (by omega)) (by omega) ?_
      rw [Int.toNat_natCast, hU h hh m (by omega)]
      exact wp_is ih rfl
theorem c_sum {h : Nat} {no : Int} (hV : VOK V) (hv : isWi v) (hO : Ok L wl dr tx w) (hW : CW w v V) (hU : UN w V U) (hh : h < nh V) : Ct_sum 176 v (h : Int) no w = some (usk (U h) no (nm V), w) := by
  have h3 := hV.2.2.1
  unfold Ct_sum Ct_sum_0
  rw [ok_gd hO (show (SH L 176).1 = 1 from rfl)]
  generalize hFU : FU = fu; have hfu : 1000000 = fu := hFU
  exact c_sum6 hV hv hO hW hU hh (nm V) fu 0 (by omega) (by omega)
theorem cow_neg {o : Int} : cow o < 0 ↔ o < 0 := by unfold cow; split <;> omega
theorem cow_nn {o : Int} (h : 0 ≤ o) : cow o = o := if_neg (by omega)
theorem c_choice7 {m : Nat} {no : Int} (hV : VOK V) (hv : isWi v) (hO : Ok L wl dr tx w) (hW : CW w v V) (hU : UN w V U) (hm : m < nm V) : ∀ (r n h : Nat), h + r = nh V → r < n → Ct_choice_7 n 176 v (m : Int) no (cow (vo U m no h)) (h : Int) w = some (cow (vo U m no (nh V)), w)
  | r, 0, h, _, hn => absurd hn (by omega)
  | 0, n + 1, h, hh, hn => by
    refine wp_out ?_
    rw [Ct_choice_7]
    refine wp_gI hO (sh_Wi L hv) ?_
    rw [hW.1.2.1]
    refine wp_pos (by omega) (wp_ret ?_)
    rw [show h = nh V by omega]
  | r + 1, n + 1, h, hh, hn => by
    refine wp_out ?_
    have h3 := hV.2.2.1
    have h6 := hV.2.1
    have vb := vo_bd U m no h
    rw [Ct_choice_7]
    refine wp_gI hO (sh_Wi L hv) ?_
    rw [hW.1.2.1]
    refine wp_neg (by omega) ?_
    unfold Ct_choice_48 Ct_choice_52
    rw [w32_id (z := (h : Int) + 1) (by omega) (by omega), show (h : Int) + 1 = ((h + 1 : Nat) : Int) by omega]
    have ih := c_choice7 (no := no) hV hv hO hW hU hm r n (h + 1) (by omega) (by omega)
    have e : vo U m no (h + 1) = if (h : Int) = no then vo U m no h else if vo U m no h < 0 then (h : Int) else if U h m < U (vo U m no h).toNat m then (h : Int) else vo U m no h := rfl
    refine wp_ite (fun q => ?_) (fun q => ?_)
    · rw [if_pos q] at e
      rw [e] at ih
      exact wp_is ih rfl
    rw [if_neg q] at e
    refine wp_ite (fun q2 => ?_) (fun q2 => ?_)
    · rw [if_pos (cow_neg.mp q2)] at e
      rw [e, cow_nn (by omega)] at ih
      exact wp_is ih rfl
    have q3 : ¬ vo U m no h < 0 := fun x => q2 (cow_neg.mpr x)
    rw [if_neg q3] at e
    refine wp_R1_0 hO (wp_178 hO (by omega) ?_)
    rw [Int.toNat_natCast]
    refine wp_rI hO (sh_in178 L (by omega)) (by omega) ?_
    rw [Int.toNat_natCast, hU h (by omega) m hm, cow_nn (o := vo U m no h) (by omega)]
    refine wp_R1_0 hO (wp_178 hO (by omega) ?_)
    refine wp_rI hO (sh_in178 L (by omega)) (by omega) ?_
    rw [Int.toNat_natCast, hU (vo U m no h).toNat (by omega) m hm]
    refine wp_ite (fun q4 => ?_) (fun q4 => ?_)
    · rw [if_neg (by omega)] at e
      rw [e, cow_nn (o := vo U m no h) (by omega)] at ih
      exact wp_is ih rfl
    · rw [if_pos (by omega)] at e
      rw [e, cow_nn (o := (h : Int)) (by omega)] at ih
      exact wp_is ih rfl
theorem c_choice {m : Nat} {no : Int} (hV : VOK V) (hv : isWi v) (hO : Ok L wl dr tx w) (hW : CW w v V) (hU : UN w V U) (hm : m < nm V) : Ct_choice 176 v (m : Int) no w = some (cow (vo U m no (nh V)), w) := by
  have h3 := hV.2.1
  unfold Ct_choice Ct_choice_0
  rw [ok_gd hO (show (SH L 176).1 = 1 from rfl)]
  generalize hFU : FU = fu; have hfu : 1000000 = fu := hFU
  exact c_choice7 hV hv hO hW hU hm (nh V) fu 0 (by omega) (by omega)
/-- the tally as the court keeps it -/
def TL (w : Wd) (V : Vl) (T : Nat → Int) : Prop := ∀ h, h < nh V → wI w 185 h = T h
theorem c_isAhead {h g : Nat} {no : Int} {T : Nat → Int} (hV : VOK V) (hv : isWi v) (hO : Ok L wl dr tx w) (hW : CW w v V) (hU : UN w V U) (hT : TL w V T) (hh : h < nh V) (hg : g < nh V) : Ct_isAhead 176 v (h : Int) (g : Int) no w = some (if (if T h = T g then usk (U h) no (nm V) < usk (U g) no (nm V) else T g < T h) then 1 else 0, w) := by
  refine wp_out ?_
  have h6 := hV.2.1
  unfold Ct_isAhead Ct_isAhead_0
  refine wp_gd hO rfl ?_
  refine wp_R1_2 hO (wp_rI hO rfl (by omega) ?_)
  refine wp_R1_2 hO (wp_rI hO rfl (by omega) ?_)
  rw [Int.toNat_natCast, Int.toNat_natCast, hT h hh, hT g hg]
  refine wp_ite (fun q => ?_) (fun q => ?_)
  · refine wp_eq (c_sum hV hv hO hW hU hh) (wp_eq (c_sum hV hv hO hW hU hg) ?_)
    unfold Ct_isAhead_60
    refine wp_ite (fun q2 => wp_rZr (by decide) ?_) (fun q2 => wp_rZr (by decide) ?_)
    · have q3 : usk (U g) no (nm V) ≤ usk (U h) no (nm V) := q2
      rw [if_neg (fun p => by rw [if_pos q] at p; omega)]
    · have q3 : ¬ usk (U g) no (nm V) ≤ usk (U h) no (nm V) := q2
      rw [if_pos (by rw [if_pos q]; omega)]
  · refine wp_R1_2 hO (wp_rI hO rfl (by omega) ?_)
    refine wp_R1_2 hO (wp_rI hO rfl (by omega) ?_)
    rw [Int.toNat_natCast, Int.toNat_natCast, hT h hh, hT g hg]
    unfold Ct_isAhead_35
    refine wp_ite (fun q2 => wp_rZr (by decide) ?_) (fun q2 => wp_rZr (by decide) ?_)
    · rw [if_neg (fun p => by rw [if_neg q] at p; omega)]
    · rw [if_pos (by rw [if_neg q]; omega)]
theorem c_aw96 {no : Int} {T : Nat → Int} (hV : VOK V) (hv : isWi v) (hO : Ok L wl dr tx w) (hW : CW w v V) (hU : UN w V U) (hT : TL w V T) : ∀ (r n h : Nat), h + r = nh V → r < n → Ct_award_96 n 176 v no (cow (aw T (fun h => usk (U h) no (nm V)) h)) (h : Int) w = some (cow (if 0 ≤ aw T (fun h => usk (U h) no (nm V)) (nh V) ∧ lm V < usk (U (aw T (fun h => usk (U h) no (nm V)) (nh V)).toNat) no (nm V) then -1 else aw T (fun h => usk (U h) no (nm V)) (nh V)), w)
  | r, 0, h, _, hn => absurd hn (by omega)
  | 0, n + 1, h, hh, hn => by
    refine wp_out ?_
    have ab' := aw_bd T (fun h => usk (U h) no (nm V)) h
    rw [Ct_award_96]
    refine wp_gI hO (sh_Wi L hv) ?_
    rw [hW.1.2.1]
    refine wp_pos (by omega) ?_
    have e : h = nh V := by omega
    subst e
    unfold Ct_award_143 Ct_award_168 Ct_award_170
    refine wp_ite (fun q => wp_ret ?_) (fun q => ?_)
    · have := cow_neg.mp q
      rw [if_neg (by omega)]
    · have q1 : ¬ aw T (fun h => usk (U h) no (nm V)) (nh V) < 0 := fun x => q (cow_neg.mpr x)
      rw [cow_nn (o := aw T (fun h => usk (U h) no (nm V)) (nh V)) (by omega)]
      have e2 : aw T (fun h => usk (U h) no (nm V)) (nh V) = (((aw T (fun h => usk (U h) no (nm V)) (nh V)).toNat : Nat) : Int) := by omega
      have es := c_sum (h := (aw T (fun h => usk (U h) no (nm V)) (nh V)).toNat) (no := no) hV hv hO hW hU (by omega)
      rw [← e2] at es
      refine wp_eq es (wp_gI hO (sh_Wi L hv) ?_)
      show Wp (if usk (U (aw T (fun h => usk (U h) no (nm V)) (nh V)).toNat) no (nm V) ≤ wI w v 4 then _ else _) _
      rw [hW.1.2.2.2.2.1]
      refine wp_ite (fun q2 => wp_ret ?_) (fun q2 => wp_ret ?_)
      · rw [if_neg (by omega), cow_nn (by omega)]
      · rw [if_pos (by omega)]; rfl
  | r + 1, n + 1, h, hh, hn => by
    refine wp_out ?_
    have h6 := hV.2.1
    have ab' := aw_bd T (fun h => usk (U h) no (nm V)) h
    rw [Ct_award_96]
    refine wp_gI hO (sh_Wi L hv) ?_
    rw [hW.1.2.1]
    refine wp_neg (by omega) ?_
    refine wp_R1_2 hO (wp_rI hO rfl (by omega) ?_)
    rw [Int.toNat_natCast, hT h (by omega)]
    unfold Ct_award_133 Ct_award_137
    rw [w32_id (z := (h : Int) + 1) (by omega) (by omega), show (h : Int) + 1 = ((h + 1 : Nat) : Int) by omega]
    have ih := c_aw96 (no := no) hV hv hO hW hU hT r n (h + 1) (by omega) (by omega)
    have e : aw T (fun h => usk (U h) no (nm V)) (h + 1) = if 0 < T h ∧ (aw T (fun h => usk (U h) no (nm V)) h < 0 ∨ (if T h = T (aw T (fun h => usk (U h) no (nm V)) h).toNat then usk (U h) no (nm V) < usk (U (aw T (fun h => usk (U h) no (nm V)) h).toNat) no (nm V) else T (aw T (fun h => usk (U h) no (nm V)) h).toNat < T h)) then (h : Int) else aw T (fun h => usk (U h) no (nm V)) h := rfl
    refine wp_ite (fun q => ?_) (fun q => ?_)
    · rw [if_neg (by omega)] at e
      rw [e] at ih
      exact wp_is ih rfl
    refine wp_ite (fun q2 => ?_) (fun q2 => ?_)
    · rw [if_pos ⟨by omega, Or.inl (cow_neg.mp q2)⟩] at e
      rw [e, cow_nn (o := (h : Int)) (by omega)] at ih
      exact wp_is ih rfl
    have q3 : ¬ aw T (fun h => usk (U h) no (nm V)) h < 0 := fun x => q2 (cow_neg.mpr x)
    have e2 : aw T (fun h => usk (U h) no (nm V)) h = (((aw T (fun h => usk (U h) no (nm V)) h).toNat : Nat) : Int) := by omega
    have ea := c_isAhead (h := h) (g := (aw T (fun h => usk (U h) no (nm V)) h).toNat) (no := no) hV hv hO hW hU hT (by omega) (by omega)
    rw [← e2] at ea
    have e3 := cow_nn (o := aw T (fun h => usk (U h) no (nm V)) h) (by omega)
    rw [e3]
    refine wp_eq ea ?_
    show Wp (if (if _ then (1 : Int) else 0) = 0 then _ else _) _
    refine wp_ite (fun q4 => ?_) (fun q4 => ?_)
    · rw [if_neg (fun p => by
        rcases p.2 with p2 | p2
        · exact q3 p2
        · rw [if_pos p2] at q4; cases q4)] at e
      rw [e, e3] at ih
      exact wp_is ih rfl
    · rw [if_pos ⟨by omega, Or.inr (Decidable.byContradiction (fun p => q4 (if_neg p)))⟩] at e
      rw [e, cow_nn (o := (h : Int)) (by omega)] at ih
      exact wp_is ih rfl
theorem UN.eq {w1 : Wd} (hU : UN w V U) (hV : VOK V) (h : ∀ a k, 178 ≤ a → a ≤ 183 → wI w1 a k = wI w a k) : UN w1 V U := fun x hx m hm => (h _ _ (by omega) (by have := hV.2.1; omega)).trans (hU x hx m hm)
theorem c_aw27 {noH no : Int} (hV : VOK V) (hv : isWi v) : ∀ (r n m : Nat) (w : Wd), m + r = nm V → r < n → Ok L wl dr tx w → CW w v V → UN w V U → TL w V (fun h => tl U (nh V) noH no h m) → (∀ j, j < m → wI w 184 j = cow (vo U j noH (nh V))) →
    Wp (Ct_award_27 n 176 v noH no (m : Int) w) (fun r => r.1 = cow (jd U (nh V) (nm V) (lm V) noH no) ∧ Fr PV w r.2 ∧ ∀ j, j < nm V → wI r.2 184 j = cow (vo U j noH (nh V)))
  | r, 0, m, w, _, hn, _, _, _, _, _ => absurd hn (by omega)
  | 0, n + 1, m, w, hm, hn, hO, hW, hU, hT, hJ => by
    rw [Ct_award_27]
    refine wp_gI hO (sh_Wi L hv) ?_
    rw [hW.1.2.2.1]
    refine wp_pos (by omega) ?_
    unfold Ct_award_89
    generalize hFU : FU = fu; have hfu : 1000000 = fu := hFU
    rw [show m = nm V by omega] at hT
    refine wp_is (c_aw96 hV hv hO hW hU hT (nh V) fu 0 (by omega) (by have := hV.2.1; omega)) ⟨rfl, Fr.rf w, fun j hj => hJ j (by omega)⟩
  | r + 1, n + 1, m, w, hm, hn, hO, hW, hU, hT, hJ => by
    have h3 := hV.2.2.1
    have h6 := hV.2.1
    have hv' := wi_bd hv
    have vb := vo_bd U m noH (nh V)
    rw [Ct_award_27]
    refine wp_gI hO (sh_Wi L hv) ?_
    rw [hW.1.2.2.1]
    refine wp_neg (by omega) ?_
    refine wp_R1_1 hO ?_
    refine wp_eq (c_choice hV hv hO hW hU (by omega)) ?_
    refine wp_wI hO rfl (by omega) ?_
    unfold Ct_award_83
    rw [Int.toNat_natCast, w32_id (z := (m : Int) + 1) (by omega) (by omega), show (m : Int) + 1 = ((m + 1 : Nat) : Int) by omega]
    have hF : Fr PV w (sI w 184 m (cow (vo U m noH (nh V)))) := fr_sI (Or.inl rfl)
    have hO1 := hF.ok hO
    have hJ1 : ∀ w2, (∀ k, wI w2 184 k = wI (sI w 184 m (cow (vo U m noH (nh V)))) 184 k) → ∀ j, j < m + 1 → wI w2 184 j = cow (vo U j noH (nh V)) := fun w2 h2 j hj => by
      rw [h2, wI_sI]
      by_cases q : j = m
      · rw [if_pos ⟨rfl, q⟩, q]
      · rw [if_neg (fun p => q p.2)]; exact hJ j (by omega)
    have et : ∀ h, tl U (nh V) noH no h (m + 1) = if (m : Int) ≠ no ∧ vo U m noH (nh V) = (h : Int) then tl U (nh V) noH no h m + 1 else tl U (nh V) noH no h m := fun h => rfl
    have go : ∀ w2, Fr PV w w2 → TL w2 V (fun h => tl U (nh V) noH no h (m + 1)) → (∀ k, wI w2 184 k = wI (sI w 184 m (cow (vo U m noH (nh V)))) 184 k) → Wp (Ct_award_27 n 176 v noH no ((m + 1 : Nat) : Int) w2) (fun r => r.1 = cow (jd U (nh V) (nm V) (lm V) noH no) ∧ Fr PV w r.2 ∧ ∀ j, j < nm V → wI r.2 184 j = cow (vo U j noH (nh V))) := fun w2 f2 t2 j2 =>
      wp_use (c_aw27 hV hv r n (m + 1) w2 (by omega) (by omega) (f2.ok hO) (hW.eq (fun a k q1 q2 => f2.at a k (by unfold PV; omega))) (hU.eq hV (fun a k q1 q2 => f2.at a k (by unfold PV; omega))) t2 (hJ1 w2 j2)) (fun r hr => ⟨hr.1, f2.tr hr.2.1, hr.2.2⟩)
    refine wp_ite (fun q => ?_) (fun q => ?_)
    · refine go _ hF (fun h hh => ?_) (fun k => rfl)
      rw [wI_ne (by omega)]
      show wI w 185 h = tl U (nh V) noH no h (m + 1)
      rw [et h, if_neg (fun p => p.1 q)]
      exact hT h hh
    refine wp_R1_1 hO1 (wp_rI hO1 rfl (by omega) ?_)
    rw [Int.toNat_natCast, wI_eq]
    refine wp_ite (fun q2 => ?_) (fun q2 => ?_)
    · refine go _ hF (fun h hh => ?_) (fun k => rfl)
      rw [wI_ne (by omega)]
      show wI w 185 h = tl U (nh V) noH no h (m + 1)
      rw [et h, if_neg (fun p => by have := cow_neg.mp q2; omega)]
      exact hT h hh
    have q3 : ¬ vo U m noH (nh V) < 0 := fun x => q2 (cow_neg.mpr x)
    refine wp_R1_2 hO1 (wp_R1_1 hO1 (wp_rI hO1 rfl (by omega) ?_))
    rw [Int.toNat_natCast, wI_eq, cow_nn (o := vo U m noH (nh V)) (by omega)]
    refine wp_rI hO1 rfl (by omega) ?_
    rw [wI_ne (by omega), hT _ (by omega)]
    have tb := tl_bd U (nh V) noH no (vo U m noH (nh V)).toNat m
    refine wp_wI hO1 rfl (by omega) ?_
    have hF2 : ∀ z, Fr PV w (sI (sI w 184 m (vo U m noH (nh V))) 185 (vo U m noH (nh V)).toNat z) := fun z => (fr_sI (P := PV) (Or.inl rfl)).sI (Or.inr rfl)
    have go2 := go (sI (sI w 184 m (vo U m noH (nh V))) 185 (vo U m noH (nh V)).toNat (w32 (tl U (nh V) noH no (vo U m noH (nh V)).toNat m + 1))) (hF2 _) (fun h hh => by
      show _ = tl U (nh V) noH no h (m + 1)
      rw [et h, wI_sI]
      by_cases p : h = (vo U m noH (nh V)).toNat
      · have tb2 := tl_bd U (nh V) noH no h m
        rw [if_pos ⟨rfl, p⟩, if_pos ⟨q, by omega⟩, ← p, w32_id (by omega) (by omega)]
      · rw [if_neg (fun x => p x.2), if_neg (by omega), wI_ne (by omega)]
        exact hT h hh) (fun k => by rw [wI_ne (by omega), cow_nn (o := vo U m noH (nh V)) (by omega)])
    exact go2
theorem c_aw3 {noH no : Int} {Q : Int × Wd → Prop} : ∀ (r n k : Nat) (w : Wd), k + r = 6 → r < n → Ok L wl dr tx w → (∀ j, j < k → wI w 185 j = 0) → (∀ w1, Fr PV w w1 → (∀ j, j < 6 → wI w1 185 j = 0) → Wp (Ct_award_24 176 v noH no w1) Q) → Wp (Ct_award_3 n 176 v noH no (k : Int) w) Q
  | r, 0, k, w, _, hn, _, _, _ => absurd hn (by omega)
  | 0, n + 1, k, w, hk, hn, hO, hZ, kk => by
    rw [Ct_award_3]
    exact wp_pos (by omega) (kk w (Fr.rf w) (fun j hj => hZ j (by omega)))
  | r + 1, n + 1, k, w, hk, hn, hO, hZ, kk => by
    rw [Ct_award_3]
    refine wp_neg (by omega) (wp_R1_2 hO (wp_wI hO rfl (by omega) ?_))
    rw [Int.toNat_natCast, w32_id (z := (k : Int) + 1) (by omega) (by omega), show (k : Int) + 1 = ((k + 1 : Nat) : Int) by omega]
    have hF : Fr PV w (sI w 185 k 0) := fr_sI (Or.inr rfl)
    refine c_aw3 r n (k + 1) _ (by omega) (by omega) (hF.ok hO) (fun j hj => ?_) (fun w1 g1 g2 => kk w1 (hF.tr g1) g2)
    rw [wI_sI]
    by_cases q : j = k
    · rw [if_pos ⟨rfl, q⟩]
    · rw [if_neg (fun p => q p.2)]; exact hZ j (by omega)
theorem c_award {noH no : Int} (hV : VOK V) (hv : isWi v) (hO : Ok L wl dr tx w) (hW : CW w v V) (hU : UN w V U) :
    Wp (Ct_award 176 v noH no w) (fun r => r.1 = cow (jd U (nh V) (nm V) (lm V) noH no) ∧ Fr PV w r.2 ∧ ∀ j, j < nm V → wI r.2 184 j = cow (vo U j noH (nh V))) := by
  have h6 := hV.2.1
  have hv' := wi_bd hv
  unfold Ct_award Ct_award_0
  generalize hFU : FU = fu; have hfu : 1000000 = fu := hFU
  refine wp_gd hO rfl ?_
  refine c_aw3 6 fu 0 w (by omega) (by omega) hO (fun j hj => absurd hj (by omega)) (fun w1 g1 g2 => ?_)
  unfold Ct_award_24
  rw [hFU]
  refine wp_use (c_aw27 hV hv (nm V) fu 0 w1 (by omega) (by have := hV.2.2.1; omega) (g1.ok hO) (hW.eq (fun a k q1 q2 => g1.at a k (by unfold PV; omega))) (hU.eq hV (fun a k q1 q2 => g1.at a k (by unfold PV; omega))) (fun h hh => g2 h (by omega)) (fun j hj => absurd hj (by omega))) (fun r hr => ⟨hr.1, g1.tr hr.2.1, hr.2.2⟩)
theorem c_given {s : Int} (hV : VOK V) (hK : SOK V σ) (hv : isWi v) (hb : isSt b) (hO : Ok L wl dr tx w) (hW : CW w v V) (hS : CS w b V σ) :
    Wp (Ct_given 176 v b s w) (fun r => r.1 = cow (jd (ulk V σ s) (nh V) (nm V) (lm V) (-1) (-1)) ∧ Fr (fun a k => PC2 v a k ∨ PV a k) w r.2) := by
  have hv' := wi_bd hv
  unfold Ct_given Ct_given_0
  refine wp_gd hO rfl (wp_call (c_compare hV hK hv hb hO hW hS) (fun w1 g1 => ?_))
  refine wp_call (c_award hV hv (g1.1.ok hO) (hW.eq (fun a k q1 q2 => g1.1.at a k (by unfold PC2; omega))) g1.2) (fun r hr => wp_ret ⟨hr.1, (g1.1.mono (fun a k q => Or.inl q)).tr (hr.2.1.mono (fun a k q => Or.inr q))⟩)
end C3
