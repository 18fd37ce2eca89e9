/-! Level 3, the reference: the judgement. -/
section M3
variable {L wl dr tx s : Nat} {V : Vl} {σ : Sg} {w : Wd} {lt nM nH oH oL : Int}
theorem m_jg113 {T : Nat → Int} (hV : VOK V) (hK : SOK V σ) : ∀ (r n h : Nat) (x : Int) (w : Wd), h + r = nh V → r < n → Ok L wl dr tx w → MC w s V σ lt nM nH oH oL → (∀ h, h < nh V → wI w 257 h = T h) → (0 ≤ mb T (fun h => usk (ulk V σ lt h) nM (nm V)) nH h → x = usk (ulk V σ lt (mb T (fun h => usk (ulk V σ lt h) nM (nm V)) nH h).toNat) nM (nm V)) →
    Wp (Mo_judged_113 n 223 (mb T (fun h => usk (ulk V σ lt h) nM (nm V)) nH h) x (h : Int) w) (fun r => r.1 = (if 0 ≤ mb T (fun h => usk (ulk V σ lt h) nM (nm V)) nH (nh V) ∧ lm V < usk (ulk V σ lt (mb T (fun h => usk (ulk V σ lt h) nM (nm V)) nH (nh V)).toNat) nM (nm V) then -1 else mb T (fun h => usk (ulk V σ lt h) nM (nm V)) nH (nh V)) ∧ Fr PM1 w r.2)
  | r, 0, h, x, w, _, hn, _, _, _, _ => absurd hn (by omega)
  | 0, n + 1, h, x, w, hh, hn, hO, hM, hT, hx => by
    have hs := hM.2.1.1
    rw [Mo_judged_113]
    refine wp_R12_25 hO (wp_gI hO rfl ?_)
    rw [hM.1]
    refine wp_rI hO rfl (by omega) ?_
    rw [Int.toNat_natCast, hM.2.1.2.1.2.1]
    refine wp_pos (by omega) ?_
    have e : h = nh V := by omega
    subst e
    unfold Mo_judged_208 Mo_judged_229 Mo_judged_230
    refine wp_ite (fun q => wp_ret ⟨?_, Fr.rf w⟩) (fun q => ?_)
    · rw [if_neg (by omega)]
    · have ex := hx (by omega)
      refine wp_R12_31 hO (wp_gI hO rfl ?_)
      rw [hM.1]
      refine wp_rI hO rfl (by omega) ?_
      rw [Int.toNat_natCast, hM.2.1.2.1.2.2.2.2.1]
      refine wp_ite (fun q2 => wp_ret ⟨?_, Fr.rf w⟩) (fun q2 => wp_ret ⟨?_, Fr.rf w⟩)
      · rw [if_neg (by omega)]
      · rw [if_pos (by omega)]
  | r + 1, n + 1, h, x, w, hh, hn, hO, hM, hT, hx => by
    have h6 := hV.2.1
    have hs := hM.2.1.1
    have mbd := mb_bd T (fun h => usk (ulk V σ lt h) nM (nm V)) nH h
    rw [Mo_judged_113]
    refine wp_R12_25 hO (wp_gI hO rfl ?_)
    rw [hM.1]
    refine wp_rI hO rfl (by omega) ?_
    rw [Int.toNat_natCast, hM.2.1.2.1.2.1]
    refine wp_neg (by omega) (wp_gI hO rfl ?_)
    rw [hM.2.2.2.2.2.1]
    have e : mb T (fun h => usk (ulk V σ lt h) nM (nm V)) nH (h + 1) = if (h : Int) = nH ∨ (0 ≤ mb T (fun h => usk (ulk V σ lt h) nM (nm V)) nH h ∧ T h < T (mb T (fun h => usk (ulk V σ lt h) nM (nm V)) nH h).toNat) then mb T (fun h => usk (ulk V σ lt h) nM (nm V)) nH h else if 0 ≤ mb T (fun h => usk (ulk V σ lt h) nM (nm V)) nH h ∧ T h = T (mb T (fun h => usk (ulk V σ lt h) nM (nm V)) nH h).toNat ∧ usk (ulk V σ lt (mb T (fun h => usk (ulk V σ lt h) nM (nm V)) nH h).toNat) nM (nm V) ≤ usk (ulk V σ lt h) nM (nm V) then mb T (fun h => usk (ulk V σ lt h) nM (nm V)) nH h else (h : Int) := rfl
    have e9 : w32 ((h : Int) + 1) = ((h + 1 : Nat) : Int) := by rw [w32_id (by omega) (by omega)]; omega
    have go : ∀ w2 y, Fr PM1 w w2 → (0 ≤ mb T (fun h => usk (ulk V σ lt h) nM (nm V)) nH (h + 1) → y = usk (ulk V σ lt (mb T (fun h => usk (ulk V σ lt h) nM (nm V)) nH (h + 1)).toNat) nM (nm V)) → Wp (Mo_judged_113 n 223 (mb T (fun h => usk (ulk V σ lt h) nM (nm V)) nH (h + 1)) y ((h + 1 : Nat) : Int) w2) (fun r => r.1 = (if 0 ≤ mb T (fun h => usk (ulk V σ lt h) nM (nm V)) nH (nh V) ∧ lm V < usk (ulk V σ lt (mb T (fun h => usk (ulk V σ lt h) nM (nm V)) nH (nh V)).toNat) nM (nm V) then -1 else mb T (fun h => usk (ulk V σ lt h) nM (nm V)) nH (nh V)) ∧ Fr PM1 w r.2) := fun w2 y f2 hy =>
      wp_use (m_jg113 hV hK r n (h + 1) y w2 (by omega) (by omega) (f2.ok hO) (hM.fr hV f2) (fun x hx => (f2.at 257 x (by unfold PM1; omega)).trans (hT x hx)) hy) (fun r2 h2 => ⟨h2.1, f2.tr h2.2⟩)
    generalize hB : mb T (fun h => usk (ulk V σ lt h) nM (nm V)) nH h = B at *
    generalize hB1 : mb T (fun h => usk (ulk V σ lt h) nM (nm V)) nH (h + 1) = B1 at *
    have skip : B1 = B → Wp (Mo_judged_202 (Mo_judged_113 n) 223 B x (h : Int) w) (fun r => r.1 = (if 0 ≤ mb T (fun h => usk (ulk V σ lt h) nM (nm V)) nH (nh V) ∧ lm V < usk (ulk V σ lt (mb T (fun h => usk (ulk V σ lt h) nM (nm V)) nH (nh V)).toNat) nM (nm V) then -1 else mb T (fun h => usk (ulk V σ lt h) nM (nm V)) nH (nh V)) ∧ Fr PM1 w r.2) := by
      intro eb
      unfold Mo_judged_202
      rw [e9]
      have g := go w x (Fr.rf w)
      rw [eb] at g
      exact g hx
    have look : ¬ (h : Int) = nH → ¬ (0 ≤ B ∧ T h < T B.toNat) → Wp (Mo_judged_159 (Mo_judged_113 n) 223 B x (h : Int) w) (fun r => r.1 = (if 0 ≤ mb T (fun h => usk (ulk V σ lt h) nM (nm V)) nH (nh V) ∧ lm V < usk (ulk V σ lt (mb T (fun h => usk (ulk V σ lt h) nM (nm V)) nH (nh V)).toNat) nM (nm V) then -1 else mb T (fun h => usk (ulk V σ lt h) nM (nm V)) nH (nh V)) ∧ Fr PM1 w r.2) := by
      intro q1 q2
      rw [if_neg (fun p => by rcases p with p | p; exact q1 p; exact q2 p)] at e
      unfold Mo_judged_159 Mo_judged_196 Mo_judged_202
      rw [e9]
      refine wp_call (m_unlikeAll hV hK hO hM (by omega)) (fun r1 h1 => ?_)
      have eu : r1.1 = usk (ulk V σ lt h) nM (nm V) := h1.1
      rw [eu]
      have hO1 := h1.2.ok hO
      have take : B1 = (h : Int) → Wp (Mo_judged_113 n 223 (h : Int) (usk (ulk V σ lt h) nM (nm V)) ((h + 1 : Nat) : Int) r1.2) (fun r => r.1 = (if 0 ≤ mb T (fun h => usk (ulk V σ lt h) nM (nm V)) nH (nh V) ∧ lm V < usk (ulk V σ lt (mb T (fun h => usk (ulk V σ lt h) nM (nm V)) nH (nh V)).toNat) nM (nm V) then -1 else mb T (fun h => usk (ulk V σ lt h) nM (nm V)) nH (nh V)) ∧ Fr PM1 w r.2) := by
        intro eb
        have g := go r1.2 (usk (ulk V σ lt h) nM (nm V)) h1.2
        rw [eb] at g
        exact g (fun _ => by rw [Int.toNat_natCast])
      refine wp_ite (fun p => take (by rw [e, if_neg (by omega)])) (fun p => ?_)
      refine wp_R12_56 hO1 (wp_rI hO1 rfl (by omega) (wp_R12_56 hO1 (wp_rI hO1 rfl (by omega) ?_)))
      rw [Int.toNat_natCast, h1.2.at 257 h (by unfold PM1; omega), h1.2.at 257 B.toNat (by unfold PM1; omega), hT h (by omega), hT B.toNat (by omega)]
      have ex := hx (by omega)
      refine wp_ite (fun p2 => wp_ite (fun p3 => take (by rw [e, if_neg (by omega)])) (fun p3 => ?_)) (fun p2 => take (by rw [e, if_neg (by omega)]))
      have eb : B1 = B := by rw [e, if_pos ⟨by omega, p2, by omega⟩]
      have g := go r1.2 x h1.2
      rw [eb] at g
      exact g hx
    refine wp_ite (fun q => skip (by rw [e, if_pos (Or.inl q)])) (fun q => ?_)
    refine wp_ite (fun q2 => look q (by omega)) (fun q2 => ?_)
    refine wp_R12_56 hO (wp_rI hO rfl (by omega) (wp_R12_56 hO (wp_rI hO rfl (by omega) ?_)))
    rw [Int.toNat_natCast, hT h (by omega), hT B.toNat (by omega)]
    exact wp_ite (fun q3 => look q (by omega)) (fun q3 => skip (by rw [e, if_pos (Or.inr ⟨by omega, by omega⟩)]))
theorem m_jg25 (hV : VOK V) (hK : SOK V σ) : ∀ (r n m : Nat) (c : Int) (w : Wd), m + r = nm V → r < n → 0 ≤ c → c ≤ (m : Int) → (c = 0 ↔ ∀ j : Nat, j < m → (j : Int) = nM) → Ok L wl dr tx w → MC w s V σ lt nM nH oH oL → (∀ h, h < nh V → wI w 257 h = tl (ulk V σ lt) (nh V) nH nM h m) → (∀ j : Nat, j < m → wI w 258 j = if (j : Int) = nM then -1 else vo (ulk V σ lt) j nH (nh V)) →
    Wp (Mo_judged_25 n 223 c (m : Int) w) (fun r => r.1 = jd (ulk V σ lt) (nh V) (nm V) (lm V) nH nM ∧ Fr PM2 w r.2 ∧ ∀ j : Nat, j < nm V → wI r.2 258 j = if (j : Int) = nM then -1 else vo (ulk V σ lt) j nH (nh V))
  | r, 0, m, c, w, _, hn, _, _, _, _, _, _, _ => absurd hn (by omega)
  | 0, n + 1, m, c, w, hm, hn, hc0, hcm, hc, hO, hM, hT, hJ => by
    have hs := hM.2.1.1
    have e : m = nm V := by omega
    subst e
    rw [Mo_judged_25]
    refine wp_R12_29 hO (wp_gI hO rfl ?_)
    rw [hM.1]
    refine wp_rI hO rfl (by omega) ?_
    rw [Int.toNat_natCast, hM.2.1.2.1.2.2.1]
    refine wp_pos (by omega) ?_
    unfold Mo_judged_100
    generalize hFU : FU = fu; have hfu : 1000000 = fu := hFU
    refine wp_ite (fun q => wp_ret ⟨(jd_no (hc.mp q)).symm, Fr.rf w, hJ⟩) (fun q => ?_)
    have hx : ∃ m : Nat, m < nm V ∧ (m : Int) ≠ nM := Decidable.byContradiction (fun x => q (hc.mpr (fun j hj => Decidable.byContradiction (fun y => x ⟨j, hj, y⟩))))
    refine wp_use (m_jg113 hV hK (nh V) fu 0 0 w (by omega) (by have := hV.2.1; omega) hO hM hT (fun x => absurd x (by unfold mb; omega))) (fun r h1 => ⟨?_, pm12 h1.2, fun j hj => (h1.2.at 258 j (by unfold PM1; omega)).trans (hJ j hj)⟩)
    rw [h1.1, ← jd_mb hx]
  | r + 1, n + 1, m, c, w, hm, hn, hc0, hcm, hc, hO, hM, hT, hJ => by
    have h3 := hV.2.2.1
    have h6 := hV.2.1
    have hs := hM.2.1.1
    have vb := vo_bd (ulk V σ lt) m nH (nh V)
    rw [Mo_judged_25]
    refine wp_R12_29 hO (wp_gI hO rfl ?_)
    rw [hM.1]
    refine wp_rI hO rfl (by omega) ?_
    rw [Int.toNat_natCast, hM.2.1.2.1.2.2.1]
    refine wp_neg (by omega) (wp_R12_57 hO (wp_wI hO rfl (by omega) ?_))
    rw [Int.toNat_natCast]
    generalize hw1 : sI w 258 m (-1) = w1
    have f1 : Fr PM2 w w1 := by rw [← hw1]; exact fr_sI (by unfold PM2; omega)
    have v1 : ∀ j, wI w1 258 j = if j = m then -1 else wI w 258 j := fun j => by rw [← hw1, wI_sI]; simp only [true_and]
    have hO1 := f1.ok hO
    have hM1 := hM.fr2 hV f1
    have t1 : ∀ h, wI w1 257 h = wI w 257 h := fun h => by rw [← hw1]; exact wI_ne (by omega)
    refine wp_gI hO1 rfl ?_
    rw [hM1.2.2.2.2.1]
    have et : ∀ h : Nat, tl (ulk V σ lt) (nh V) nH nM h (m + 1) = if (m : Int) ≠ nM ∧ vo (ulk V σ lt) m nH (nh V) = (h : Int) then tl (ulk V σ lt) (nh V) nH nM h m + 1 else tl (ulk V σ lt) (nh V) nH nM h m := fun h => rfl
    have e9 : w32 ((m : Int) + 1) = ((m + 1 : Nat) : Int) := by rw [w32_id (by omega) (by omega)]; omega
    unfold Mo_judged_94
    rw [e9]
    refine wp_ite (fun q => ?_) (fun q => ?_)
    · refine wp_use (m_jg25 hV hK r n (m + 1) c w1 (by omega) (by omega) hc0 (by omega) ⟨fun z j hj => ?_, fun z => hc.mpr (fun j hj => z j (by omega))⟩ hO1 hM1 (fun h hh => ?_) (fun j hj => ?_)) (fun r2 h2 => ⟨h2.1, f1.tr h2.2.1, h2.2.2⟩)
      · by_cases p : j = m
        · rw [p]; exact q
        · exact hc.mp z j (by omega)
      · rw [t1, hT h hh, et h, if_neg (fun p => p.1 q)]
      · rw [v1]
        by_cases p : j = m
        · subst p; rw [if_pos rfl, if_pos q]
        · rw [if_neg p]; exact hJ j (by omega)
    refine wp_R12_57 hO1 (wp_call (m_voteOf hV hK hO1 hM1 (by omega)) (fun r1 h1 => ?_))
    have f2 : Fr PM2 w r1.2 := f1.tr (pm12 h1.2)
    have hO2 := f2.ok hO
    refine wp_wI hO2 rfl (by omega) ?_
    rw [h1.1, Int.toNat_natCast]
    generalize hw3 : sI r1.2 258 m (vo (ulk V σ lt) m nH (nh V)) = w3
    have f3 : Fr PM2 w w3 := by rw [← hw3]; exact f2.sI (by unfold PM2; omega)
    have v3 : ∀ j, wI w3 258 j = if j = m then vo (ulk V σ lt) m nH (nh V) else wI w 258 j := fun j => by
      rw [← hw3, wI_sI, h1.2.at 258 j (by unfold PM1; omega), v1]
      simp only [true_and]
      split <;> rfl
    have t3 : ∀ h, wI w3 257 h = wI w 257 h := fun h => by
      rw [← hw3, wI_ne (by omega), h1.2.at 257 h (by unfold PM1; omega), t1]
    have hO3 := f3.ok hO
    have c9 : w32 (c + 1) = c + 1 := w32_id (by omega) (by omega)
    rw [c9]
    have hc' : c + 1 = 0 ↔ ∀ j : Nat, j < m + 1 → (j : Int) = nM := ⟨fun z => absurd z (by omega), fun z => absurd (z m (by omega)) q⟩
    have J3 : ∀ w4, (∀ j, wI w4 258 j = wI w3 258 j) → ∀ j : Nat, j < m + 1 → wI w4 258 j = if (j : Int) = nM then -1 else vo (ulk V σ lt) j nH (nh V) := fun w4 h4 j hj => by
      rw [h4, v3]
      by_cases p : j = m
      · subst p; rw [if_pos rfl, if_neg q]
      · rw [if_neg p]; exact hJ j (by omega)
    refine wp_R12_57 hO3 (wp_rI hO3 rfl (by omega) ?_)
    rw [Int.toNat_natCast, v3, if_pos rfl]
    refine wp_ite (fun q2 => ?_) (fun q2 => ?_)
    · refine wp_use (m_jg25 hV hK r n (m + 1) (c + 1) w3 (by omega) (by omega) (by omega) (by omega) hc' hO3 (hM.fr2 hV f3) (fun h hh => ?_) (J3 w3 (fun j => rfl))) (fun r2 h2 => ⟨h2.1, f3.tr h2.2.1, h2.2.2⟩)
      rw [t3, hT h hh, et h, if_neg (by omega)]
    · refine wp_R12_56 hO3 (wp_R12_57 hO3 (wp_rI hO3 rfl (by omega) ?_))
      rw [Int.toNat_natCast, v3, if_pos rfl]
      refine wp_rI hO3 rfl (by omega) (wp_wI hO3 rfl (by omega) ?_)
      have tb := tl_bd (ulk V σ lt) (nh V) nH nM (vo (ulk V σ lt) m nH (nh V)).toNat m
      rw [t3, hT _ (by omega)]
      generalize hw5 : sI w3 257 (vo (ulk V σ lt) m nH (nh V)).toNat (w32 (tl (ulk V σ lt) (nh V) nH nM (vo (ulk V σ lt) m nH (nh V)).toNat m + 1)) = w5
      have f5 : Fr PM2 w w5 := by rw [← hw5]; exact f3.sI (by unfold PM2; omega)
      refine wp_use (m_jg25 hV hK r n (m + 1) (c + 1) w5 (by omega) (by omega) (by omega) (by omega) hc' (f5.ok hO) (hM.fr2 hV f5) (fun h hh => ?_) (J3 w5 (fun j => by rw [← hw5]; exact wI_ne (by omega)))) (fun r2 h2 => ⟨h2.1, f5.tr h2.2.1, h2.2.2⟩)
      rw [et h, ← hw5, wI_sI]
      by_cases p : h = (vo (ulk V σ lt) m nH (nh V)).toNat
      · have tb2 := tl_bd (ulk V σ lt) (nh V) nH nM h m
        rw [if_pos ⟨rfl, p⟩, if_pos ⟨q, by omega⟩, ← p, w32_id (by omega) (by omega)]
      · rw [if_neg (fun x => p x.2), if_neg (by omega), t3, hT h hh]
theorem m_jg2 {Q : Int × Wd → Prop} : ∀ (r n k : Nat) (w : Wd), k + r = 6 → r < n → Ok L wl dr tx w → (∀ j, j < k → wI w 257 j = 0) → (∀ w1, Fr PM2 w w1 → (∀ j, j < 6 → wI w1 257 j = 0) → Wp (Mo_judged_21 223 w1) Q) → Wp (Mo_judged_2 n 223 (k : Int) w) Q
  | r, 0, k, w, _, hn, _, _, _ => absurd hn (by omega)
  | 0, n + 1, k, w, hk, hn, hO, hZ, kk => by
    rw [Mo_judged_2]
    exact wp_pos (by omega) (kk w (Fr.rf w) (fun j hj => hZ j (by omega)))
  | r + 1, n + 1, k, w, hk, hn, hO, hZ, kk => by
    rw [Mo_judged_2]
    refine wp_neg (by omega) (wp_R12_56 hO (wp_wI hO rfl (by omega) ?_))
    rw [Int.toNat_natCast, w32_id (z := (k : Int) + 1) (by omega) (by omega), show (k : Int) + 1 = ((k + 1 : Nat) : Int) by omega]
    have hF : Fr PM2 w (sI w 257 k 0) := fr_sI (by unfold PM2; omega)
    refine m_jg2 r n (k + 1) _ (by omega) (by omega) (hF.ok hO) (fun j hj => ?_) (fun w1 g1 g2 => kk w1 (hF.tr g1) g2)
    rw [wI_sI]
    by_cases q : j = k
    · rw [if_pos ⟨rfl, q⟩]
    · rw [if_neg (fun p => q p.2)]; exact hZ j (by omega)
theorem m_judged (hV : VOK V) (hK : SOK V σ) (hO : Ok L wl dr tx w) (hM : MC w s V σ lt nM nH oH oL) : Wp (Mo_judged 223 w) (fun r => r.1 = jd (ulk V σ lt) (nh V) (nm V) (lm V) nH nM ∧ Fr PM2 w r.2 ∧ ∀ j : Nat, j < nm V → wI r.2 258 j = if (j : Int) = nM then -1 else vo (ulk V σ lt) j nH (nh V)) := by
  have h6 := hV.2.1
  unfold Mo_judged Mo_judged_0
  generalize hFU : FU = fu; have hfu : 1000000 = fu := hFU
  refine wp_gd hO rfl (m_jg2 6 fu 0 w (by omega) (by omega) hO (fun j hj => absurd hj (by omega)) (fun w1 g1 g2 => ?_))
  unfold Mo_judged_21
  rw [hFU]
  exact wp_use (m_jg25 hV hK (nm V) fu 0 0 w1 (by omega) (by have := hV.2.2.1; omega) (by omega) (by omega) ⟨fun _ j hj => absurd hj (by omega), fun _ => rfl⟩ (g1.ok hO) (hM.fr2 hV g1) (fun h hh => g2 h (by omega)) (fun j hj => absurd hj (by omega))) (fun r hr => ⟨hr.1, g1.tr hr.2.1, hr.2.2⟩)
end M3
