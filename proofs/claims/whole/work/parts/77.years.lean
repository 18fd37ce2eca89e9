/-! Level 3: calls, years. -/
theorem yr_day1 (V : Vl) (tH tL d : Int) (σ : Sg) (h : Nat) : yr (day1 V tH tL d σ h) = yr σ := by
  unfold day1 lsn
  split <;> split <;> rfl
theorem yr_dayh (V : Vl) (tH tL d : Int) (σ : Sg) : ∀ n, yr (dayh V tH tL d σ n) = yr σ
  | 0 => rfl
  | n + 1 => (yr_day1 V tH tL d _ n).trans (yr_dayh V tH tL d σ n)
theorem yr_dayd (V : Vl) (tH tL : Int) (σ : Sg) : ∀ n, yr (dayd V tH tL σ n) = yr σ
  | 0 => rfl
  | n + 1 => (yr_dayh V tH tL _ _ (nh V)).trans (yr_dayd V tH tL σ n)
theorem yr_year (V : Vl) (tH tL : Int) (σ : Sg) : yr (yearS V tH tL σ) = w32 (yr σ + 1) := by
  show w32 (yr (dayd V tH tL σ (dy V)) + 1) = _
  rw [yr_dayd]
theorem yr_yit (V : Vl) (tH tL : Int) (σ : Sg) (h0 : 0 ≤ yr σ) : ∀ n : Nat, yr σ + (n : Int) < 2147483648 → yr (yit V tH tL σ n) = yr σ + (n : Int)
  | 0, _ => by rw [show yit V tH tL σ 0 = σ from rfl]; omega
  | n + 1, h => by
    show yr (yearS V tH tL (yit V tH tL σ n)) = _
    rw [yr_year, yr_yit V tH tL σ h0 n (by omega), w32_id (by omega) (by omega)]
    omega
/-- the state that is judged in the year j from now -/
def dys (V : Vl) (σ : Sg) (j : Nat) : Sg := dayd V (-1) (-1) (yit V (-1) (-1) σ j) (dy V)
section K20
variable {L wl dr tx s b : Nat} {w : Wd} {V : Vl} {σ σ1 : Sg} {x y z Y Y1 : Int}
def PLd (σ : Sg) (a k : Nat) : Prop := (a = 49 ∧ (k : Int) = yr σ) ∨ (a = 50 ∧ 6 * yr σ ≤ (k : Int) ∧ (k : Int) < 6 * yr σ + 6)
theorem c_lead (hV : VOK V) (hO : Ok L wl dr tx w) (hS : CS w 40 V σ) (hy : 0 ≤ yr σ) : Wp (Bk_lead 48 40 w) (fun w1 => Fr (PLd σ) w w1 ∧ (yr σ < 400 → wI w1 49 (yr σ).toNat = cow (ow σ) ∧ ∀ l, l < nl V → wI w1 50 (6 * (yr σ).toNat + l) = hd σ l)) := by
  have h6 := hV.1
  unfold Bk_lead Bk_lead_0 Bk_lead_51
  refine wp_gd hO (sh_Bk L isBk_48) (wp_gI hO (sh_St L isSt_40) ?_)
  rw [hS.1]
  refine wp_neg (by omega) (wp_gI hO (sh_St L isSt_40) ?_)
  rw [hS.1]
  refine wp_ite (fun q => wp_ret ⟨Fr.rf w, fun h => absurd h (by omega)⟩) (fun q => wp_R0_0 hO isBk_48 (wp_gI hO (sh_St L isSt_40) (wp_gI hO (sh_St L isSt_40) ?_)))
  rw [hS.1, hS.2.2.1]
  refine wp_wI hO (sh_Bk_0 L isBk_48) (by omega) ?_
  generalize hw1 : sI w (48 + 1) (yr σ).toNat (cow (ow σ)) = w1
  have f1 : Fr (PLd σ) w w1 := by rw [← hw1]; exact fr_sI (by unfold PLd; omega)
  have hO1 := f1.ok hO
  refine wp_R9_3 hO1 isSt_40 (wp_R0_1 hO1 isBk_48 (wp_gI hO1 (sh_St L isSt_40) ?_))
  rw [f1.at 40 0 (by unfold PLd; omega), hS.1, w32_id (by omega) (by omega)]
  refine wp_cp hO1 (sh_St_3 L isSt_40) (sh_Bk_1 L isBk_48) (by omega) (wp_ret ?_)
  rw [show (0 : Int).toNat = 0 from rfl, show (6 : Int).toNat = 6 from rfl]
  refine ⟨f1.cpI (fun k _ _ => by unfold PLd; omega), fun _ => ⟨?_, fun l hl => ?_⟩⟩
  · rw [wI_cp (by omega), ← hw1, wI_eq]
  · rw [wI_cpe (by omega) (by omega), f1.at (40 + 1) _ (by unfold PLd; omega), show 0 + (6 * (yr σ).toNat + l - (yr σ * 6).toNat) = l by omega]
    exact hS.2.2.2.1 l hl
/-- what years do to the class -/
def PYr (v a : Nat) (_ : Nat) : Prop := a = v + 10 ∨ a = v + 11 ∨ (179 ≤ a ∧ a ≤ 186) ∨ (40 ≤ a ∧ a ≤ 43) ∨ a = 49 ∨ a = 50
theorem c_yr29 {N : Nat} {w0 : Wd} (hV : VOK V) (hK : SOK V σ) (hv : isWi wl) (h0 : 0 ≤ yr σ) (hy : yr σ + (N : Int) < 1000000) : ∀ (r m n : Nat) (w : Wd), n + r = N → r < m → Ok L wl dr tx w → CW w wl V → CS w 40 V (yit V (-1) (-1) σ n) → Fr (PYr wl) w0 w → (∀ p : Nat, (p : Int) < yr σ → wI w 49 p = wI w0 49 p ∧ ∀ l, l < 6 → wI w 50 (6 * p + l) = wI w0 50 (6 * p + l)) → (∀ j, j < n → yr σ + (j : Int) < 400 → wI w 49 ((yr σ).toNat + j) = cow (jdg V (dys V σ j) (sd V)) ∧ ∀ l, l < nl V → wI w 50 (6 * ((yr σ).toNat + j) + l) = hd (dys V σ j) l) →
    Wp (Hh_years_29 m 6 (N : Int) (n : Int) w) (fun q => q.1 = yr σ + (N : Int) ∧ CS q.2 40 V (yit V (-1) (-1) σ N) ∧ Fr (PYr wl) w0 q.2 ∧ (∀ p : Nat, (p : Int) < yr σ → wI q.2 49 p = wI w0 49 p ∧ ∀ l, l < 6 → wI q.2 50 (6 * p + l) = wI w0 50 (6 * p + l)) ∧ (∀ j, j < N → yr σ + (j : Int) < 400 → wI q.2 49 ((yr σ).toNat + j) = cow (jdg V (dys V σ j) (sd V)) ∧ ∀ l, l < nl V → wI q.2 50 (6 * ((yr σ).toNat + j) + l) = hd (dys V σ j) l))
  | r, 0, n, w, _, hm, _, _, _, _, _, _ => absurd hm (by omega)
  | 0, m + 1, n, w, hr, hm, hO, hW, hS, hF, hA, hB => by
    have e : n = N := by omega
    subst e
    rw [Hh_years_29]
    unfold Hh_years_98
    refine wp_pos (by omega) (wp_R11_4 hO (wp_gI hO (sh_St L isSt_40) (wp_ret ⟨?_, hS, hF, hA, hB⟩)))
    show wI w 40 0 = _
    rw [hS.1, yr_yit V _ _ σ h0 n (by omega)]
  | r + 1, m + 1, n, w, hr, hm, hO, hW, hS, hF, hA, hB => by
    have hv' := wi_bd hv
    have h6 := hV.1
    have ey := yr_yit V (-1) (-1) σ h0 n (by omega)
    rw [Hh_years_29]
    refine wp_neg (by omega) (wp_R11_10 hO (wp_R11_3 hO (wi_ne hv) (wp_R11_4 hO (wp_call (c_spendDays hV hv isSt_40 (sok_yit hV hK n) hO hW hS) (fun w1 g1 => ?_)))))
    have f1 : Fr (PYr wl) w w1 := g1.1.mono (fun a k q => by unfold PD at q; unfold PYr; omega)
    have hO1 := f1.ok hO
    have hW1 : CW w1 wl V := hW.eq (fun a k q1 q2 => f1.at a k (by unfold PYr; omega))
    have hK1 : SOK V (dys V σ n) := sok_dayd hV (sok_yit hV hK n) _
    have hS1 : CS w1 40 V (dys V σ n) := g1.2
    have ed : yr (dys V σ n) = yr σ + (n : Int) := (yr_dayd V _ _ _ _).trans ey
    refine wp_R11_10 hO1 (wp_R11_3 hO1 (wi_ne hv) (wp_R11_4 hO1 (wp_call (c_settle hV hK1 hv isSt_40 hO1 hW1 hS1) (fun w2 g2 => ?_))))
    have f2 : Fr (PYr wl) w w2 := f1.tr (g2.1.mono (fun a k q => by unfold PY at q; unfold PYr; omega))
    have hO2 := f2.ok hO
    have hW2 : CW w2 wl V := hW.eq (fun a k q1 q2 => f2.at a k (by unfold PYr; omega))
    have es : yr (stl V (dys V σ n)) = yr σ + (n : Int) := ed
    refine wp_R11_6 hO2 (wp_R11_4 hO2 (wp_call (c_lead hV hO2 g2.2.1 (by omega)) (fun w3 g3 => ?_)))
    have f3 : Fr (PYr wl) w w3 := f2.tr (g3.1.mono (fun a k q => by unfold PLd at q; unfold PYr; omega))
    have hO3 := f3.ok hO
    have hW3 : CW w3 wl V := hW.eq (fun a k q1 q2 => f3.at a k (by unfold PYr; omega))
    have hS3 : CS w3 40 V (stl V (dys V σ n)) := g2.2.1.eq (fun a k q1 q2 => g3.1.at a k (by unfold PLd; omega))
    refine wp_R11_10 hO3 (wp_R11_3 hO3 (wi_ne hv) (wp_R11_4 hO3 (wp_call (c_endYear hV (sok_stl hK1) hv isSt_40 hO3 hW3 hS3) (fun w4 g4 => ?_))))
    have f4 : Fr (PYr wl) w w4 := f3.tr (g4.1.mono (fun a k q => by unfold PY at q; unfold PYr; omega))
    have hO4 := f4.ok hO
    have hW4 : CW w4 wl V := hW.eq (fun a k q1 q2 => f4.at a k (by unfold PYr; omega))
    have hS4 : CS w4 40 V (yit V (-1) (-1) σ (n + 1)) := g4.2.1
    have n4 : ∀ a k, a = 49 ∨ a = 50 → wI w4 a k = wI w3 a k := fun a k q => g4.1.at a k (by unfold PY; omega)
    have n2 : ∀ a k, a = 49 ∨ a = 50 → wI w2 a k = wI w a k := fun a k q => (g2.1.at a k (by unfold PY; omega)).trans (g1.1.at a k (by unfold PD; omega))
    have nw : ∀ a k, a = 49 ∨ a = 50 → ¬ PLd (stl V (dys V σ n)) a k → wI w4 a k = wI w a k := fun a k q p => (n4 a k q).trans ((g3.1.at a k p).trans (n2 a k q))
    rw [w32_id (z := (n : Int) + 1) (by omega) (by omega), show (n : Int) + 1 = ((n + 1 : Nat) : Int) by omega]
    refine c_yr29 hV hK hv h0 hy r m (n + 1) w4 (by omega) (by omega) hO4 hW4 hS4 (hF.tr f4) (fun p hp => ⟨?_, fun l hl => ?_⟩) (fun j hj hj4 => ?_)
    · rw [nw 49 p (by omega) (by unfold PLd; omega)]; exact (hA p hp).1
    · rw [nw 50 _ (by omega) (by unfold PLd; omega)]; exact (hA p hp).2 l hl
    · by_cases e : j = n
      · subst e
        have g := g3.2 (by omega)
        rw [es, show (yr σ + (j : Int)).toNat = (yr σ).toNat + j by omega] at g
        refine ⟨(n4 49 _ (by omega)).trans g.1, fun l hl => (n4 50 _ (by omega)).trans (g.2 l hl)⟩
      · have b := hB j (by omega) hj4
        refine ⟨?_, fun l hl => ?_⟩
        · rw [nw 49 _ (by omega) (by unfold PLd; omega)]; exact b.1
        · rw [nw 50 _ (by omega) (by unfold PLd; omega)]; exact b.2 l hl
theorem m_yr30 {N : Nat} {w0 : Wd} (hV : VOK V) (hK : SOK V σ) (h0 : 0 ≤ yr σ) (hy : yr σ + (N : Int) < 1000000) {Q : Int × Wd → Prop} (kk : ∀ w1, Ok L wl dr tx w1 → MC w1 s V (yit V (-1) (-1) σ N) (sd V) (-1) (-1) (-1) (-1) → wI w1 260 45 = min (yr σ + (N : Int)) 400 → Fr PS w0 w1 → (∀ k : Nat, 60 ≤ k → k < 2860 → (k : Int) < 60 + 7 * yr σ → wI w1 260 k = wI w0 260 k) → (∀ j, j < N → yr σ + (j : Int) < 400 → (∀ l, l < nl V → wI w1 260 (60 + 7 * ((yr σ).toNat + j) + l) = hd (dys V σ j) l) ∧ wI w1 260 (66 + 7 * ((yr σ).toNat + j)) = jdg V (dys V σ j) (sd V)) → Wp (Mo_years_45 227 w1) Q) : ∀ (r m n : Nat) (w : Wd), n + r = N → r < m → Ok L wl dr tx w → MC w s V (yit V (-1) (-1) σ n) (sd V) (-1) (-1) (-1) (-1) → wI w 260 45 = min (yr σ + (n : Int)) 400 → Fr PS w0 w → (∀ k : Nat, 60 ≤ k → k < 2860 → (k : Int) < 60 + 7 * yr σ → wI w 260 k = wI w0 260 k) → (∀ j, j < n → yr σ + (j : Int) < 400 → (∀ l, l < nl V → wI w 260 (60 + 7 * ((yr σ).toNat + j) + l) = hd (dys V σ j) l) ∧ wI w 260 (66 + 7 * ((yr σ).toNat + j)) = jdg V (dys V σ j) (sd V)) →
    Wp (Mo_years_30 m 227 (N : Int) (n : Int) w) Q
  | r, 0, n, w, _, hm, _, _, _, _, _, _ => absurd hm (by omega)
  | 0, m + 1, n, w, hr, hm, hO, hM, h45, hF, hA, hB => by
    have e : n = N := by omega
    subst e
    rw [Mo_years_30]
    exact wp_pos (by omega) (kk w hO hM h45 hF hA hB)
  | r + 1, m + 1, n, w, hr, hm, hO, hM, h45, hF, hA, hB => by
    have h6 := hV.1
    have e45 : wI w 260 45 = ((min (yr σ + (n : Int)) 400).toNat : Int) := by rw [h45]; omega
    rw [Mo_years_30]
    refine wp_neg (by omega) (wp_call (m_year hV (sok_yit hV hK n) (fun h hh => absurd hh (by omega)) hO hM (by omega) e45) (fun w1 g1 => ?_))
    have f1 : Fr PS w0 w1 := hF.tr (g1.1.mono (fun a k q => by unfold PM5 at q; unfold PS; omega))
    have hO1 := g1.1.ok hO
    obtain ⟨b1, b2, b3⟩ := g1.2.2.1
    rw [w32_id (z := (n : Int) + 1) (by omega) (by omega), show (n : Int) + 1 = ((n + 1 : Nat) : Int) by omega]
    refine m_yr30 hV hK h0 hy kk r m (n + 1) w1 (by omega) (by omega) hO1 g1.2.1 (by rw [b1]; omega) f1 (fun k hk1 hk3 hk2 => ?_) (fun j hj hj4 => ?_)
    · rw [b2 k hk1 (by omega)]; exact hA k hk1 hk3 hk2
    · by_cases e : j = n
      · subst e
        have ed : (min (yr σ + (j : Int)) 400).toNat = (yr σ).toNat + j := by omega
        rw [ed] at b3
        exact b3 (by omega)
      · have b := hB j (by omega) hj4
        refine ⟨fun l hl => ?_, ?_⟩
        · rw [b2 _ (by omega) (by omega)]; exact b.1 l hl
        · rw [b2 _ (by omega) (by omega)]; exact b.2
theorem call_years (h : INV L w Y) (hY : Y ≤ 900000) : CALL L w (Y + 100) (Hh_years 6 x) (Mo_years 227 x) := by
  have hI := inv_mono (Y1 := Y + 100) h (by omega)
  obtain ⟨wl, dr, tx, s, V, σ, hO, hv, hdr, hne, hV, hW, hs, hM, hN, ⟨u, xx, τ, u1, u2, u3, u4, u5, u6, u7, u8⟩, hS, hR, hT, he, hf⟩ := h
  have hv' := wi_bd hv
  have h6 := hV.1
  have hy := hN.2.2.2.1
  unfold CALL Hh_years Hh_years_0 Hh_years_27 Mo_years Mo_years_0
  generalize hFU : FU = fu; have hfu : 1000000 = fu := hFU
  refine wp_gd hO rfl (wp_eq (q_within 0 100) ?_)
  unfold bz
  by_cases q : 0 ≤ x ∧ x ≤ 100
  · rw [if_pos q]
    obtain ⟨n, rfl⟩ := Int.eq_ofNat_of_zero_le q.1
    refine wp_neg (show ¬ (1 : Int) = 0 by decide) ?_
    by_cases n0 : n = 0
    · subst n0
      refine wp_pos (by decide) ?_
      obtain ⟨m, rfl⟩ : ∃ m, fu = m + 1 := ⟨fu - 1, by omega⟩
      rw [Hh_years_29]
      unfold Hh_years_98
      refine wp_pos (by decide) (wp_R11_4 hO (wp_gI hO (sh_St L isSt_40) (wp_ret ?_)))
      refine wp_gd hO rfl (wp_eq (q_min 0 100) ?_)
      unfold bz
      rw [if_pos q]
      refine wp_neg (show ¬ (1 : Int) = 0 by decide) (wp_pos rfl (wp_R12_49 hO (wp_rI hO rfl (by omega) (wp_ret ⟨?_, hI, rfl, rfl⟩))))
      show wI w 259 42 = wI w 40 0
      rw [n42 hN, hN.2.1.1]
    · refine wp_neg (by omega) (wp_R11_7 hO (wp_R11_4 hO (wp_call (c_keep u1 u2 hO u3 u4) (fun w1 g1 => ?_))))
      have f1 := g1.1
      have hO1 := f1.ok hO
      have hS1 : CS w1 40 V σ := hN.2.1.eq (fun a k q1 q2 => f1.at a k (by omega))
      have hk1 : CS w1 (53 + 4 * xx) V σ := cs_copy hV hN.2.1 g1.2.1
      have hW1 : CW w1 wl V := hW.eq (fun a k q1 q2 => f1.at a k (by omega))
      refine wp_use (c_yr29 (N := n) (w0 := w1) hV hN.1 hv hy.1 (by omega) n fu 0 w1 (by omega) (by omega) hO1 hW1 hS1 (Fr.rf w1) (fun p _ => ⟨rfl, fun _ _ => rfl⟩) (fun j hj => absurd hj (by omega))) (fun r hr => ?_)
      obtain ⟨r1, r2, r3, r4, r5⟩ := hr
      have hO2 := r3.ok hO1
      have f2 : Fr (fun a k => PYr wl a k ∨ (53 + 4 * xx ≤ a ∧ a ≤ 53 + 4 * xx + 3) ∨ a = 51) w r.2 := (f1.mono (fun a k q => by omega)).tr (r3.mono (fun a k q => Or.inl q))
      have n2 : ∀ a k, 203 ≤ a → wI r.2 a k = wI w a k := fun a k q => f2.at a k (by unfold PYr; omega)
      have hs2 := (n2 227 18 (by omega)).trans hs
      have hM2 := hM.eq (w1 := r.2) (fun a k q1 q2 => n2 a k (by omega))
      refine wp_gd hO2 rfl (wp_eq (q_min 0 100) ?_)
      unfold bz
      rw [if_pos q]
      refine wp_neg (show ¬ (1 : Int) = 0 by decide) (wp_neg (by omega) (wp_call (i_copiesAll hV hO2 hs2 hM2 (hN.2.2.1.eq hV (fun k hk => n2 259 _ (by omega))) ((n2 259 45 (by omega)).trans (n45 hN)) hy.1) (fun w3 g3 => ?_)))
      have hO3 := g3.1.ok hO2
      have n3 : ∀ a k, ¬ PK 2860 a k → 203 ≤ a → wI w3 a k = wI w a k := fun a k q q2 => (g3.1.at a k q).trans (n2 a k q2)
      refine m_yr30 (N := n) (w0 := w3) hV hN.1 hy.1 (by omega) (fun w4 hO4 hM4 h45 f4 hA hB => ?_) n fu 0 w3 (by omega) (by omega) hO3 g3.2.2.1 (by rw [g3.2.2.2.1]; omega) (Fr.rf w3) (fun k _ _ _ => rfl) (fun j hj => absurd hj (by omega))
      have h3 : ∀ a k, a = 263 ∨ a = 259 ∨ (a = 227 ∧ k = 58) → wI w4 a k = wI w a k := fun a k q => (f4.at a k (by unfold PS; omega)).trans (n3 a k (by unfold PK; omega) (by omega))
      unfold Mo_years_45
      refine wp_call (m_keeps u1 hO4 ((h3 227 58 (by omega)).trans u5)) (fun w5 g5 => ?_)
      obtain ⟨f5, k1, k2, k3, k4⟩ := g5
      have hO5 := f5.ok hO4
      have ey := yr_yit V (-1) (-1) σ hy.1 n (by omega)
      refine wp_R12_49 hO5 (wp_rI hO5 rfl (by omega) (wp_ret ?_))
      have e42 : wI w5 259 42 = yr σ + (n : Int) := by rw [k1 42 (by omega), hM4.yr, ey]
      have f6 : Fr (fun a k => PYr wl a k ∨ PS a k ∨ (53 + 4 * xx ≤ a ∧ a ≤ 53 + 4 * xx + 3) ∨ a = 51 ∨ a = 263 ∨ (a = 227 ∧ k = 58) ∨ a = 259) w w5 := (((f2.mono (fun a k q => q.elim Or.inl (fun q => Or.inr (Or.inr (by omega))))).tr (g3.1.mono (fun a k q => Or.inr (Or.inl (by unfold PK at q; unfold PS; omega))))).tr (f4.mono (fun a k q => Or.inr (Or.inl q)))).tr (f5.mono (fun a k q => by unfold PH at q; omega))
      have n5 : ∀ a k, ¬ PS a k → a < 227 → wI w5 a k = wI r.2 a k := fun a k q q2 => by rw [f5.at a k (by unfold PH; omega), f4.at a k q, g3.1.at a k (by unfold PK; omega)]
      refine ⟨e42.trans r1.symm, ?_, f6.2.1, f6.2.2.1⟩
      show INV L w5 (Y + 100)
      refine inv_mk hO hv hdr hne hV hW hs hM he hf f6 (fun a k q => by unfold PYr PS at q; unfold KT; omega) (σ1 := yit V (-1) (-1) σ n) ?_ (past_keep hV hN u1 u2 u6 u7 u8 (by omega) ?_ ?_ k2 (hk1.eq (fun a k q1 q2 => (n5 a k (by unfold PS; omega) (by omega)).trans (r3.at a k (by unfold PYr; omega)))) (fun a k q1 q2 q3 => f6.at a k (by unfold PYr PS; omega)) (fun p hp => ?_) (fun i hi k hk => (k3 i hi k hk).trans (h3 _ _ (by omega))) (fun k hk => (k4 k hk).trans (h3 _ _ (by omega))) (by rw [ey]; omega)) (slot_mono (slot_eq hV hS (fun a k q => f6.at a k (by unfold PYr PS; omega))) (by omega)) (papr_eq hR (fun a k q => f6.at a k (by unfold PYr PS; omega))) (tape_eq hT (fun a k q => f6.at a k (by unfold PYr PS; omega)))
      · refine ⟨sok_yit hV hN.1 n, r2.eq (fun a k q1 q2 => n5 a k (by unfold PS; omega) (by omega)), hM4.2.2.1.eq hV (fun k hk => by rw [Nat.zero_add]; exact k1 k (by omega)), by rw [ey]; omega, ?_, fun p hp => ?_⟩
        · rw [Nat.zero_add, k1 45 (by omega), h45, ey]
        · rw [ey] at hp
          have hp4 : p < 400 := by omega
          by_cases c : (p : Int) < yr σ
          · have o1 := hN.2.2.2.2.2 p (by omega)
            have m4 : ∀ k, 60 ≤ k → k < 60 + 7 * p + 7 → wI w5 259 k = wI w 259 k := fun k q1 q2 => by rw [k1 k (by omega), hA k q1 (by omega) (by omega), g3.2.1 k (by omega), n2 259 k (by omega)]
            refine ⟨fun l hl => ?_, ?_, ?_⟩
            · rw [Nat.zero_add, m4 _ (by omega) (by omega), n5 (48 + 2) _ (by unfold PS; omega) (by omega), (r4 p c).2 l (by omega), f1.at 50 _ (by omega)]
              have := o1.1 l hl
              rw [Nat.zero_add] at this
              exact this
            · rw [Nat.zero_add, m4 _ (by omega) (by omega), n5 (48 + 1) _ (by unfold PS; omega) (by omega), (r4 p c).1, f1.at 49 _ (by omega)]
              have := o1.2.1
              rw [Nat.zero_add] at this
              exact this
            · rw [Nat.zero_add, m4 _ (by omega) (by omega)]
              have := o1.2.2
              rw [Nat.zero_add] at this
              exact this
          · obtain ⟨j, hj⟩ : ∃ j, p = (yr σ).toNat + j := ⟨p - (yr σ).toNat, by omega⟩
            have a1 := hB j (by omega) (by omega)
            have a2 := r5 j (by omega) (by omega)
            rw [← hj] at a1 a2
            have hKd : SOK V (dys V σ j) := sok_dayd hV (sok_yit hV hN.1 j) _
            refine ⟨fun l hl => ?_, ?_, ?_⟩
            · rw [Nat.zero_add, k1 _ (by omega), a1.1 l hl, n5 (48 + 2) _ (by unfold PS; omega) (by omega), a2.2 l hl]
              exact ⟨rfl, hKd.1 l hl⟩
            · rw [Nat.zero_add, k1 _ (by omega), a1.2, n5 (48 + 1) _ (by unfold PS; omega) (by omega), a2.1]
            · rw [Nat.zero_add, k1 _ (by omega), a1.2]
              exact jd_bd _ _ _ _ _ _
      · rw [n5 51 0 (by unfold PS; omega) (by omega), r3.at 51 0 (by unfold PYr; omega)]; exact g1.2.2.1
      · rw [n5 51 1 (by unfold PS; omega) (by omega), r3.at 51 1 (by unfold PYr; omega)]; exact g1.2.2.2
      · have o2 := r4 p (by omega)
        refine ⟨?_, fun l hl => ?_⟩
        · rw [n5 49 _ (by unfold PS; omega) (by omega), o2.1, f1.at 49 _ (by omega)]
        · rw [n5 50 _ (by unfold PS; omega) (by omega), o2.2 l hl, f1.at 50 _ (by omega)]
  · rw [if_neg q]
    refine wp_pos rfl (wp_ret (wp_gd hO rfl (wp_eq (q_min 0 100) ?_)))
    unfold bz
    rw [if_neg q]
    exact wp_pos rfl (wp_ret ⟨rfl, hI, rfl, rfl⟩)
end K20
