/-! Level 3: calls, years. -/
theorem yr_day1 (V : Vl) (tH tL d : Int) (σ : Sg) (h : Nat) : yr (day1 V tH tL d σ h) = yr σ := by
  unfold day1 lsn
  split <;> split <;> rfl
theorem yr_dayh (V : Vl) (tH tL d : Int) (σ : Sg) : ∀ n, yr (dayh V tH tL d σ n) = yr σ
  | 0 => rfl
  | n + 1 => (yr_day1 V tH tL d _ n).trans (yr_dayh V tH tL d σ n)
theorem yr_dayd (V : Vl) (tH tL : Int) (σ : Sg) : ∀ n, yr (dayd V tH tL σ n) = yr σ
  | 0 => rfl
  | n + 1 => (yr_dayh V tH tL _ _ (nh V)).trans (yr_dayd V tH tL σ n)
theorem yr_year (V : Vl) (tH tL : Int) (σ : Sg) : yr (yearS V tH tL σ) = w32 (yr σ + 1) := by
  show w32 (yr (dayd V tH tL σ (dy V)) + 1) = _
  rw [yr_dayd]
theorem yr_yit (V : Vl) (tH tL : Int) (σ : Sg) (h0 : 0 ≤ yr σ) : ∀ n : Nat, yr σ + (n : Int) < 2147483648 → yr (yit V tH tL σ n) = yr σ + (n : Int)
  | 0, _ => by rw [show yit V tH tL σ 0 = σ from rfl]; omega
  | n + 1, h => by
    show yr (yearS V tH tL (yit V tH tL σ n)) = _
    rw [yr_year, yr_yit V tH tL σ h0 n (by omega), w32_id (by omega) (by omega)]
    omega
/-- the state that is judged in the year j from now -/
def dys (V : Vl) (σ : Sg) (j : Nat) : Sg := dayd V (-1) (-1) (yit V (-1) (-1) σ j) (dy V)
section K20
variable {L wl dr tx s b : Nat} {w : Wd} {V : Vl} {σ σ1 : Sg} {x y z Y Y1 : Int}
def PLd (σ : Sg) (a k : Nat) : Prop := a = 49 ∧ (k : Int) = yr σ
theorem c_ldS {Q : Wd → Prop} {n l : Nat} {x z : Int} (hO : Ok L wl dr tx w) (hH : HB w 40) (hx : 0 ≤ x ∧ x < 1099511627776) (hl : l < 6) (hz : z = (l : Int) - 1) (kk : Wp (Bk_lead_29 n 48 40 (x * 128 + wI w (40 + 1) l) z w) Q) : Wp (Bk_lead_29 (n + 1) 48 40 x (l : Int) w) Q := by
  have hb := hH l hl
  rw [Bk_lead_29]
  refine wp_neg (by omega) (wp_R9_3 hO isSt_40 (wp_rI hO (sh_St_3 L isSt_40) (by omega) ?_))
  rw [Int.toNat_natCast, pg_step hx (by omega), w32_id (by omega) (by omega), show (l : Int) + (-1) = z by omega]
  exact kk
theorem c_lead (hV : VOK V) (hO : Ok L wl dr tx w) (hS : CS w 40 V σ) (hH : HB w 40) (hy : 0 ≤ yr σ) (ho : -1 ≤ ow σ ∧ ow σ < nh V) : Wp (Bk_lead 48 40 w) (fun w1 => Fb (PLd σ) w w1 ∧ (∀ a k, wI w1 a k = wI w a k) ∧ (yr σ < 400 → pgk (wL w1 49 (yr σ).toNat) ∧ pgo (wL w1 49 (yr σ).toNat) = cow (ow σ) ∧ ∀ l, l < nl V → pgh (wL w1 49 (yr σ).toNat) l = hd σ l)) := by
  have h6 := hV.1
  have h6' := hV.2.1
  have hc : -2 ≤ cow (ow σ) ∧ cow (ow σ) ≤ 5 := by unfold cow; split <;> omega
  have h0 := hH 0 (by omega)
  have h1 := hH 1 (by omega)
  have h2 := hH 2 (by omega)
  have h3 := hH 3 (by omega)
  have h4 := hH 4 (by omega)
  have h5 := hH 5 (by omega)
  unfold Bk_lead Bk_lead_0
  generalize hFU : FU = fu; have hfu : 1000000 = fu := hFU
  refine wp_gd hO (sh_Bk L isBk_48) (wp_gI hO (sh_St L isSt_40) ?_)
  rw [hS.1]
  refine wp_neg (by omega) (wp_gI hO (sh_St L isSt_40) ?_)
  rw [hS.1]
  refine wp_ite (fun q => wp_ret ⟨Fb.rf w, fun _ _ => rfl, fun h => absurd h (by omega)⟩) (fun q => wp_gI hO (sh_St L isSt_40) ?_)
  rw [hS.2.2.1, w32_id (by omega) (by omega)]
  obtain ⟨m, rfl⟩ : ∃ m, fu = m + 1 + 1 + 1 + 1 + 1 + 1 + 1 := ⟨fu - 7, by omega⟩
  refine c_ldS (l := 5) (z := ((4 : Nat) : Int)) hO hH (by omega) (by omega) (by omega) ?_
  refine c_ldS (l := 4) (z := ((3 : Nat) : Int)) hO hH (by omega) (by omega) (by omega) ?_
  refine c_ldS (l := 3) (z := ((2 : Nat) : Int)) hO hH (by omega) (by omega) (by omega) ?_
  refine c_ldS (l := 2) (z := ((1 : Nat) : Int)) hO hH (by omega) (by omega) (by omega) ?_
  refine c_ldS (l := 1) (z := ((0 : Nat) : Int)) hO hH (by omega) (by omega) (by omega) ?_
  refine c_ldS (l := 0) (z := -1) hO hH (by omega) (by omega) (by omega) ?_
  rw [Bk_lead_29]
  unfold Bk_lead_54 Bk_lead_64
  refine wp_pos (by decide) (wp_R0_0 hO isBk_48 (wp_gI hO (sh_St L isSt_40) ?_))
  rw [hS.1]
  refine wp_wL hO (sh_Bk_0 L isBk_48) (by omega) (wp_ret ?_)
  have e : ((((((cow (ow σ) - (-2)) * 128 + wI w (40 + 1) 5) * 128 + wI w (40 + 1) 4) * 128 + wI w (40 + 1) 3) * 128 + wI w (40 + 1) 2) * 128 + wI w (40 + 1) 1) * 128 + wI w (40 + 1) 0 = pgm (cow (ow σ)) (wI w (40 + 1)) := by unfold pgm; omega
  rw [e]
  obtain ⟨k1, k2, k3⟩ := pgm_ok (h := wI w (40 + 1)) hc (fun l hl => hH l hl)
  refine ⟨fb_sL ⟨rfl, by omega⟩, fun _ _ => rfl, fun _ => ?_⟩
  rw [show wL (sL w (48 + 1) (yr σ).toNat (pgm (cow (ow σ)) (wI w (40 + 1)))) 49 (yr σ).toNat = pgm (cow (ow σ)) (wI w (40 + 1)) from wL_sLe _ _ _ _]
  exact ⟨k1, k2, fun l hl => (k3 l (by omega)).trans (hS.2.2.2.1 l hl)⟩
/-- what years do to the class -/
def PYr (v a : Nat) (_ : Nat) : Prop := a = v + 10 ∨ a = v + 11 ∨ (178 ≤ a ∧ a ≤ 185) ∨ (40 ≤ a ∧ a ≤ 43) ∨ a = 49
theorem c_yr29 {N : Nat} {w0 : Wd} (hV : VOK V) (hK : SOK V σ) (hv : isWi wl) (h0 : 0 ≤ yr σ) (hy : yr σ + (N : Int) < 1000000) : ∀ (r m n : Nat) (w : Wd), n + r = N → r < m → Ok L wl dr tx w → CW w wl V → CS w 40 V (yit V (-1) (-1) σ n) → HB w 40 → Fb (PYr wl) w0 w → (∀ p : Nat, (p : Int) < yr σ → wL w 49 p = wL w0 49 p) → (∀ j, j < n → yr σ + (j : Int) < 400 → pgk (wL w 49 ((yr σ).toNat + j)) ∧ pgo (wL w 49 ((yr σ).toNat + j)) = cow (jdg V (dys V σ j) (sd V)) ∧ ∀ l, l < nl V → pgh (wL w 49 ((yr σ).toNat + j)) l = hd (dys V σ j) l) →
    Wp (Hh_years_29 m 6 (N : Int) (n : Int) w) (fun q => q.1 = yr σ + (N : Int) ∧ (CS q.2 40 V (yit V (-1) (-1) σ N) ∧ HB q.2 40) ∧ Fb (PYr wl) w0 q.2 ∧ (∀ p : Nat, (p : Int) < yr σ → wL q.2 49 p = wL w0 49 p) ∧ (∀ j, j < N → yr σ + (j : Int) < 400 → pgk (wL q.2 49 ((yr σ).toNat + j)) ∧ pgo (wL q.2 49 ((yr σ).toNat + j)) = cow (jdg V (dys V σ j) (sd V)) ∧ ∀ l, l < nl V → pgh (wL q.2 49 ((yr σ).toNat + j)) l = hd (dys V σ j) l))
  | r, 0, n, w, _, hm, _, _, _, _, _, _, _ => absurd hm (by omega)
  | 0, m + 1, n, w, hr, hm, hO, hW, hS, hH, hF, hA, hB => by
    have e : n = N := by omega
    subst e
    rw [Hh_years_29]
    unfold Hh_years_98
    refine wp_pos (by omega) (wp_R11_4 hO (wp_gI hO (sh_St L isSt_40) (wp_ret ⟨?_, ⟨hS, hH⟩, hF, hA, hB⟩)))
    show wI w 40 0 = _
    rw [hS.1, yr_yit V _ _ σ h0 n (by omega)]
  | r + 1, m + 1, n, w, hr, hm, hO, hW, hS, hH, hF, hA, hB => by
    have hv' := wi_bd hv
    have h6 := hV.1
    have ey := yr_yit V (-1) (-1) σ h0 n (by omega)
    rw [Hh_years_29]
    refine wp_neg (by omega) (wp_R11_10 hO (wp_R11_3 hO (wi_ne hv) (wp_R11_4 hO (wp_call (c_spendDays hV hv isSt_40 (sok_yit hV hK n) hO hW hS) (fun w1 g1 => ?_)))))
    have f1 : Fr (PYr wl) w w1 := g1.1.mono (fun a k q => by unfold PD at q; unfold PYr; omega)
    have hO1 := f1.ok hO
    have hW1 : CW w1 wl V := hW.eq (fun a k q1 q2 => f1.at a k (by unfold PYr; omega))
    have hK1 : SOK V (dys V σ n) := sok_dayd hV (sok_yit hV hK n) _
    have hS1 : CS w1 40 V (dys V σ n) := g1.2
    have hH1 : HB w1 40 := hH.eq (fun k => g1.1.at _ k (by unfold PD; omega))
    have ed : yr (dys V σ n) = yr σ + (n : Int) := (yr_dayd V _ _ _ _).trans ey
    refine wp_R11_10 hO1 (wp_R11_3 hO1 (wi_ne hv) (wp_R11_4 hO1 (wp_call (c_settle hV hK1 hv isSt_40 hO1 hW1 hS1) (fun w2 g2 => ?_))))
    have f2 : Fr (PYr wl) w w2 := f1.tr (g2.1.mono (fun a k q => by unfold PY at q; unfold PYr; omega))
    have hO2 := f2.ok hO
    have hW2 : CW w2 wl V := hW.eq (fun a k q1 q2 => f2.at a k (by unfold PYr; omega))
    have hH2 : HB w2 40 := hH1.eq g2.2.2.2
    have es : yr (stl V (dys V σ n)) = yr σ + (n : Int) := ed
    refine wp_R11_6 hO2 (wp_R11_4 hO2 (wp_call (c_lead hV hO2 g2.2.1 hH2 (by omega) (sok_stl hK1).2.2) (fun w3 g3 => ?_)))
    have f3 : Fb (PYr wl) w w3 := f2.fb.tr (g3.1.mono (fun a k q => by unfold PLd at q; unfold PYr; omega))
    have hO3 := f3.ok hO
    have hW3 : CW w3 wl V := hW.eq (fun a k q1 q2 => f3.at a k (by unfold PYr; omega))
    have hS3 : CS w3 40 V (stl V (dys V σ n)) := g2.2.1.eq (fun a k q1 q2 => g3.2.1 a k)
    have hH3 : HB w3 40 := hH2.eq (fun k => g3.2.1 _ k)
    refine wp_R11_10 hO3 (wp_R11_3 hO3 (wi_ne hv) (wp_R11_4 hO3 (wp_call (c_endYear hV (sok_stl hK1) hv isSt_40 hO3 hW3 hS3) (fun w4 g4 => ?_))))
    have f4 : Fb (PYr wl) w w4 := f3.tr (g4.1.mono (fun a k q => by unfold PY at q; unfold PYr; omega)).fb
    have hO4 := f4.ok hO
    have hW4 : CW w4 wl V := hW.eq (fun a k q1 q2 => f4.at a k (by unfold PYr; omega))
    have hS4 : CS w4 40 V (yit V (-1) (-1) σ (n + 1)) := g4.2.1
    have hH4 : HB w4 40 := fun l hl => by
      by_cases q : l < nl V
      · rw [hS4.2.2.2.1 l q]
        exact (sok_yit hV hK (n + 1)).1 l q
      · rw [g4.2.2.2 l (by omega)]
        exact hH3 l hl
    have nw : ∀ k : Nat, (k : Int) ≠ yr σ + (n : Int) → wL w4 49 k = wL w 49 k := fun k q => (fr_l g4.1 49 k).trans ((g3.1.l 49 k (by unfold PLd; omega)).trans (fr_l f2 49 k))
    rw [w32_id (z := (n : Int) + 1) (by omega) (by omega), show (n : Int) + 1 = ((n + 1 : Nat) : Int) by omega]
    refine c_yr29 hV hK hv h0 hy r m (n + 1) w4 (by omega) (by omega) hO4 hW4 hS4 hH4 (hF.tr f4) (fun p hp => (nw p (by omega)).trans (hA p hp)) (fun j hj hj4 => ?_)
    by_cases e : j = n
    · subst e
      have g := g3.2.2 (by omega)
      rw [es, show (yr σ + (j : Int)).toNat = (yr σ).toNat + j by omega] at g
      rw [fr_l g4.1]
      exact g
    · rw [nw _ (by omega)]
      exact hB j (by omega) hj4
theorem m_yr30 {N : Nat} {w0 : Wd} (hV : VOK V) (hK : SOK V σ) (h0 : 0 ≤ yr σ) (hy : yr σ + (N : Int) < 1000000) {Q : Int × Wd → Prop} (kk : ∀ w1, Ok L wl dr tx w1 → MC w1 s V (yit V (-1) (-1) σ N) (sd V) (-1) (-1) (-1) (-1) → wI w1 256 45 = min (yr σ + (N : Int)) 400 → Fr PS w0 w1 → (∀ k : Nat, 60 ≤ k → k < 2860 → (k : Int) < 60 + 7 * yr σ → wI w1 256 k = wI w0 256 k) → (∀ j, j < N → yr σ + (j : Int) < 400 → (∀ l, l < nl V → wI w1 256 (60 + 7 * ((yr σ).toNat + j) + l) = hd (dys V σ j) l) ∧ wI w1 256 (66 + 7 * ((yr σ).toNat + j)) = jdg V (dys V σ j) (sd V)) → Wp (Mo_years_45 223 w1) Q) : ∀ (r m n : Nat) (w : Wd), n + r = N → r < m → Ok L wl dr tx w → MC w s V (yit V (-1) (-1) σ n) (sd V) (-1) (-1) (-1) (-1) → wI w 256 45 = min (yr σ + (n : Int)) 400 → Fr PS w0 w → (∀ k : Nat, 60 ≤ k → k < 2860 → (k : Int) < 60 + 7 * yr σ → wI w 256 k = wI w0 256 k) → (∀ j, j < n → yr σ + (j : Int) < 400 → (∀ l, l < nl V → wI w 256 (60 + 7 * ((yr σ).toNat + j) + l) = hd (dys V σ j) l) ∧ wI w 256 (66 + 7 * ((yr σ).toNat + j)) = jdg V (dys V σ j) (sd V)) →
    Wp (Mo_years_30 m 223 (N : Int) (n : Int) w) Q
  | r, 0, n, w, _, hm, _, _, _, _, _, _ => absurd hm (by omega)
  | 0, m + 1, n, w, hr, hm, hO, hM, h45, hF, hA, hB => by
    have e : n = N := by omega
    subst e
    rw [Mo_years_30]
    exact wp_pos (by omega) (kk w hO hM h45 hF hA hB)
  | r + 1, m + 1, n, w, hr, hm, hO, hM, h45, hF, hA, hB => by
    have h6 := hV.1
    have e45 : wI w 256 45 = ((min (yr σ + (n : Int)) 400).toNat : Int) := by rw [h45]; omega
    rw [Mo_years_30]
    refine wp_neg (by omega) (wp_call (m_year hV (sok_yit hV hK n) (fun h hh => absurd hh (by omega)) hO hM (by omega) e45) (fun w1 g1 => ?_))
    have f1 : Fr PS w0 w1 := hF.tr (g1.1.mono (fun a k q => by unfold PM5 at q; unfold PS; omega))
    have hO1 := g1.1.ok hO
    obtain ⟨b1, b2, b3⟩ := g1.2.2.1
    rw [w32_id (z := (n : Int) + 1) (by omega) (by omega), show (n : Int) + 1 = ((n + 1 : Nat) : Int) by omega]
    refine m_yr30 hV hK h0 hy kk r m (n + 1) w1 (by omega) (by omega) hO1 g1.2.1 (by rw [b1]; omega) f1 (fun k hk1 hk3 hk2 => ?_) (fun j hj hj4 => ?_)
    · rw [b2 k hk1 (by omega)]; exact hA k hk1 hk3 hk2
    · by_cases e : j = n
      · subst e
        have ed : (min (yr σ + (j : Int)) 400).toNat = (yr σ).toNat + j := by omega
        rw [ed] at b3
        exact b3 (by omega)
      · have b := hB j (by omega) hj4
        refine ⟨fun l hl => ?_, ?_⟩
        · rw [b2 _ (by omega) (by omega)]; exact b.1 l hl
        · rw [b2 _ (by omega) (by omega)]; exact b.2
theorem call_years (h : INV L w Y) (hY : Y ≤ 900000) : CALL L w (Y + 100) (Hh_years 6 x) (Mo_years 223 x) := by
  have hI := inv_mono (Y1 := Y + 100) h (by omega)
  obtain ⟨wl, dr, tx, s, V, σ, hO, hv, hdr, hne, hV, hW, hs, hM, hN, ⟨u, xx, τ, u1, u2, u3, u4, u5, u6, u7, u8⟩, hS, hR, hT, he, hf⟩ := h
  have hv' := wi_bd hv
  have h6 := hV.1
  have hy := hN.2.2.2.1
  unfold CALL Hh_years Hh_years_0 Hh_years_27 Mo_years Mo_years_0
  generalize hFU : FU = fu; have hfu : 1000000 = fu := hFU
  refine wp_gd hO rfl (wp_eq (q_within 0 100) ?_)
  unfold bz
  by_cases q : 0 ≤ x ∧ x ≤ 100
  · rw [if_pos q]
    obtain ⟨n, rfl⟩ := Int.eq_ofNat_of_zero_le q.1
    refine wp_neg (show ¬ (1 : Int) = 0 by decide) ?_
    by_cases n0 : n = 0
    · subst n0
      refine wp_pos (by decide) ?_
      obtain ⟨m, rfl⟩ : ∃ m, fu = m + 1 := ⟨fu - 1, by omega⟩
      rw [Hh_years_29]
      unfold Hh_years_98
      refine wp_pos (by decide) (wp_R11_4 hO (wp_gI hO (sh_St L isSt_40) (wp_ret ?_)))
      refine wp_gd hO rfl (wp_eq (q_min 0 100) ?_)
      unfold bz
      rw [if_pos q]
      refine wp_neg (show ¬ (1 : Int) = 0 by decide) (wp_pos rfl (wp_R12_49 hO (wp_rI hO rfl (by omega) (wp_ret ⟨?_, hI, rfl, rfl⟩))))
      show wI w 255 42 = wI w 40 0
      rw [n42 hN, hN.2.1.1]
    · refine wp_neg (by omega) (wp_R11_7 hO (wp_R11_4 hO (wp_call (c_keep u1 u2 hO u3 u4) (fun w1 g1 => ?_))))
      have f1 := g1.1
      have hO1 := f1.ok hO
      have hS1 : CS w1 40 V σ := hN.2.1.eq (fun a k q1 q2 => f1.at a k (by omega))
      have hk1 : CS w1 (52 + 4 * xx) V σ := cs_copy hV hN.2.1 g1.2.1
      have hW1 : CW w1 wl V := hW.eq (fun a k q1 q2 => f1.at a k (by omega))
      refine wp_use (c_yr29 (N := n) (w0 := w1) hV hN.1 hv hy.1 (by omega) n fu 0 w1 (by omega) (by omega) hO1 hW1 hS1 (hN.2.2.2.2.2.2.eq (fun k => f1.at _ k (by omega))) (Fb.rf w1) (fun p _ => rfl) (fun j hj => absurd hj (by omega))) (fun r hr => ?_)
      obtain ⟨r1, ⟨r2, r2H⟩, r3, r4, r5⟩ := hr
      have hO2 := r3.ok hO1
      have f2 : Fb (fun a k => PYr wl a k ∨ (52 + 4 * xx ≤ a ∧ a ≤ 52 + 4 * xx + 3) ∨ a = 50) w r.2 := (f1.mono (fun a k q => by omega)).fb.tr (r3.mono (fun a k q => Or.inl q))
      have n2 : ∀ a k, 202 ≤ a → wI r.2 a k = wI w a k := fun a k q => f2.at a k (by unfold PYr; omega)
      have hs2 := (n2 223 18 (by omega)).trans hs
      have hM2 := hM.eq (w1 := r.2) (fun a k q1 q2 => n2 a k (by omega))
      refine wp_gd hO2 rfl (wp_eq (q_min 0 100) ?_)
      unfold bz
      rw [if_pos q]
      refine wp_neg (show ¬ (1 : Int) = 0 by decide) (wp_neg (by omega) (wp_call (i_copiesAll hV hO2 hs2 hM2 (hN.2.2.1.eq hV (fun k hk => n2 255 _ (by omega))) ((n2 255 45 (by omega)).trans (n45 hN)) hy.1) (fun w3 g3 => ?_)))
      have hO3 := g3.1.ok hO2
      have n3 : ∀ a k, ¬ PK 2860 a k → 202 ≤ a → wI w3 a k = wI w a k := fun a k q q2 => (g3.1.at a k q).trans (n2 a k q2)
      refine m_yr30 (N := n) (w0 := w3) hV hN.1 hy.1 (by omega) (fun w4 hO4 hM4 h45 f4 hA hB => ?_) n fu 0 w3 (by omega) (by omega) hO3 g3.2.2.1 (by rw [g3.2.2.2.1]; omega) (Fr.rf w3) (fun k _ _ _ => rfl) (fun j hj => absurd hj (by omega))
      have h3 : ∀ a k, a = 259 ∨ a = 255 ∨ (a = 223 ∧ k = 58) → wI w4 a k = wI w a k := fun a k q => (f4.at a k (by unfold PS; omega)).trans (n3 a k (by unfold PK; omega) (by omega))
      unfold Mo_years_45
      refine wp_call (m_keeps u1 hO4 ((h3 223 58 (by omega)).trans u5)) (fun w5 g5 => ?_)
      obtain ⟨f5, k1, k2, k3, k4⟩ := g5
      have hO5 := f5.ok hO4
      have ey := yr_yit V (-1) (-1) σ hy.1 n (by omega)
      refine wp_R12_49 hO5 (wp_rI hO5 rfl (by omega) (wp_ret ?_))
      have e42 : wI w5 255 42 = yr σ + (n : Int) := by rw [k1 42 (by omega), hM4.yr, ey]
      have f6 : Fb (fun a k => PYr wl a k ∨ PS a k ∨ (52 + 4 * xx ≤ a ∧ a ≤ 52 + 4 * xx + 3) ∨ a = 50 ∨ a = 259 ∨ (a = 223 ∧ k = 58) ∨ a = 255) w w5 := (((f2.mono (fun a k q => q.elim Or.inl (fun q => Or.inr (Or.inr (by omega))))).tr (g3.1.mono (fun a k q => Or.inr (Or.inl (by unfold PK at q; unfold PS; omega)))).fb).tr (f4.mono (fun a k q => Or.inr (Or.inl q))).fb).tr (f5.mono (fun a k q => by unfold PH at q; omega)).fb
      have l5 : ∀ a k, wL w5 a k = wL r.2 a k := fun a k => (fr_l f5 a k).trans ((fr_l f4 a k).trans (fr_l g3.1 a k))
      have n5 : ∀ a k, ¬ PS a k → a < 223 → wI w5 a k = wI r.2 a k := fun a k q q2 => by rw [f5.at a k (by unfold PH; omega), f4.at a k q, g3.1.at a k (by unfold PK; omega)]
      refine ⟨e42.trans r1.symm, ?_, f6.2.1, f6.2.2.1⟩
      show INV L w5 (Y + 100)
      refine inv_mk hO hv hdr hne hV hW hs hM he hf f6 (fun a k q => by unfold PYr PS at q; unfold KT; omega) (σ1 := yit V (-1) (-1) σ n) ?_ (past_keep hV hN u1 u2 u6 u7 u8 (by omega) ?_ ?_ k2 (hk1.eq (fun a k q1 q2 => (n5 a k (by unfold PS; omega) (by omega)).trans (r3.at a k (by unfold PYr; omega)))) ((hb_copy (b := 52 + 4 * xx) hN.2.2.2.2.2.2 g1.2.1.2.1).eq (fun k => (n5 _ k (by unfold PS; omega) (by omega)).trans (r3.at _ k (by unfold PYr; omega)))) (fun a k q1 q2 q3 => f6.at a k (by unfold PYr PS; omega)) (fun p hp => ?_) (fun i hi k hk => (k3 i hi k hk).trans (h3 _ _ (by omega))) (fun k hk => (k4 k hk).trans (h3 _ _ (by omega))) (by rw [ey]; omega)) (slot_mono (slot_eq hV hS (fun a k q => f6.at a k (by unfold PYr PS; omega)) (fun x k _ _ => f6.l x k (by unfold PYr PS; omega))) (by omega)) (papr_eq hR (fun a k q => f6.at a k (by unfold PYr PS; omega))) (tape_eq hT (fun a k q => f6.at a k (by unfold PYr PS; omega)))
      · refine ⟨sok_yit hV hN.1 n, r2.eq (fun a k q1 q2 => n5 a k (by unfold PS; omega) (by omega)), hM4.2.2.1.eq hV (fun k hk => by rw [Nat.zero_add]; exact k1 k (by omega)), by rw [ey]; omega, ?_, fun p hp => ?_, r2H.eq (fun k => n5 _ k (by unfold PS; omega) (by omega))⟩
        · rw [Nat.zero_add, k1 45 (by omega), h45, ey]
        · rw [ey] at hp
          have hp4 : p < 400 := by omega
          by_cases c : (p : Int) < yr σ
          · have o1 := hN.2.2.2.2.2.1 p (by omega)
            have m4 : ∀ k, 60 ≤ k → k < 60 + 7 * p + 7 → wI w5 255 k = wI w 255 k := fun k q1 q2 => by rw [k1 k (by omega), hA k q1 (by omega) (by omega), g3.2.1 k (by omega), n2 255 k (by omega)]
            rw [show wL w5 (48 + 1) p = wL w (48 + 1) p from (l5 49 p).trans ((r4 p c).trans (fr_l f1 49 p)), m4 (0 + 66 + 7 * p) (by omega) (by omega)]
            refine ⟨fun l hl => ?_, o1.2⟩
            rw [m4 _ (by omega) (by omega)]
            exact o1.1 l hl
          · obtain ⟨j, hj⟩ : ∃ j, p = (yr σ).toNat + j := ⟨p - (yr σ).toNat, by omega⟩
            have a1 := hB j (by omega) (by omega)
            have a2 := r5 j (by omega) (by omega)
            rw [← hj] at a1 a2
            have hKd : SOK V (dys V σ j) := sok_dayd hV (sok_yit hV hN.1 j) _
            rw [show wL w5 (48 + 1) p = wL r.2 49 p from l5 49 p, Nat.zero_add, Nat.zero_add, k1 (66 + 7 * p) (by omega), a1.2]
            refine ⟨fun l hl => ?_, a2.2.1, jd_bd _ _ _ _ _ _, a2.1⟩
            rw [k1 _ (by omega), a1.1 l hl, a2.2.2 l hl]
            exact ⟨rfl, hKd.1 l hl⟩
      · rw [n5 50 0 (by unfold PS; omega) (by omega), r3.at 50 0 (by unfold PYr; omega)]; exact g1.2.2.1
      · rw [n5 50 1 (by unfold PS; omega) (by omega), r3.at 50 1 (by unfold PYr; omega)]; exact g1.2.2.2
      · exact (l5 49 p).trans ((r4 p (by omega)).trans (fr_l f1 49 p))
  · rw [if_neg q]
    refine wp_pos rfl (wp_ret (wp_gd hO rfl (wp_eq (q_min 0 100) ?_)))
    unfold bz
    rw [if_neg q]
    exact wp_pos rfl (wp_ret ⟨rfl, hI, rfl, rfl⟩)
end K20
