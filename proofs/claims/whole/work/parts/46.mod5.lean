/-! Level 3, the reference: a year goes. -/
def PM4 (a k : Nat) : Prop := a = 253 ∨ a = 254 ∨ (a = 223 ∧ k = 48) ∨ (a = 256 ∧ k < 60 ∧ k ≠ 45)
def PM5 (a k : Nat) : Prop := a = 253 ∨ a = 254 ∨ (a = 223 ∧ k = 48) ∨ a = 257 ∨ a = 258 ∨ a = 256
theorem pm14 {w w1 : Wd} (h : Fr PM1 w w1) : Fr PM4 w w1 := h.mono (fun a k q => by unfold PM1 at q; unfold PM4; omega)
theorem pm45 {w w1 : Wd} (h : Fr PM4 w w1) : Fr PM5 w w1 := h.mono (fun a k q => by unfold PM4 at q; unfold PM5; omega)
theorem pm25 {w w1 : Wd} (h : Fr PM2 w w1) : Fr PM5 w w1 := h.mono (fun a k q => by unfold PM2 at q; unfold PM5; omega)
theorem mc_ms {w w1 : Wd} {s : Nat} {V : Vl} {σ τ : Sg} {lt nM nH oH oL : Int} (h : MC w s V σ lt nM nH oH oL) (f : Fr PM5 w w1) (hS : MS w1 256 0 V τ) : MC w1 s V τ lt nM nH oH oL := by
  have e : ∀ a k, ((233 ≤ a ∧ a ≤ 251) ∨ (a = 223 ∧ k ≠ 48)) → wI w1 a k = wI w a k := fun a k q => f.at a k (by unfold PM5; omega)
  obtain ⟨h0, h1, h2, h3, h4, h5, h6, h7⟩ := h
  exact ⟨(e _ _ (by omega)).trans h0, h1.eq (fun a k q1 q2 => e a k (by omega)), hS, (e _ _ (by omega)).trans h3, (e _ _ (by omega)).trans h4, (e _ _ (by omega)).trans h5, (e _ _ (by omega)).trans h6, (e _ _ (by omega)).trans h7⟩
section M5
variable {L wl dr tx s : Nat} {V : Vl} {σ : Sg} {w : Wd} {lt nM nH oH oL : Int}
theorem m_drifts {o l : Nat} (hV : VOK V) (hK : SOK V σ) (hO : Ok L wl dr tx w) (hM : MC w s V σ lt nM nH oH oL) (ho : ow σ = (o : Int)) (hl : l < nl V) : Wp (Mo_drifts 223 (o : Int) (l : Int) w) (fun w1 => ∃ w0, Fr PM1 w w0 ∧ w1 = sI w0 256 l (cl 0 99 (w32 (hd σ l + drf V σ l)))) := by
  have h6 := hV.1
  have hoh : o < nh V := by have := hK.2.2.2; omega
  have eo : (ow σ).toNat = o := by omega
  unfold Mo_drifts Mo_drifts_0
  refine wp_gd hO rfl (wp_eq (m_shapeOf hV hO hM hoh hl) (wp_R12_50 hO (wp_rI hO rfl (by omega) ?_)))
  rw [Int.toNat_natCast, hM.hd hl]
  refine wp_eq (q_apart w (hK.2.1 o hoh l hl) (hK.1 l hl)) (wp_R12_50 hO (wp_rI hO rfl (by omega) ?_))
  rw [Int.toNat_natCast, hM.hd hl]
  refine wp_call (m_setsOf hO) (fun w1 g1 => ?_)
  rw [hM.yr] at g1
  have f1 : Fr PM1 w w1 := g1.1.mono (fun a k q => Or.inl q)
  refine wp_call (m_tells (k := 9) (f1.ok hO) (hM.fr hV f1) (Or.inr (Or.inr rfl)) hV g1.2) (fun r hr => ?_)
  have f2 : Fr PM1 w r.2 := f1.tr (hr.2.mono (fun a k q => Or.inr q))
  have hO2 := f2.ok hO
  have hM2 := hM.fr hV f2
  have go : ∀ x : Int, x = drf V σ l → Wp (Mo_drifts_65 223 (l : Int) x r.2) (fun w1 => ∃ w0, Fr PM1 w w0 ∧ w1 = sI w0 256 l (cl 0 99 (w32 (hd σ l + drf V σ l)))) := by
    intro x hx
    unfold Mo_drifts_65 Mo_drifts_106
    refine wp_R12_50 hO2 (wp_rI hO2 rfl (by omega) (wp_R12_50 hO2 ?_))
    rw [Int.toNat_natCast, hM2.hd hl, hx, Int.add_comm (drf V σ l)]
    generalize w32 (hd σ l + drf V σ l) = y
    have fin : ∀ z, z = cl 0 99 y → Wp ((wrI r.2 256 (l : Int) z).bind fun w106 => some w106) (fun w1 => ∃ w0, Fr PM1 w w0 ∧ w1 = sI w0 256 l (cl 0 99 y)) := by
      intro z hz
      refine wp_wI hO2 rfl (by omega) (wp_ret ⟨r.2, f2, ?_⟩)
      rw [hz, Int.toNat_natCast]
    refine wp_ite (fun q => wp_ite (fun q2 => fin _ ?_) (fun q2 => fin _ ?_)) (fun q => fin _ ?_)
    · unfold cl; omega
    · unfold cl; omega
    · unfold cl; omega
  have er : drf V σ l = cl (-9) 9 r.1 := by
    rw [hr.1]
    unfold drf
    rw [eo]
  unfold cl at er
  refine wp_ite (fun q => wp_ite (fun q2 => go _ ?_) (fun q2 => go _ ?_)) (fun q => go _ ?_)
  · omega
  · omega
  · omega
theorem m_yg204 {τ : Sg} (hO : Ok L wl dr tx w) (hM : MC w s V τ lt nM nH oH oL) : Mo_yearGoes_204 223 w = some (sI w 256 42 (w32 (yr τ + 1))) := by
  refine wp_out ?_
  unfold Mo_yearGoes_204
  refine wp_R12_50 hO (wp_rI hO rfl (by omega) ?_)
  rw [show wI w 256 (42 : Int).toNat = yr τ from hM.yr]
  exact wp_wI hO rfl (by omega) (wp_ret rfl)
theorem m_yg179 {o : Nat} (hV : VOK V) (hK : SOK V σ) (ho : ow σ = (o : Int)) : ∀ (r n l : Nat) (w : Wd), l + r = nl V → r < n → Ok L wl dr tx w → MC w s V (endp V σ l) lt nM nH oH oL →
    Wp (Mo_yearGoes_179 n 223 (o : Int) (l : Int) w) (fun w1 => Fr PM4 w w1 ∧ MC w1 s V (endy V σ) lt nM nH oH oL)
  | r, 0, l, w, _, hn, _, _ => absurd hn (by omega)
  | 0, n + 1, l, w, hl, hn, hO, hM => by
    have hs := hM.2.1.1
    have h6 := hV.1
    have h7 := hV.2.1
    rw [Mo_yearGoes_179]
    refine wp_R12_23 hO (wp_gI hO rfl ?_)
    rw [hM.1]
    refine wp_rI hO rfl (by omega) ?_
    rw [Int.toNat_natCast, hM.2.1.2.1.1]
    refine wp_pos (by omega) (wp_is (m_yg204 hO hM) ?_)
    generalize hw1 : sI w 256 42 (w32 (yr (endp V σ l) + 1)) = w1
    have f1 : Fr PM4 w w1 := by rw [← hw1]; exact fr_sI (by unfold PM4; omega)
    have n1 : ∀ k, k ≠ 42 → wI w1 256 k = wI w 256 k := fun k hk => by rw [← hw1]; exact wI_ne (by omega)
    refine ⟨f1, mc_ms hM (pm45 f1) ?_⟩
    obtain ⟨-, -, m2, -⟩ := hM
    refine ⟨by rw [← hw1]; exact wI_eq _ _ _ _, (n1 _ (by omega)).trans m2.2.1, (n1 _ (by omega)).trans m2.2.2.1, fun x hx => ((n1 _ (by omega)).trans (m2.2.2.2.1 x hx)).trans ?_, fun x hx y hy => (n1 _ (by omega)).trans (m2.2.2.2.2.1 x hx y hy), fun x hx => (n1 _ (by omega)).trans (m2.2.2.2.2.2 x hx)⟩
    show (if x < l then cl 0 99 (w32 (hd σ x + drf V σ x)) else hd σ x) = (if 0 ≤ ow σ ∧ x < nl V then cl 0 99 (w32 (hd σ x + drf V σ x)) else hd σ x)
    rw [if_pos (by omega), if_pos ⟨by omega, hx⟩]
  | r + 1, n + 1, l, w, hl, hn, hO, hM => by
    have hs := hM.2.1.1
    have h6 := hV.1
    have h7 := hV.2.1
    rw [Mo_yearGoes_179]
    refine wp_R12_23 hO (wp_gI hO rfl ?_)
    rw [hM.1]
    refine wp_rI hO rfl (by omega) ?_
    rw [Int.toNat_natCast, hM.2.1.2.1.1]
    refine wp_neg (by omega) (wp_call (m_drifts hV (sok_endp hK l) hO hM ho (by omega)) (fun w2 h2 => ?_))
    have e0 : hd (endp V σ l) l = hd σ l := if_neg (Nat.lt_irrefl l)
    rw [w32_id (z := (l : Int) + 1) (by omega) (by omega), show (l : Int) + 1 = ((l + 1 : Nat) : Int) by omega]
    obtain ⟨w0, g1, g2⟩ := h2
    rw [drf_endp, e0] at g2
    have hM0 := hM.fr hV g1
    have f2 : Fr PM4 w w2 := by rw [g2]; exact (pm14 g1).sI (by unfold PM4; omega)
    have n2 : ∀ k, k ≠ l → wI w2 256 k = wI w0 256 k := fun k hk => by rw [g2]; exact wI_ne (by omega)
    refine wp_use (m_yg179 hV hK ho r n (l + 1) w2 (by omega) (by omega) (f2.ok hO) (mc_ms hM (pm45 f2) ?_)) (fun w3 h3 => ⟨f2.tr h3.1, h3.2⟩)
    obtain ⟨-, -, m2, -⟩ := hM0
    refine ⟨(n2 _ (by omega)).trans m2.1, (n2 _ (by omega)).trans m2.2.1, (n2 _ (by omega)).trans m2.2.2.1, fun x hx => ?_, fun x hx y hy => (n2 _ (by omega)).trans (m2.2.2.2.2.1 x hx y hy), fun x hx => (n2 _ (by omega)).trans (m2.2.2.2.2.2 x hx)⟩
    show _ = if x < l + 1 then cl 0 99 (w32 (hd σ x + drf V σ x)) else hd σ x
    have hx1 : wI w0 256 (0 + x) = if x < l then cl 0 99 (w32 (hd σ x + drf V σ x)) else hd σ x := m2.2.2.2.1 x hx
    rw [Nat.zero_add] at hx1 ⊢
    by_cases p : x = l
    · rw [p, g2, wI_eq, if_pos (by omega)]
    · rw [n2 x p, hx1]
      by_cases p2 : x < l
      · rw [if_pos p2, if_pos (by omega)]
      · rw [if_neg p2, if_neg (by omega)]
/-- the state once the year's owner is told, but for what drifts -/
theorem m_yg152 {τ : Sg} (hV : VOK V) (hK : SOK V τ) (hO : Ok L wl dr tx w) (hM : MC w s V (yr τ, w32 (wo τ + 1), ow τ, hd τ, sp τ, ha τ) lt nM nH oH oL) (lt' : Int) (hlt : sd V = lt') :
    Wp (Mo_yearGoes_152 223 (jdg V τ (sd V)) w) (fun w1 => Fr PM4 w w1 ∧ MC w1 s V (endy V (stl V τ)) lt nM nH oH oL) := by
  have h6 := hV.1
  have h7 := hV.2.1
  have jb : -1 ≤ jdg V τ (sd V) ∧ jdg V τ (sd V) < (nh V : Int) := jd_bd (ulk V τ (sd V)) (nh V) (nm V) (lm V) (-1) (-1)
  unfold Mo_yearGoes_152
  generalize hFU : FU = fu; have hfu : 1000000 = fu := hFU
  refine wp_R12_50 hO (wp_wI hO rfl (by omega) ?_)
  rw [show (43 : Int).toNat = 43 from rfl]
  generalize hw1 : sI w 256 43 (jdg V τ (sd V)) = w1
  have f1 : Fr PM4 w w1 := by rw [← hw1]; exact fr_sI (by unfold PM4; omega)
  have n1 : ∀ k, k ≠ 43 → wI w1 256 k = wI w 256 k := fun k hk => by rw [← hw1]; exact wI_ne (by omega)
  have v1 : wI w1 256 43 = jdg V τ (sd V) := by rw [← hw1]; exact wI_eq _ _ _ _
  have hO1 := f1.ok hO
  have m2 := hM.2.2.1
  refine wp_ite (fun q => ?_) (fun q => ?_)
  · have hM1 : MC w1 s V (endp V (stl V τ) 0) lt nM nH oH oL := mc_ms hM (pm45 f1) ⟨(n1 _ (by omega)).trans m2.1, (n1 _ (by omega)).trans m2.2.1, v1, fun x hx => ((n1 _ (by omega)).trans (m2.2.2.2.1 x hx)).trans (hd_endp0 V (stl V τ) x), fun x hx y hy => (n1 _ (by omega)).trans (m2.2.2.2.2.1 x hx y hy), fun x hx => ((n1 _ (by omega)).trans (m2.2.2.2.2.2 x hx)).trans (show ha τ x = (if (x : Int) = jdg V τ (sd V) then w32 (ha τ x + 1) else ha τ x) from (if_neg (by omega)).symm)⟩
    refine wp_is (m_yg204 hO1 hM1) ?_
    generalize hw3 : sI w1 256 42 (w32 (yr (endp V (stl V τ) 0) + 1)) = w3
    have f3 : Fr PM4 w w3 := by rw [← hw3]; exact f1.sI (by unfold PM4; omega)
    have n3 : ∀ k, k ≠ 42 → wI w3 256 k = wI w1 256 k := fun k hk => by rw [← hw3]; exact wI_ne (by omega)
    have m3 := hM1.2.2.1
    refine ⟨f3, mc_ms hM (pm45 f3) ⟨by rw [← hw3]; exact wI_eq _ _ _ _, (n3 _ (by omega)).trans m3.2.1, (n3 _ (by omega)).trans m3.2.2.1, fun x hx => ((n3 _ (by omega)).trans (m3.2.2.2.1 x hx)).trans ?_, fun x hx y hy => (n3 _ (by omega)).trans (m3.2.2.2.2.1 x hx y hy), fun x hx => (n3 _ (by omega)).trans (m3.2.2.2.2.2 x hx)⟩⟩
    refine (hd_endp0 V (stl V τ) x).symm.trans ?_
    show hd τ x = (if 0 ≤ jdg V τ (sd V) ∧ x < nl V then cl 0 99 (w32 (hd τ x + drf V (stl V τ) x)) else hd τ x)
    rw [if_neg (by omega)]
  · have e46 : w32 (46 + jdg V τ (sd V)) = ((46 + (jdg V τ (sd V)).toNat : Nat) : Int) := by rw [w32_id (by omega) (by omega)]; omega
    rw [e46]
    refine wp_R12_50 hO1 (wp_rI hO1 rfl (by omega) (wp_wI hO1 rfl (by omega) ?_))
    rw [Int.toNat_natCast]
    have hold : wI w1 256 (46 + (jdg V τ (sd V)).toNat) = ha τ (jdg V τ (sd V)).toNat := by
      have := (n1 (46 + (jdg V τ (sd V)).toNat) (by omega)).trans ((congrArg (wI w 256) (by omega)).trans (m2.2.2.2.2.2 (jdg V τ (sd V)).toNat (by omega)))
      exact this
    rw [hold]
    generalize hw3 : sI w1 256 (46 + (jdg V τ (sd V)).toNat) (w32 (ha τ (jdg V τ (sd V)).toNat + 1)) = w3
    have f3 : Fr PM4 w w3 := by rw [← hw3]; exact f1.sI (by unfold PM4; omega)
    have n3 : ∀ k, k ≠ 43 → k ≠ 46 + (jdg V τ (sd V)).toNat → wI w3 256 k = wI w 256 k := fun k hk hk2 => by rw [← hw3, wI_ne (by omega)]; exact n1 k hk
    have v3 : wI w3 256 43 = jdg V τ (sd V) := by rw [← hw3, wI_ne (by omega)]; exact v1
    have hM3 : MC w3 s V (endp V (stl V τ) 0) lt nM nH oH oL := mc_ms hM (pm45 f3) ⟨(n3 _ (by omega) (by omega)).trans m2.1, (n3 _ (by omega) (by omega)).trans m2.2.1, v3, fun x hx => ((n3 _ (by omega) (by omega)).trans (m2.2.2.2.1 x hx)).trans (hd_endp0 V (stl V τ) x), fun x hx y hy => (n3 _ (by omega) (by omega)).trans (m2.2.2.2.2.1 x hx y hy), fun x hx => by
      show _ = (if (x : Int) = jdg V τ (sd V) then w32 (ha τ x + 1) else ha τ x)
      by_cases p : (x : Int) = jdg V τ (sd V)
      · have px : x = (jdg V τ (sd V)).toNat := by omega
        rw [if_pos p, ← hw3, px, Nat.zero_add, wI_eq]
      · rw [if_neg p]; exact (n3 _ (by omega) (by omega)).trans (m2.2.2.2.2.2 x hx)⟩
    have ej : jdg V τ (sd V) = (((jdg V τ (sd V)).toNat : Nat) : Int) := by omega
    have g := m_yg179 (o := (jdg V τ (sd V)).toNat) hV (sok_stl hK) ej (nl V) fu 0 w3 (by omega) (by omega) (f3.ok hO) hM3
    rw [← ej] at g
    exact wp_use g (fun w4 h4 => ⟨f3.tr h4.1, h4.2⟩)
end M5
