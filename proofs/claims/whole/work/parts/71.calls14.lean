/-! Level 3: calls, bias. -/
def vom (V : Vl) (σ : Sg) (m n : Nat) : Int := vo (ulk V (dayd V (-1) (-1) (yit V (-1) (-1) σ n) (dy V)) (sd V)) m (-1) (nh V)
def bia (V : Vl) (σ : Sg) (m : Nat) : Nat → Int
  | 0 => 0
  | n + 1 => if vom V σ m n = ow (yit V (-1) (-1) σ (n + 1)) then bia V σ m n else w32 (bia V σ m n + 1)
theorem vom_bd (V : Vl) (σ : Sg) (m n : Nat) : -1 ≤ vom V σ m n := (vo_bd _ _ _ _).1
theorem ow_yit (V : Vl) (σ : Sg) (n : Nat) : -1 ≤ ow (yit V (-1) (-1) σ (n + 1)) ∧ ow (yit V (-1) (-1) σ (n + 1)) < (nh V : Int) := jd_bd _ _ _ _ _ _
theorem vom_neg {V : Vl} {σ : Sg} {m n : Nat} (h : vom V σ m n < 0) : vom V σ m n = ow (yit V (-1) (-1) σ (n + 1)) := by
  have h1 := vo_none (ulk V (dayd V (-1) (-1) (yit V (-1) (-1) σ n) (dy V)) (sd V)) m (-1) (nh V) h
  have h2 := ow_yit V σ n
  have h3 := vom_bd V σ m n
  have h4 : nh V = 0 := Decidable.byContradiction (fun q => by have := h1 0 (by omega); omega)
  omega
theorem cow_inj {a b : Int} (ha : -1 ≤ a) (hb : -1 ≤ b) : cow a = cow b ↔ a = b := by unfold cow; split <;> split <;> omega
section K14
variable {L wl dr tx s : Nat} {w : Wd} {V : Vl} {σ : Sg} {x y z Y : Int}
theorem c_bi36 {a N : Nat} {w0 : Wd} (hV : VOK V) (hK : SOK V σ) (hv : isWi wl) (ha' : a < nm V) (hN : N ≤ 100) : ∀ (r m n : Nat) (w : Wd), n + r = N → r < m → Ok L wl dr tx w → CW w wl V → CS w 44 V (yit V (-1) (-1) σ n) → Fr PS w0 w → Wp (Hh_bias_36 m 6 (a : Int) (N : Int) (bia V σ a n) (n : Int) w) (fun q => q.1 = bia V σ a N ∧ Fr PS w0 q.2)
  | r, 0, n, w, _, hm, _, _, _, _ => absurd hm (by omega)
  | 0, m + 1, n, w, hr, hm, hO, hW, hS, hF => by
    rw [Hh_bias_36]
    refine wp_pos (by omega) (wp_ret ⟨?_, hF⟩)
    rw [show n = N by omega]
  | r + 1, m + 1, n, w, hr, hm, hO, hW, hS, hF => by
    have hv' := wi_bd hv
    have h3 := hV.2.2.1
    rw [Hh_bias_36]
    refine wp_neg (by omega) (wp_R11_10 hO (wp_R11_3 hO (wi_ne hv) (wp_R11_5 hO (wp_call (c_year hV (sok_yit hV hK n) hv isSt_44 hO hW hS) (fun r1 h1 => ?_)))))
    have f1 : Fr PS w0 r1.2 := hF.tr (h1.2.1.mono (fun a k q => by unfold PY at q; unfold PS; omega))
    have hO1 := h1.2.1.ok hO
    refine wp_R11_10 hO1 (wp_R1_1 hO1 (wp_rI hO1 rfl (by omega) ?_))
    rw [Int.toNat_natCast, h1.2.2.2 a ha', h1.1]
    unfold Hh_bias_78
    rw [w32_id (z := (n : Int) + 1) (by omega) (by omega), show (n : Int) + 1 = ((n + 1 : Nat) : Int) by omega]
    have ih := c_bi36 hV hK hv ha' hN r m (n + 1) r1.2 (by omega) (by omega) hO1 (hW.eq (fun a k q1 q2 => h1.2.1.at a k (by unfold PY; omega))) h1.2.2.1 f1
    have e : bia V σ a (n + 1) = if vom V σ a n = ow (yit V (-1) (-1) σ (n + 1)) then bia V σ a n else w32 (bia V σ a n + 1) := rfl
    have ci : cow (vom V σ a n) = cow (ow (yit V (-1) (-1) σ (n + 1))) ↔ vom V σ a n = ow (yit V (-1) (-1) σ (n + 1)) := cow_inj (vom_bd V σ a n) (ow_yit V σ n).1
    rw [e] at ih
    refine wp_ite (fun q => ?_) (fun q => ?_)
    · rw [if_pos (ci.mp q)] at ih; exact ih
    · rw [if_neg (fun p => q (ci.mpr p))] at ih; exact ih
theorem m_bi29 {a N : Nat} {w0 : Wd} (hV : VOK V) (hK : SOK V σ) (ha' : a < nm V) (hN : N ≤ 100) : ∀ (r m n d : Nat) (w : Wd), n + r = N → r < m → Ok L wl dr tx w → MC w s V (yit V (-1) (-1) σ n) (sd V) (-1) (-1) (-1) (-1) → d ≤ 400 → wI w 256 45 = (d : Int) → Fr PS w0 w → Wp (Mo_bias_29 m 223 (a : Int) (N : Int) (bia V σ a n) (n : Int) w) (fun q => q.1 = bia V σ a N ∧ Fr PS w0 q.2)
  | r, 0, n, d, w, _, hm, _, _, _, _, _ => absurd hm (by omega)
  | 0, m + 1, n, d, w, hr, hm, hO, hM, hd4, h45, hF => by
    rw [Mo_bias_29]
    refine wp_pos (by omega) (wp_ret ⟨?_, hF⟩)
    rw [show n = N by omega]
  | r + 1, m + 1, n, d, w, hr, hm, hO, hM, hd4, h45, hF => by
    have h3 := hV.2.2.1
    rw [Mo_bias_29]
    refine wp_neg (by omega) (wp_call (m_year hV (sok_yit hV hK n) (fun h hh => absurd hh (by omega)) hO hM hd4 h45) (fun w1 h1 => ?_))
    have f1 : Fr PS w0 w1 := hF.tr (h1.1.mono (fun a k q => by unfold PM5 at q; unfold PS; omega))
    have hO1 := h1.1.ok hO
    have ev : wI w1 258 a = vom V σ a n := h1.2.2.2 a ha'
    unfold Mo_bias_67
    rw [w32_id (z := (n : Int) + 1) (by omega) (by omega), show (n : Int) + 1 = ((n + 1 : Nat) : Int) by omega]
    have ih := m_bi29 hV hK ha' hN r m (n + 1) (min (d + 1) 400) w1 (by omega) (by omega) hO1 h1.2.1 (by omega) h1.2.2.1.1 f1
    have e : bia V σ a (n + 1) = if vom V σ a n = ow (yit V (-1) (-1) σ (n + 1)) then bia V σ a n else w32 (bia V σ a n + 1) := rfl
    rw [e] at ih
    refine wp_R12_57 hO1 (wp_rI hO1 rfl (by omega) ?_)
    rw [Int.toNat_natCast, ev]
    refine wp_ite (fun q => ?_) (fun q => ?_)
    · rw [if_pos (vom_neg q)] at ih; exact ih
    refine wp_R12_57 hO1 (wp_rI hO1 rfl (by omega) (wp_R12_50 hO1 (wp_rI hO1 rfl (by omega) ?_)))
    rw [Int.toNat_natCast, ev, show wI w1 256 (43 : Int).toNat = ow (yit V (-1) (-1) σ (n + 1)) from h1.2.1.2.2.1.2.2.1]
    refine wp_ite (fun q2 => ?_) (fun q2 => ?_)
    · rw [if_pos q2] at ih; exact ih
    · rw [if_neg q2] at ih; exact ih
end K14
