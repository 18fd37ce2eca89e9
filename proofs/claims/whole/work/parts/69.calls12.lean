/-! Level 3: calls, nobody. -/
def yit (V : Vl) (tH tL : Int) (σ : Sg) : Nat → Sg
  | 0 => σ
  | n + 1 => yearS V tH tL (yit V tH tL σ n)
theorem sok_yit {V : Vl} {tH tL : Int} {σ : Sg} (hV : VOK V) (hK : SOK V σ) : ∀ n, SOK V (yit V tH tL σ n)
  | 0 => hK
  | n + 1 => sok_year hV (sok_yit hV hK n)
def nbd (V : Vl) (σ : Sg) : Nat → Nat → Int
  | 0, _ => -2
  | r + 1, n => if ow (yit V (-1) (-1) σ (n + 1)) < 0 then ((n + 1 : Nat) : Int) else nbd V σ r (n + 1)
section K12
variable {L wl dr tx s : Nat} {w : Wd} {V : Vl} {σ : Sg} {x y z Y : Int}
theorem c_nb13 {w0 : Wd} (hV : VOK V) (hK : SOK V σ) (hv : isWi wl) : ∀ (r m n : Nat) (w : Wd), n + r = 200 → r < m → Ok L wl dr tx w → CW w wl V → CS w 44 V (yit V (-1) (-1) σ n) → Fr PS w0 w → Wp (Hh_nobody_13 m 6 ((n + 1 : Nat) : Int) w) (fun q => q.1 = nbd V σ r n ∧ Fr PS w0 q.2)
  | r, 0, n, w, _, hm, _, _, _, _ => absurd hm (by omega)
  | 0, m + 1, n, w, hr, hm, hO, hW, hS, hF => by
    rw [Hh_nobody_13]
    exact wp_pos (by omega) (wp_ret ⟨rfl, hF⟩)
  | r + 1, m + 1, n, w, hr, hm, hO, hW, hS, hF => by
    have hv' := wi_bd hv
    rw [Hh_nobody_13]
    refine wp_neg (by omega) (wp_R11_10 hO (wp_R11_3 hO (wi_ne hv) (wp_R11_5 hO (wp_call (c_year hV (sok_yit hV hK n) hv isSt_44 hO hW hS) (fun r1 h1 => ?_)))))
    have f1 : Fr PS w0 r1.2 := hF.tr (h1.2.1.mono (fun a k q => by unfold PY at q; unfold PS; omega))
    have ec : r1.1 = cow (ow (yit V (-1) (-1) σ (n + 1))) := h1.1
    have e : nbd V σ (r + 1) n = if ow (yit V (-1) (-1) σ (n + 1)) < 0 then ((n + 1 : Nat) : Int) else nbd V σ r (n + 1) := rfl
    have cb : r1.1 = -2 ↔ ow (yit V (-1) (-1) σ (n + 1)) < 0 := by rw [ec]; unfold cow; split <;> omega
    refine wp_ite (fun q => wp_ret ⟨?_, f1⟩) (fun q => ?_)
    · rw [e, if_pos (cb.mp q)]
    · rw [e, if_neg (fun p => q (cb.mpr p)), w32_id (by omega) (by omega), show ((n + 1 : Nat) : Int) + 1 = ((n + 1 + 1 : Nat) : Int) by omega]
      exact c_nb13 hV hK hv r m (n + 1) r1.2 (by omega) (by omega) (h1.2.1.ok hO) (hW.eq (fun a k q1 q2 => h1.2.1.at a k (by unfold PY; omega))) h1.2.2.1 f1
theorem m_nb6 {w0 : Wd} (hV : VOK V) (hK : SOK V σ) : ∀ (r m n d : Nat) (w : Wd), n + r = 200 → r < m → Ok L wl dr tx w → MC w s V (yit V (-1) (-1) σ n) (sd V) (-1) (-1) (-1) (-1) → d ≤ 400 → wI w 256 45 = (d : Int) → Fr PS w0 w → Wp (Mo_nobody_6 m 223 ((n + 1 : Nat) : Int) w) (fun q => q.1 = nbd V σ r n ∧ Fr PS w0 q.2)
  | r, 0, n, d, w, _, hm, _, _, _, _, _ => absurd hm (by omega)
  | 0, m + 1, n, d, w, hr, hm, hO, hM, hd4, h45, hF => by
    rw [Mo_nobody_6]
    exact wp_pos (by omega) (wp_ret ⟨rfl, hF⟩)
  | r + 1, m + 1, n, d, w, hr, hm, hO, hM, hd4, h45, hF => by
    rw [Mo_nobody_6]
    refine wp_neg (by omega) (wp_call (m_year hV (sok_yit hV hK n) (fun h hh => absurd hh (by omega)) hO hM hd4 h45) (fun w1 h1 => ?_))
    have f1 : Fr PS w0 w1 := hF.tr (h1.1.mono (fun a k q => by unfold PM5 at q; unfold PS; omega))
    have hO1 := h1.1.ok hO
    have e : nbd V σ (r + 1) n = if ow (yit V (-1) (-1) σ (n + 1)) < 0 then ((n + 1 : Nat) : Int) else nbd V σ r (n + 1) := rfl
    refine wp_R12_50 hO1 (wp_rI hO1 rfl (by omega) ?_)
    rw [show wI w1 256 (43 : Int).toNat = ow (yit V (-1) (-1) σ (n + 1)) from h1.2.1.2.2.1.2.2.1]
    refine wp_ite (fun q => ?_) (fun q => wp_ret ⟨?_, f1⟩)
    · rw [e, if_neg (by omega), w32_id (by omega) (by omega), show ((n + 1 : Nat) : Int) + 1 = ((n + 1 + 1 : Nat) : Int) by omega]
      exact m_nb6 hV hK r m (n + 1) (min (d + 1) 400) w1 (by omega) (by omega) hO1 h1.2.1 (by omega) h1.2.2.1.1 f1
    · rw [e, if_pos (by omega)]
end K12
