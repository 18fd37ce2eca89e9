/-! Level 3: calls, chance. -/
def chn (V : Vl) (σ : Sg) (a : Nat) : Nat → Int
  | 0 => 0
  | n + 1 => if jdg V σ (n : Int) = (a : Int) then w32 (chn V σ a n + 1) else chn V σ a n
theorem cow_is {o : Int} {a : Nat} : cow o = (a : Int) ↔ o = (a : Int) := by unfold cow; split <;> omega
section K7
variable {L wl dr tx s : Nat} {w : Wd} {V : Vl} {σ : Sg} {x y z Y : Int}
theorem c_ch25 {a N : Nat} {w0 : Wd} (hV : VOK V) (hv : isWi wl) (hN : N ≤ 50) : ∀ (r m n : Nat) (w : Wd), n + r = N → r < m → Ok L wl dr tx w → CW w wl V → SOK V σ → CS w 40 V σ → Fr PS w0 w → Wp (Hh_chance_25 m 6 (a : Int) (N : Int) (chn V σ a n) (n : Int) w) (fun r => r.1 = chn V σ a N ∧ Fr PS w0 r.2)
  | r, 0, n, w, _, hm, _, _, _, _, _ => absurd hm (by omega)
  | 0, m + 1, n, w, hr, hm, hO, hW, hK, hS, hF => by
    rw [Hh_chance_25]
    refine wp_pos (by omega) (wp_ret ⟨?_, hF⟩)
    rw [show n = N by omega]
  | r + 1, m + 1, n, w, hr, hm, hO, hW, hK, hS, hF => by
    have hv' := wi_bd hv
    rw [Hh_chance_25]
    refine wp_neg (by omega) (wp_R11_10 hO (wp_R11_3 hO (wi_ne hv) (wp_R11_4 hO (wp_call (c_given hV hK hv isSt_40 hO hW hS) (fun r1 h1 => ?_)))))
    unfold Hh_chance_55
    rw [w32_id (z := (n : Int) + 1) (by omega) (by omega), show (n : Int) + 1 = ((n + 1 : Nat) : Int) by omega]
    have f1 : Fr PS w0 r1.2 := hF.tr (h1.2.mono (fun a k q => by unfold PC2 PV at q; unfold PS; omega))
    have ih := c_ch25 (a := a) hV hv hN r m (n + 1) r1.2 (by omega) (by omega) (h1.2.ok hO) (hW.eq (fun a k q1 q2 => h1.2.at a k (by unfold PC2 PV; omega))) hK (hS.eq (fun a k q1 q2 => h1.2.at a k (by unfold PC2 PV; omega))) f1
    have e : chn V σ a (n + 1) = if jdg V σ (n : Int) = (a : Int) then w32 (chn V σ a n + 1) else chn V σ a n := rfl
    rw [e] at ih
    have ec : r1.1 = cow (jdg V σ (n : Int)) := h1.1
    refine wp_ite (fun q => ?_) (fun q => ?_)
    · rw [if_pos (cow_is.mp (ec ▸ q))] at ih; exact ih
    · rw [if_neg (fun p => q (ec ▸ cow_is.mpr p))] at ih; exact ih
end K7
