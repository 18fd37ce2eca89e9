/-! Level 3, the class: the plan as a whole. -/
def pC (V : Vl) (σ : Sg) (h : Nat) (l n : Nat) : Int := pco V σ h l ((n : Int) * sk V h)
theorem pC_bd {V : Vl} {σ : Sg} {h : Nat} (hV : VOK V) : ∀ l n, 0 ≤ pC V σ h l n ∧ pC V σ h l n ≤ 2997 := fun l n => pco_bd hV
theorem mul_bd {n : Nat} {x : Int} (hn : n ≤ 1000) (hx : 0 ≤ x ∧ x ≤ 99) : 0 ≤ (n : Int) * x ∧ (n : Int) * x ≤ 99000 := by
  have h1 : 0 ≤ (n : Int) * x := Int.mul_nonneg (by omega) hx.1
  have h2 : (n : Int) * x ≤ (n : Int) * 99 := Int.mul_le_mul_of_nonneg_left hx.2 (by omega)
  omega
def PQ (v x a : Nat) (_ : Nat) : Prop := a = v + 10 ∨ a = v + 11 ∨ a = x
section P3
variable {L wl dr tx b v h d : Nat} {V : Vl} {σ : Sg} {w : Wd}
theorem c_lay25 {Q : Int × Wd → Prop} {k17 : Nat → Nat → Nat → Int → Int → Int → Wd → Option (Int × Wd)} {l : Nat} (hV : VOK V) (hK : SOK V σ) (hv : isWi v) (hb : isSt b) (hh : h < nh V) (hl : l < nl V) (hd : d ≤ 12) : ∀ (r m n : Nat) (w : Wd), n + r = d + 1 → r < m → Ok L wl dr tx w → CW w v V → CS w b V σ → (∀ k, k < n → wI w (189 + l) k = pC V σ h l k) →
    (∀ w1, Fr (PQ v (189 + l)) w w1 → KC w1 (pC V σ h) d l → Wp (Pl_lay_66 k17 186 v b (h : Int) (d : Int) (l : Int) w1) Q) →
    Wp (Pl_lay_25 k17 m 186 v b (h : Int) (d : Int) (l : Int) (n : Int) w) Q
  | r, 0, n, w, _, hm, _, _, _, _, _ => absurd hm (by omega)
  | 0, m + 1, n, w, hr, hm, hO, hW, hS, hP, k => by
    rw [Pl_lay_25]
    exact wp_pos (by omega) (k w (Fr.rf w) (fun n' hn' => hP n' (by omega)))
  | r + 1, m + 1, n, w, hr, hm, hO, hW, hS, hP, k => by
    have h6 := hV.1
    have h7 := hV.2.1
    have hv' := wi_bd hv
    have hb' := st_bd hb
    have hsk := (hV.2.2.2.2.1 h hh).1
    have mb' := mul_bd (n := n) (by omega) hsk
    rw [Pl_lay_25]
    refine wp_neg (by omega) (wp_R5_1 hO (wp_189 hO (by omega) (wp_R10_8 hO hv (wp_rI hO (sh_Wi_8 L hv) (by omega) ?_))))
    rw [Int.toNat_natCast, Int.toNat_natCast, (hW.2.1 h hh).1, w32_id (z := (n : Int) * sk V h) (by omega) (by omega)]
    refine wp_call (c_cost hV hK hv hb hO hW hS hh hl mb'.1) (fun r1 h1 => ?_)
    have hO1 := h1.2.ok hO
    refine wp_wI hO1 (sh_in189 L (by omega)) (by omega) ?_
    rw [h1.1, Int.toNat_natCast, w32_id (z := (n : Int) + 1) (by omega) (by omega), show (n : Int) + 1 = ((n + 1 : Nat) : Int) by omega]
    generalize hw2 : sI r1.2 (189 + l) n (pco V σ h l ((n : Int) * sk V h)) = w2
    have f2 : Fr (PQ v (189 + l)) w w2 := by rw [← hw2]; exact (h1.2.mono (fun a k q => by unfold PL at q; unfold PQ; omega)).sI (Or.inr (Or.inr rfl))
    refine c_lay25 hV hK hv hb hh hl hd r m (n + 1) w2 (by omega) (by omega) (f2.ok hO) (hW.eq (fun a k q1 q2 => f2.at a k (by unfold PQ; omega))) (hS.eq (fun a k q1 q2 => f2.at a k (by unfold PQ; omega))) (fun j hj => ?_) (fun w3 g1 g2 => k w3 (f2.tr g1) g2)
    rw [← hw2, wI_sI]
    by_cases p : j = n
    · rw [if_pos ⟨rfl, p⟩, p]; rfl
    · rw [if_neg (fun x => p x.2), h1.2.at (189 + l) j (by unfold PL; omega)]
      exact hP j (by omega)
theorem c_lay69 {Q : Int × Wd → Prop} {k17 : Nat → Nat → Nat → Int → Int → Int → Wd → Option (Int × Wd)} {C : Nat → Nat → Int} {l : Nat} (hC : ∀ l n, 0 ≤ C l n ∧ C l n ≤ 2997) (hV : VOK V) (hv : isWi v) (hl : l < nl V) (hd : d ≤ 12) : ∀ (r m n : Nat) (w : Wd), n + r = d + 1 → r < m → Ok L wl dr tx w → CW w v V → KC w C d l → (l + 1 < nl V → KL w C (nl V) d (l + 1)) → (∀ k, k < n → wI w (196 + l) k = ls C (nl V) (nl V - l) k) →
    (∀ w1, Fr (PA (196 + l)) w w1 → KL w1 C (nl V) d l → Wp (Pl_lay_116 k17 186 v b (h : Int) (d : Int) (l : Int) w1) Q) →
    Wp (Pl_lay_69 k17 m 186 v b (h : Int) (d : Int) (l : Int) (n : Int) w) Q
  | r, 0, n, w, _, hm, _, _, _, _, _, _ => absurd hm (by omega)
  | 0, m + 1, n, w, hr, hm, hO, hW, hc, hL, hP, k => by
    rw [Pl_lay_69]
    exact wp_pos (by omega) (k w (Fr.rf w) (fun n' hn' => hP n' (by omega)))
  | r + 1, m + 1, n, w, hr, hm, hO, hW, hc, hL, hP, k => by
    have h6 := hV.1
    have hv' := wi_bd hv
    rw [Pl_lay_69]
    refine wp_neg (by omega) (wp_R5_2 hO (wp_196 hO (by omega) (wp_gI hO (sh_Wi L hv) (wp_gI hO (sh_Wi L hv) ?_))))
    rw [hW.1.1]
    refine wp_eq (c_mostDays hC hO h6 hd hl (by omega) hc hL) (wp_eq (c_share hC hO h6 hd hl (by omega) (md_le _ _ _ _) hc hL) ?_)
    refine wp_wI hO (sh_in196 L (by omega)) (by omega) ?_
    rw [Int.toNat_natCast, Int.toNat_natCast, w32_id (z := (n : Int) + 1) (by omega) (by omega), show (n : Int) + 1 = ((n + 1 : Nat) : Int) by omega]
    have els : C l (md C (nl V) (nl V - (l + 1)) n) + ls C (nl V) (nl V - (l + 1)) (n - md C (nl V) (nl V - (l + 1)) n) = ls C (nl V) (nl V - l) n := by
      rw [show nl V - l = (nl V - (l + 1)) + 1 by omega, ls_md, show nl V - (nl V - (l + 1) + 1) = l by omega]
    show Wp (Pl_lay_69 k17 m 186 v b (h : Int) (d : Int) (l : Int) ((n + 1 : Nat) : Int) (sI w (196 + l) n (C l (md C (nl V) (nl V - (l + 1)) n) + ls C (nl V) (nl V - (l + 1)) (n - md C (nl V) (nl V - (l + 1)) n)))) Q
    rw [els]
    generalize hw2 : sI w (196 + l) n (ls C (nl V) (nl V - l) n) = w2
    have f2 : Fr (PA (196 + l)) w w2 := by rw [← hw2]; exact fr_sI PA.i
    refine c_lay69 hC hV hv hl hd r m (n + 1) w2 (by omega) (by omega) (f2.ok hO) (hW.eq (fun a k q1 q2 => f2.at a k (by unfold PA; omega))) (fun j hj => (f2.at _ _ (by unfold PA; omega)).trans (hc j hj)) (fun q j hj => (f2.at _ _ (by unfold PA; omega)).trans (hL q j hj)) (fun j hj => ?_) (fun w3 g1 g2 => k w3 (f2.tr g1) g2)
    rw [← hw2, wI_sI]
    by_cases p : j = n
    · rw [if_pos ⟨rfl, p⟩, p]
    · rw [if_neg (fun x => p x.2)]
      exact hP j (by omega)
theorem c_lay17 {Q : Int × Wd → Prop} (hV : VOK V) (hK : SOK V σ) (hv : isWi v) (hb : isSt b) (hh : h < nh V) (hd : d ≤ 12) : ∀ (j m : Nat) (w : Wd), j ≤ nl V → j < m → Ok L wl dr tx w → CW w v V → CS w b V σ → (∀ l, j ≤ l → l < nl V → KC w (pC V σ h) d l ∧ KL w (pC V σ h) (nl V) d l) →
    (∀ w1, Fr (PP v) w w1 → (∀ l, l < nl V → KC w1 (pC V σ h) d l ∧ KL w1 (pC V σ h) (nl V) d l) → Wp (Pl_lay_122 186 v (d : Int) w1) Q) →
    Wp (Pl_lay_17 m 186 v b (h : Int) (d : Int) ((j : Int) - 1) w) Q
  | j, 0, w, _, hm, _, _, _, _, _ => absurd hm (by omega)
  | 0, m + 1, w, hj, hm, hO, hW, hS, hP, k => by
    rw [Pl_lay_17]
    exact wp_pos (by omega) (k w (Fr.rf w) (fun l hl => hP l (by omega) hl))
  | l + 1, m + 1, w, hj, hm, hO, hW, hS, hP, k => by
    have h6 := hV.1
    have hv' := wi_bd hv
    have hb' := st_bd hb
    rw [Pl_lay_17]
    generalize hFU : FU = fu; have hfu : 1000000 = fu := hFU
    rw [show ((l + 1 : Nat) : Int) - 1 = (l : Int) by omega]
    refine wp_neg (by omega) ?_
    refine c_lay25 hV hK hv hb hh (by omega) hd (d + 1) fu 0 w (by omega) (by omega) hO hW hS (fun k hk => absurd hk (by omega)) (fun w1 g1 g2 => ?_)
    unfold Pl_lay_66
    rw [hFU]
    have hW1 := hW.eq (fun a k q1 q2 => g1.at a k (by unfold PQ; omega))
    have hS1 := hS.eq (fun a k q1 q2 => g1.at a k (by unfold PQ; omega))
    have hP1 : ∀ x, l + 1 ≤ x → x < nl V → KC w1 (pC V σ h) d x ∧ KL w1 (pC V σ h) (nl V) d x := fun x h1 h2 => ⟨fun n hn => (g1.at _ _ (by unfold PQ; omega)).trans ((hP x h1 h2).1 n hn), fun n hn => (g1.at _ _ (by unfold PQ; omega)).trans ((hP x h1 h2).2 n hn)⟩
    refine c_lay69 (pC_bd hV) hV hv (by omega) hd (d + 1) fu 0 w1 (by omega) (by omega) (g1.ok hO) hW1 g2 (fun q => (hP1 (l + 1) (by omega) q).2) (fun k hk => absurd hk (by omega)) (fun w2 e1 e2 => ?_)
    unfold Pl_lay_116
    rw [w32_id (z := (l : Int) + -1) (by omega) (by omega), show (l : Int) + -1 = (l : Int) - 1 by omega]
    have f2 : Fr (PP v) w w2 := (g1.mono (fun a k q => by unfold PQ at q; unfold PP; omega)).tr (e1.mono (fun a k q => by unfold PA at q; unfold PP; omega))
    refine c_lay17 hV hK hv hb hh hd l m w2 (by omega) (by omega) (f2.ok hO) (hW.eq (fun a k q1 q2 => f2.at a k (by unfold PP; omega))) (hS.eq (fun a k q1 q2 => f2.at a k (by unfold PP; omega))) (fun x h1 h2 => ?_) (fun w3 d1 d2 => k w3 (f2.tr d1) d2)
    by_cases p : x = l
    · rw [p]
      exact ⟨fun n hn => (e1.at _ _ (by unfold PA; omega)).trans (g2 n hn), e2⟩
    · have hx := hP1 x (by omega) h2
      exact ⟨fun n hn => (e1.at _ _ (by unfold PA; omega)).trans (hx.1 n hn), fun n hn => (e1.at _ _ (by unfold PA; omega)).trans (hx.2 n hn)⟩
theorem c_lay129 {C : Nat → Nat → Int} (hC : ∀ l n, 0 ≤ C l n ∧ C l n ≤ 2997) (hV : VOK V) (hv : isWi v) (hd : d ≤ 12) (h0 : 0 < nl V) : ∀ (r m l : Nat) (w : Wd), l + r = nl V → r < m → Ok L wl dr tx w → CW w v V → (∀ l, l < nl V → KC w C d l ∧ KL w C (nl V) d l) → (∀ x, x < l → wI w 187 x = (pda C (nl V) d x : Int)) →
    Wp (Pl_lay_129 m 186 v (d : Int) (lf C (nl V) d l : Int) (l : Int) w) (fun r => r.1 = ls C (nl V) (nl V) d ∧ Fr (PA 187) w r.2 ∧ ∀ x, x < nl V → wI r.2 187 x = (pda C (nl V) d x : Int))
  | r, 0, l, w, _, hm, _, _, _, _ => absurd hm (by omega)
  | 0, m + 1, l, w, hl, hm, hO, hW, hP, hD => by
    rw [Pl_lay_129]
    refine wp_gI hO (sh_Wi L hv) ?_
    rw [hW.1.1]
    refine wp_pos (by omega) ?_
    unfold Pl_lay_175
    refine wp_R5_2 hO (wp_196 hO (by omega) ?_)
    rw [show (0 : Int).toNat = 0 from rfl]
    refine wp_rI hO (sh_in196 L (by omega)) (by omega) (wp_ret ⟨?_, Fr.rf w, fun x hx => hD x (by omega)⟩)
    rw [Int.toNat_natCast]
    exact (hP 0 h0).2 d (Nat.le_refl d)
  | r + 1, m + 1, l, w, hl, hm, hO, hW, hP, hD => by
    have h6 := hV.1
    have hv' := wi_bd hv
    have ll := lf_le C (nl V) d l
    have ml := md_le C (nl V) (nl V - (l + 1)) (lf C (nl V) d l)
    rw [Pl_lay_129]
    refine wp_gI hO (sh_Wi L hv) ?_
    rw [hW.1.1]
    refine wp_neg (by omega) (wp_R5_0 hO (wp_gI hO (sh_Wi L hv) ?_))
    rw [hW.1.1]
    refine wp_eq (c_mostDays hC hO h6 hd (by omega) ll (hP l (by omega)).1 (fun q => (hP (l + 1) q).2)) ?_
    refine wp_wI hO rfl (by omega) ?_
    rw [Int.toNat_natCast]
    show Wp ((fgR (sI w 187 l (md C (nl V) (nl V - (l + 1)) (lf C (nl V) d l) : Int)) 186 5 0).bind _) _
    generalize hw2 : sI w 187 l (md C (nl V) (nl V - (l + 1)) (lf C (nl V) d l) : Int) = w2
    have f2 : Fr (PA 187) w w2 := by rw [← hw2]; exact fr_sI PA.i
    have hO2 := f2.ok hO
    refine wp_R5_0 hO2 (wp_rI hO2 rfl (by omega) ?_)
    rw [Int.toNat_natCast, show wI w2 187 l = (md C (nl V) (nl V - (l + 1)) (lf C (nl V) d l) : Int) by rw [← hw2]; exact wI_eq _ _ _ _]
    have e1 : w32 ((lf C (nl V) d l : Int) - (md C (nl V) (nl V - (l + 1)) (lf C (nl V) d l) : Int)) = (lf C (nl V) d (l + 1) : Int) := by
      rw [w32_id (by omega) (by omega)]
      show _ = ((lf C (nl V) d l - md C (nl V) (nl V - (l + 1)) (lf C (nl V) d l) : Nat) : Int)
      omega
    rw [e1, w32_id (z := (l : Int) + 1) (by omega) (by omega), show (l : Int) + 1 = ((l + 1 : Nat) : Int) by omega]
    refine wp_use (c_lay129 hC hV hv hd h0 r m (l + 1) w2 (by omega) (by omega) hO2 (hW.eq (fun a k q1 q2 => f2.at a k (by unfold PA; omega))) (fun x hx => ⟨fun n hn => (f2.at _ _ (by unfold PA; omega)).trans ((hP x hx).1 n hn), fun n hn => (f2.at _ _ (by unfold PA; omega)).trans ((hP x hx).2 n hn)⟩) (fun x hx => ?_)) (fun r2 h2 => ⟨h2.1, f2.tr h2.2.1, h2.2.2⟩)
    rw [← hw2, wI_sI]
    by_cases p : x = l
    · rw [if_pos ⟨rfl, p⟩, p]; rfl
    · rw [if_neg (fun y => p y.2)]; exact hD x (by omega)
theorem c_lay (hV : VOK V) (hK : SOK V σ) (hv : isWi v) (hb : isSt b) (hO : Ok L wl dr tx w) (hW : CW w v V) (hS : CS w b V σ) (hh : h < nh V) (hd : d ≤ 12) :
    Wp (Pl_lay 186 v b (h : Int) (d : Int) w) (fun r => r.1 = ls (pC V σ h) (nl V) (nl V) d ∧ Fr (PP v) w r.2 ∧ ∀ x, x < nl V → wI r.2 187 x = (pda (pC V σ h) (nl V) d x : Int)) := by
  have h6 := hV.1
  have hv' := wi_bd hv
  unfold Pl_lay Pl_lay_0
  generalize hFU : FU = fu; have hfu : 1000000 = fu := hFU
  refine wp_gd hO rfl (wp_gI hO (sh_Wi L hv) ?_)
  rw [hW.1.1]
  refine wp_ite (fun q => wp_gI hO (sh_Wi L hv) ?_) (fun q => wp_ret ⟨?_, Fr.rf w, fun x hx => absurd hx (by omega)⟩)
  · rw [hW.1.1, w32_id (by omega) (by omega)]
    refine c_lay17 hV hK hv hb hh hd (nl V) fu w (Nat.le_refl _) (by omega) hO hW hS (fun l h1 h2 => absurd h1 (by omega)) (fun w1 g1 g2 => ?_)
    unfold Pl_lay_122
    rw [hFU]
    refine wp_use (c_lay129 (pC_bd hV) hV hv hd (by omega) (nl V) fu 0 w1 (by omega) (by omega) (g1.ok hO) (hW.eq (fun a k q1 q2 => g1.at a k (by unfold PP; omega))) g2 (fun x hx => absurd hx (by omega))) (fun r hr => ⟨hr.1, g1.tr (hr.2.1.mono (fun a k q => by unfold PA at q; unfold PP; omega)), hr.2.2⟩)
  · rw [show nl V = 0 by omega]; rfl
end P3
