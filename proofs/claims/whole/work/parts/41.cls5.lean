/-! Level 3, the class: a year ends. -/
def endp (V : Vl) (σ : Sg) (n : Nat) : Sg := (yr σ, w32 (wo σ + 1), ow σ, fun l => if l < n then cl 0 99 (w32 (hd σ l + drf V σ l)) else hd σ l, sp σ, ha σ)
theorem drf_endp (V : Vl) (σ : Sg) (l : Nat) : drf V (endp V σ l) l = drf V σ l := by
  have e : hd (endp V σ l) l = hd σ l := if_neg (Nat.lt_irrefl l)
  unfold drf
  rw [e]
  rfl
theorem sok_endp {V : Vl} {σ : Sg} (hK : SOK V σ) (n : Nat) : SOK V (endp V σ n) := by
  refine ⟨fun l hl => ?_, hK.2.1, hK.2.2⟩
  show 0 ≤ (if l < n then cl 0 99 (w32 (hd σ l + drf V σ l)) else hd σ l) ∧ (if l < n then cl 0 99 (w32 (hd σ l + drf V σ l)) else hd σ l) ≤ 99
  split
  · unfold cl; omega
  · exact hK.1 l hl
theorem hd_endp0 (V : Vl) (σ : Sg) (x : Nat) : hd σ x = hd (endp V σ 0) x := (if_neg (Nat.not_lt_zero x) : (if x < 0 then cl 0 99 (w32 (hd σ x + drf V σ x)) else hd σ x) = hd σ x).symm
section C5
variable {L wl dr tx b v : Nat} {V : Vl} {σ : Sg} {w : Wd}
theorem c_settle (hV : VOK V) (hK : SOK V σ) (hv : isWi v) (hb : isSt b) (hO : Ok L wl dr tx w) (hW : CW w v V) (hS : CS w b V σ) :
    Wp (Ct_settle 176 v b w) (fun w1 => Fr (PY v b) w w1 ∧ CS w1 b V (stl V σ) ∧ (∀ j, j < nm V → wI w1 184 j = cow (vo (ulk V σ (sd V)) j (-1) (nh V))) ∧ ∀ k, wI w1 (b + 1) k = wI w (b + 1) k) := by
  have h6 := hV.2.1
  have hv' := wi_bd hv
  have hb' := st_bd hb
  have jb := jd_bd (ulk V σ (sd V)) (nh V) (nm V) (lm V) (-1) (-1)
  unfold Ct_settle Ct_settle_0
  refine wp_gd hO rfl (wp_gI hO (sh_Wi L hv) ?_)
  rw [hW.1.2.2.2.2.2]
  refine wp_call (c_compare hV hK hv hb hO hW hS) (fun w1 g1 => ?_)
  refine wp_call (c_award hV hv (g1.1.ok hO) (hW.eq (fun a k q1 q2 => g1.1.at a k (by unfold PC2; omega))) g1.2) (fun r hr => ?_)
  have hF1 : Fr (PY v b) w r.2 := (g1.1.mono (fun a k q => by unfold PC2 at q; unfold PY; omega)).tr (hr.2.1.mono (fun a k q => by unfold PV at q; unfold PY; omega))
  have hO1 := hF1.ok hO
  have n1 : ∀ a k, b ≤ a → a ≤ b + 3 → wI r.2 a k = wI w a k := fun a k q1 q2 => (hr.2.1.at a k (by unfold PV; omega)).trans (g1.1.at a k (by unfold PC2; omega))
  have hS1 : CS r.2 b V σ := hS.eq n1
  rw [hr.1]
  refine wp_pI hO1 (sh_St L hb) ?_
  have hO2 : Ok L wl dr tx (sI r.2 b 2 (cow (jdg V σ (sd V)))) := hO1
  refine wp_gI hO2 (sh_St L hb) ?_
  rw [wI_eq]
  unfold Ct_settle_41
  have hF2 : Fr (PY v b) w (sI r.2 b 2 (cow (jdg V σ (sd V)))) := hF1.sI (by unfold PY; omega)
  have hj2 : ∀ j, j < nm V → wI (sI r.2 b 2 (cow (jdg V σ (sd V)))) 184 j = cow (vo (ulk V σ (sd V)) j (-1) (nh V)) := fun j hj => (wI_ne (by omega)).trans (hr.2.2 j hj)
  refine wp_ite (fun q => wp_ret ⟨hF2, ?_, hj2, fun k => (wI_ne (by omega)).trans (n1 (b + 1) k (by omega) (by omega))⟩) (fun q => ?_)
  · have q' : jdg V σ (sd V) < 0 := cow_neg.mp q
    refine ⟨(wI_ne (by omega)).trans hS1.1, (wI_ne (by omega)).trans hS1.2.1, wI_eq _ _ _ _, fun l hl => (wI_ne (by omega)).trans (hS1.2.2.2.1 l hl), fun x hx l hl => (wI_ne (by omega)).trans (hS1.2.2.2.2.1 x hx l hl), fun x hx => ?_⟩
    refine (wI_ne (by omega)).trans ((hS1.2.2.2.2.2 x hx).trans ?_)
    exact (if_neg (by omega)).symm
  · have q' : ¬ jdg V σ (sd V) < 0 := fun x => q (cow_neg.mpr x)
    have jb' : jdg V σ (sd V) < (nh V : Int) := jb.2
    refine wp_R9_5 hO2 hb (wp_gI hO2 (sh_St L hb) ?_)
    rw [wI_eq]
    have e : cow (jd (ulk V σ (sd V)) (nh V) (nm V) (lm V) (-1) (-1)) = ((jdg V σ (sd V)).toNat : Int) := by
      have := cow_nn (o := jdg V σ (sd V)) (by omega)
      unfold jdg at this q'
      unfold jdg
      omega
    have hF3 : ∀ z, Fr (PY v b) w (sI (sI r.2 b 2 (cow (jdg V σ (sd V)))) (b + 3) (jdg V σ (sd V)).toNat z) := fun z => hF2.sI (by unfold PY; omega)
    have hx9 : wI (sI r.2 b 2 (cow (jdg V σ (sd V)))) (b + 3) (jdg V σ (sd V)).toNat = ha σ (jdg V σ (sd V)).toNat := (wI_ne (by omega)).trans (hS1.2.2.2.2.2 _ (by omega))
    have hS3 : CS (sI (sI r.2 b 2 (cow (jdg V σ (sd V)))) (b + 3) (jdg V σ (sd V)).toNat (w32 (ha σ (jdg V σ (sd V)).toNat + 1))) b V (stl V σ) := by
      refine ⟨((wI_ne (by omega)).trans (wI_ne (by omega))).trans hS1.1, ((wI_ne (by omega)).trans (wI_ne (by omega))).trans hS1.2.1, (wI_ne (by omega)).trans (wI_eq _ _ _ _), fun l hl => ((wI_ne (by omega)).trans (wI_ne (by omega))).trans (hS1.2.2.2.1 l hl), fun x hx l hl => ((wI_ne (by omega)).trans (wI_ne (by omega))).trans (hS1.2.2.2.2.1 x hx l hl), fun x hx => ?_⟩
      show _ = if (x : Int) = jdg V σ (sd V) then w32 (ha σ x + 1) else ha σ x
      rw [wI_sI]
      by_cases p : (x : Int) = jdg V σ (sd V)
      · have p2 : x = (jdg V σ (sd V)).toNat := by omega
        rw [if_pos ⟨rfl, p2⟩, if_pos p, ← p2]
      · rw [if_neg (by omega), if_neg p]
        exact (wI_ne (by omega)).trans (hS1.2.2.2.2.2 x hx)
    have hj3 : ∀ z, ∀ j, j < nm V → wI (sI (sI r.2 b 2 (cow (jdg V σ (sd V)))) (b + 3) (jdg V σ (sd V)).toNat z) 184 j = cow (vo (ulk V σ (sd V)) j (-1) (nh V)) := fun z j hj => (wI_ne (by omega)).trans (hj2 j hj)
    rw [e]
    refine wp_rI (by exact hO1) (sh_St_5 L hb) (by omega) ?_
    refine wp_wI (by exact hO1) (sh_St_5 L hb) (by omega) ?_
    rw [Int.toNat_natCast]
    have e' : cow (jdg V σ (sd V)) = ((jdg V σ (sd V)).toNat : Int) := e
    rw [e'] at hx9 hF3 hS3 hj3
    rw [hx9]
    exact wp_ret ⟨hF3 _, hS3, hj3 _, fun k => (wI_ne (by omega)).trans ((wI_ne (by omega)).trans (n1 (b + 1) k (by omega) (by omega)))⟩
theorem c_drift {l : Nat} (hV : VOK V) (hK : SOK V σ) (hv : isWi v) (hb : isSt b) (hO : Ok L wl dr tx w) (hW : CW w v V) (hS : CS w b V σ) (ho : 0 ≤ ow σ) (hl : l < nl V) : Wp (Wi_drift v b (l : Int) w) (fun r => r.1 = drf V σ l ∧ Fr (PL v) w r.2) := by
  have h6 := hV.1
  obtain ⟨z0, hz, hz0, -, -, hd9⟩ := hW.2.2
  unfold Wi_drift Wi_drift_0 drf
  refine wp_gd hO (sh_Wi L hv) (wp_gI hO (sh_Wi L hv) ?_)
  cases hq : lo V 9 with
  | none =>
    rw [hq] at hd9
    exact wp_pos hd9 (wp_ret ⟨rfl, Fr.rf w⟩)
  | some q =>
    rw [hq] at hd9
    obtain ⟨bs, e⟩ := q
    have hd8 := hd9
    obtain ⟨f, hf, -⟩ := hd8
    refine wp_neg (by omega) (wp_gI hO (sh_St L hb) ?_)
    have eo : wI w b 2 = ((ow σ).toNat : Int) := by rw [hS.2.2.1, cow_nn ho]; omega
    have hoh : (ow σ).toNat < nh V := by have := hK.2.2.2; omega
    rw [eo]
    refine wp_R10_13 hO hv (wp_eq (c_off hV hK hO hb hS hoh hl) (wp_gI hO (sh_St L hb) (wp_eq (c_own hV hO hb hS hoh hl) (wp_R9_3 hO hb (wp_rI hO (sh_St_3 L hb) (by omega) ?_)))))
    show Wp ((Lw_lookAt (v + 7) (ab (sp σ (ow σ).toNat l) (hd σ l)) (l : Int) (wI w b 0) 0 (sp σ (ow σ).toNat l) (wI w (b + 1) (l : Int).toNat) 0 w).bind _) _
    rw [Int.toNat_natCast, hS.1, hS.2.2.2.1 l hl]
    refine wp_call (c_lookAt hO (isLw_of hv)) (fun w1 g1 => ?_)
    have hO1 := g1.1.ok hO
    have n1 : ∀ {a k}, a ≠ v + 7 + 3 → wI w1 a k = wI w a k := fun ha => g1.1.at _ _ ha
    refine wp_R10_13 hO1 hv (wp_gI hO1 (sh_Wi L hv) ?_)
    rw [n1 (by omega)]
    refine wp_call (c_law hO1 hv hz ((n1 (by omega)).trans hz0) (clawAt_eq (fun k => n1 (by omega)) (fun k => n1 (by omega)) hd9) (by simp) g1.2) (fun r hr => ?_)
    refine wp_eq (q_held _ _ _ _) (wp_ret ⟨?_, (g1.1.mono (fun a k q => Or.inl q)).tr (hr.2.mono (fun a k q => Or.inr q))⟩)
    show cl (-9) 9 r.1 = _
    rw [hr.1]
theorem c_ey58 {τ : Sg} (hb : isSt b) (hO : Ok L wl dr tx w) (hS : CS w b V τ) : Ct_endYear_58 b w = some (sI w b 0 (w32 (yr τ + 1))) := by
  refine wp_out ?_
  unfold Ct_endYear_58
  refine wp_gI hO (sh_St L hb) ?_
  rw [hS.1]
  exact wp_pI hO (sh_St L hb) (wp_ret rfl)
theorem c_ey19 (hV : VOK V) (hK : SOK V σ) (hv : isWi v) (hb : isSt b) (ho : 0 ≤ ow σ) : ∀ (r n l : Nat) (w : Wd), l + r = nl V → r < n → Ok L wl dr tx w → CW w v V → CS w b V (endp V σ l) →
    Wp (Ct_endYear_19 n v b (l : Int) w) (fun w1 => Fr (PY v b) w w1 ∧ CS w1 b V (endy V σ) ∧ (∀ j, wI w1 184 j = wI w 184 j) ∧ ∀ k, nl V ≤ k → wI w1 (b + 1) k = wI w (b + 1) k)
  | r, 0, l, w, _, hn, _, _, _ => absurd hn (by omega)
  | 0, n + 1, l, w, hl, hn, hO, hW, hS => by
    have hb' := st_bd hb
    rw [Ct_endYear_19]
    refine wp_gI hO (sh_Wi L hv) ?_
    rw [hW.1.1]
    refine wp_pos (by omega) (wp_is (c_ey58 hb hO hS) ⟨fr_sI (by unfold PY; omega), ?_, fun j => wI_ne (by omega), fun k _ => wI_ne (by omega)⟩)
    refine ⟨wI_eq _ _ _ _, (wI_ne (by omega)).trans hS.2.1, (wI_ne (by omega)).trans hS.2.2.1, fun x hx => ?_, fun x hx y hy => (wI_ne (by omega)).trans (hS.2.2.2.2.1 x hx y hy), fun x hx => (wI_ne (by omega)).trans (hS.2.2.2.2.2 x hx)⟩
    refine (wI_ne (by omega)).trans ((hS.2.2.2.1 x hx).trans ?_)
    show (if x < l then _ else _) = (if 0 ≤ ow σ ∧ x < nl V then _ else _)
    rw [if_pos (by omega), if_pos ⟨ho, hx⟩]
  | r + 1, n + 1, l, w, hl, hn, hO, hW, hS => by
    have h6 := hV.1
    have hv' := wi_bd hv
    have hb' := st_bd hb
    rw [Ct_endYear_19]
    refine wp_gI hO (sh_Wi L hv) ?_
    rw [hW.1.1]
    refine wp_neg (by omega) (wp_R9_3 hO hb (wp_R9_3 hO hb (wp_rI hO (sh_St_3 L hb) (by omega) ?_)))
    have e0 : hd (endp V σ l) l = hd σ l := if_neg (Nat.lt_irrefl l)
    rw [Int.toNat_natCast, hS.2.2.2.1 l (by omega), e0]
    refine wp_call (c_drift hV (sok_endp hK l) hv hb hO hW hS ho (by omega)) (fun r1 h1 => ?_)
    rw [h1.1, drf_endp]
    have hO1 := h1.2.ok hO
    refine wp_eq (q_held _ _ _ _) (wp_wI hO1 (sh_St_3 L hb) (by omega) ?_)
    rw [Int.toNat_natCast, w32_id (z := (l : Int) + 1) (by omega) (by omega), show (l : Int) + 1 = ((l + 1 : Nat) : Int) by omega]
    have hF1 : Fr (PY v b) w r1.2 := h1.2.mono (fun a k q => by unfold PL at q; unfold PY; omega)
    have hF : Fr (PY v b) w (sI r1.2 (b + 1) l (cl 0 99 (w32 (hd σ l + drf V σ l)))) := hF1.sI (by unfold PY; omega)
    have hS1 : CS r1.2 b V (endp V σ l) := hS.eq (fun a k q1 q2 => h1.2.at a k (by unfold PL; omega))
    refine wp_use (c_ey19 hV hK hv hb ho r n (l + 1) _ (by omega) (by omega) (hF.ok hO) (hW.eq (fun a k q1 q2 => hF.at a k (by unfold PY; omega))) ?_) (fun w2 e => ⟨hF.tr e.1, e.2.1, fun j => (e.2.2.1 j).trans ((wI_ne (by omega)).trans (h1.2.at 184 j (by unfold PL; omega))), fun k hk => (e.2.2.2 k hk).trans ((wI_ne (by omega)).trans (h1.2.at (b + 1) k (by unfold PL; omega)))⟩)
    refine ⟨(wI_ne (by omega)).trans hS1.1, (wI_ne (by omega)).trans hS1.2.1, (wI_ne (by omega)).trans hS1.2.2.1, fun x hx => ?_, fun x hx y hy => (wI_ne (by omega)).trans (hS1.2.2.2.2.1 x hx y hy), fun x hx => (wI_ne (by omega)).trans (hS1.2.2.2.2.2 x hx)⟩
    show _ = if x < l + 1 then cl 0 99 (w32 (hd σ x + drf V σ x)) else hd σ x
    have hx1 : wI r1.2 (b + 1) x = if x < l then cl 0 99 (w32 (hd σ x + drf V σ x)) else hd σ x := hS1.2.2.2.1 x hx
    rw [wI_sI]
    by_cases p : x = l
    · subst p
      rw [if_pos ⟨rfl, rfl⟩, if_pos (by omega)]
    · rw [if_neg (fun y => p y.2), hx1]
      by_cases p2 : x < l
      · rw [if_pos p2, if_pos (by omega)]
      · rw [if_neg p2, if_neg (by omega)]
theorem c_endYear (hV : VOK V) (hK : SOK V σ) (hv : isWi v) (hb : isSt b) (hO : Ok L wl dr tx w) (hW : CW w v V) (hS : CS w b V σ) :
    Wp (Ct_endYear 176 v b w) (fun w1 => Fr (PY v b) w w1 ∧ CS w1 b V (endy V σ) ∧ (∀ j, wI w1 184 j = wI w 184 j) ∧ ∀ k, nl V ≤ k → wI w1 (b + 1) k = wI w (b + 1) k) := by
  have hv' := wi_bd hv
  have hb' := st_bd hb
  unfold Ct_endYear Ct_endYear_0
  generalize hFU : FU = fu; have hfu : 1000000 = fu := hFU
  refine wp_gd hO rfl (wp_gI hO (sh_St L hb) ?_)
  rw [hS.2.1]
  refine wp_pI hO (sh_St L hb) ?_
  have hF : Fr (PY v b) w (sI w b 1 (w32 (wo σ + 1))) := fr_sI (by unfold PY; omega)
  have hO1 := hF.ok hO
  refine wp_gI hO1 (sh_St L hb) ?_
  rw [wI_ne (by omega), hS.2.2.1]
  have hS1 : CS (sI w b 1 (w32 (wo σ + 1))) b V (endp V σ 0) := ⟨(wI_ne (by omega)).trans hS.1, wI_eq _ _ _ _, (wI_ne (by omega)).trans hS.2.2.1, fun x hx => ((wI_ne (by omega)).trans (hS.2.2.2.1 x hx)).trans (hd_endp0 V σ x), fun x hx y hy => (wI_ne (by omega)).trans (hS.2.2.2.2.1 x hx y hy), fun x hx => (wI_ne (by omega)).trans (hS.2.2.2.2.2 x hx)⟩
  refine wp_ite (fun q => ?_) (fun q => ?_)
  · have q' := cow_neg.mp q
    refine wp_is (c_ey58 hb hO1 hS1) ⟨hF.sI (by unfold PY; omega), ?_, fun j => (wI_ne (by omega)).trans (wI_ne (by omega)), fun k _ => (wI_ne (by omega)).trans (wI_ne (by omega))⟩
    refine ⟨wI_eq _ _ _ _, (wI_ne (by omega)).trans hS1.2.1, (wI_ne (by omega)).trans hS1.2.2.1, fun x hx => ?_, fun x hx y hy => (wI_ne (by omega)).trans (hS1.2.2.2.2.1 x hx y hy), fun x hx => (wI_ne (by omega)).trans (hS1.2.2.2.2.2 x hx)⟩
    refine (wI_ne (by omega)).trans ((hS1.2.2.2.1 x hx).trans ?_)
    refine (hd_endp0 V σ x).symm.trans ?_
    show hd σ x = (if 0 ≤ ow σ ∧ x < nl V then cl 0 99 (w32 (hd σ x + drf V σ x)) else hd σ x)
    rw [if_neg (by omega)]
  · have q' : 0 ≤ ow σ := by
      have : ¬ ow σ < 0 := fun x => q (cow_neg.mpr x)
      omega
    refine wp_use (c_ey19 hV hK hv hb q' (nl V) fu 0 _ (by omega) (by have := hV.1; omega) hO1 (hW.eq (fun a k q1 q2 => hF.at a k (by unfold PY; omega))) hS1) (fun w2 e => ⟨hF.tr e.1, e.2.1, fun j => (e.2.2.1 j).trans (wI_ne (by omega)), fun k hk => (e.2.2.2 k hk).trans (wI_ne (by omega))⟩)
theorem c_year {tH tL : Int} (hV : VOK V) (hK : SOK V σ) (hv : isWi v) (hb : isSt b) (hO : Ok L wl dr tx w) (hW : CW w v V) (hS : CS w b V σ) :
    Wp (Ct_goThroughYear 176 v b tH tL w) (fun r => r.1 = cow (ow (yearS V tH tL σ)) ∧ Fr (PY v b) w r.2 ∧ CS r.2 b V (yearS V tH tL σ) ∧ ∀ j, j < nm V → wI r.2 184 j = cow (vo (ulk V (dayd V tH tL σ (dy V)) (sd V)) j (-1) (nh V))) := by
  have hv' := wi_bd hv
  have hb' := st_bd hb
  unfold Ct_goThroughYear Ct_goThroughYear_0
  refine wp_gd hO rfl (wp_call (c_spendDays hV hv hb hK hO hW hS) (fun w1 g1 => ?_))
  have f1 : Fr (PY v b) w w1 := g1.1.mono (fun a k q => by unfold PD at q; unfold PY; omega)
  refine wp_call (c_settle hV (sok_dayd hV hK _) hv hb (f1.ok hO) (hW.eq (fun a k q1 q2 => f1.at a k (by unfold PY; omega))) g1.2) (fun w2 g2 => ?_)
  have f2 := f1.tr g2.1
  refine wp_call (c_endYear hV (sok_stl (sok_dayd hV hK _)) hv hb (f2.ok hO) (hW.eq (fun a k q1 q2 => f2.at a k (by unfold PY; omega))) g2.2.1) (fun w3 g3 => ?_)
  have f3 := f2.tr g3.1
  refine wp_gI (f3.ok hO) (sh_St L hb) (wp_ret ⟨g3.2.1.2.2.1, f3, g3.2.1, fun j hj => (g3.2.2.1 j).trans (g2.2.2.1 j hj)⟩)
end C5
