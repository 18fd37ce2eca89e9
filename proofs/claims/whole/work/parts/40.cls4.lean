/-! Level 3: what heirs learn, and a year. -/
def mo (f : Nat → Int) : Nat → Nat
  | 0 => 0
  | n + 1 => if f (mo f n) < f (n + 1) then n + 1 else mo f n
theorem mo_le (f : Nat → Int) : ∀ n, mo f n ≤ n
  | 0 => Nat.le_refl 0
  | n + 1 => by
    have := mo_le f n
    unfold mo
    split <;> omega
/-- the letter that an heir learns on a day (-1: none) -/
def lrn (V : Vl) (σ : Sg) (h : Nat) (d : Int) : Int := if nl V = 0 then -1 else match lo V (3 + h) with
  | none => (mo (fun l => ab (sp σ h l) (hd σ l)) (nl V - 1) : Int)
  | some q => if levo (env 0 0 (yr σ) 0 0 0 d) (some q) < 0 then -1 else (levo (env 0 0 (yr σ) 0 0 0 d) (some q)).tmod (nl V)
def lsn (V : Vl) (σ : Sg) (h : Nat) (x : Int) : Sg := if 0 ≤ x ∧ x < (nl V : Int) then put σ h x.toNat (near (sp σ h x.toNat) (hd σ x.toNat) (sk V h)) else σ
def day1 (V : Vl) (tH tL d : Int) (σ : Sg) (h : Nat) : Sg := lsn V σ h (if (h : Int) = tH then tL else lrn V σ h d)
def dayh (V : Vl) (tH tL d : Int) (σ : Sg) : Nat → Sg
  | 0 => σ
  | n + 1 => day1 V tH tL d (dayh V tH tL d σ n) n
def dayd (V : Vl) (tH tL : Int) (σ : Sg) : Nat → Sg
  | 0 => σ
  | n + 1 => dayh V tH tL (n : Int) (dayd V tH tL σ n) (nh V)
def jdg (V : Vl) (σ : Sg) (s : Int) : Int := jd (ulk V σ s) (nh V) (nm V) (lm V) (-1) (-1)
def stl (V : Vl) (σ : Sg) : Sg := (yr σ, wo σ, jdg V σ (sd V), hd σ, sp σ, fun h => if (h : Int) = jdg V σ (sd V) then w32 (ha σ h + 1) else ha σ h)
def drf (V : Vl) (σ : Sg) (l : Nat) : Int := cl (-9) 9 (levo (env (ab (sp σ (ow σ).toNat l) (hd σ l)) (l : Int) (yr σ) 0 (sp σ (ow σ).toNat l) (hd σ l) 0) (lo V 9))
def endy (V : Vl) (σ : Sg) : Sg := (w32 (yr σ + 1), w32 (wo σ + 1), ow σ, fun l => if 0 ≤ ow σ ∧ l < nl V then cl 0 99 (w32 (hd σ l + drf V σ l)) else hd σ l, sp σ, ha σ)
def yearS (V : Vl) (tH tL : Int) (σ : Sg) : Sg := endy V (stl V (dayd V tH tL σ (dy V)))
theorem sok_lsn {V : Vl} {σ : Sg} {h : Nat} {x : Int} (hV : VOK V) (hK : SOK V σ) (hh : h < nh V) : SOK V (lsn V σ h x) := by
  unfold lsn
  split
  · rename_i q
    have hl : x.toNat < nl V := by omega
    exact hK.put (near_bd (hK.2.1 h hh _ hl) (hK.1 _ hl) (hV.2.2.2.2.1 h hh).1.1)
  · exact hK
theorem sok_day1 {V : Vl} {tH tL d : Int} {σ : Sg} {h : Nat} (hV : VOK V) (hK : SOK V σ) (hh : h < nh V) : SOK V (day1 V tH tL d σ h) := sok_lsn hV hK hh
theorem sok_dayh {V : Vl} {tH tL d : Int} {σ : Sg} (hV : VOK V) (hK : SOK V σ) : ∀ n, n ≤ nh V → SOK V (dayh V tH tL d σ n)
  | 0, _ => hK
  | n + 1, h => sok_day1 hV (sok_dayh hV hK n (by omega)) (by omega)
theorem sok_dayd {V : Vl} {tH tL : Int} {σ : Sg} (hV : VOK V) (hK : SOK V σ) : ∀ n, SOK V (dayd V tH tL σ n)
  | 0 => hK
  | n + 1 => sok_dayh hV (sok_dayd hV hK n) (nh V) (Nat.le_refl _)
theorem sok_stl {V : Vl} {σ : Sg} (hK : SOK V σ) : SOK V (stl V σ) := ⟨hK.1, hK.2.1, jd_bd _ _ _ _ _ _⟩
theorem sok_endy {V : Vl} {σ : Sg} (hK : SOK V σ) : SOK V (endy V σ) := by
  refine ⟨fun l hl => ?_, hK.2.1, hK.2.2⟩
  show 0 ≤ (if 0 ≤ ow σ ∧ l < nl V then cl 0 99 (w32 (hd σ l + drf V σ l)) else hd σ l) ∧ (if 0 ≤ ow σ ∧ l < nl V then cl 0 99 (w32 (hd σ l + drf V σ l)) else hd σ l) ≤ 99
  split
  · unfold cl; omega
  · exact hK.1 l hl
theorem sok_year {V : Vl} {tH tL : Int} {σ : Sg} (hV : VOK V) (hK : SOK V σ) : SOK V (yearS V tH tL σ) := sok_endy (sok_stl (sok_dayd hV hK _))
def PL (v a : Nat) (_ : Nat) : Prop := a = v + 10 ∨ a = v + 11
def PD (v b a : Nat) (_ : Nat) : Prop := a = v + 10 ∨ a = v + 11 ∨ a = b + 2
def PY (v b a : Nat) (_ : Nat) : Prop := a = v + 10 ∨ a = v + 11 ∨ (178 ≤ a ∧ a ≤ 185) ∨ (b ≤ a ∧ a ≤ b + 3)
section C4
variable {L wl dr tx b v : Nat} {V : Vl} {σ : Sg} {w : Wd}
theorem c_mostOff13 {h : Nat} (hV : VOK V) (hK : SOK V σ) (hv : isWi v) (hb : isSt b) (hO : Ok L wl dr tx w) (hW : CW w v V) (hS : CS w b V σ) (hh : h < nh V) : ∀ (r n l : Nat), l + 1 + r = nl V → r < n → Wi_mostOff_13 n v b (h : Int) (mo (fun l => ab (sp σ h l) (hd σ l)) l : Int) (ab (sp σ h (mo (fun l => ab (sp σ h l) (hd σ l)) l)) (hd σ (mo (fun l => ab (sp σ h l) (hd σ l)) l))) ((l + 1 : Nat) : Int) w = some ((mo (fun l => ab (sp σ h l) (hd σ l)) (nl V - 1) : Int), w)
  | r, 0, l, _, hn => absurd hn (by omega)
  | 0, n + 1, l, hl, hn => by
    refine wp_out ?_
    rw [Wi_mostOff_13]
    refine wp_gI hO (sh_Wi L hv) ?_
    rw [hW.1.1]
    refine wp_pos (by omega) (wp_ret ?_)
    rw [show l = nl V - 1 by omega]
  | r + 1, n + 1, l, hl, hn => by
    refine wp_out ?_
    have h6 := hV.1
    rw [Wi_mostOff_13]
    refine wp_gI hO (sh_Wi L hv) ?_
    rw [hW.1.1]
    refine wp_neg (by omega) ?_
    refine wp_eq (c_off hV hK hO hb hS hh (by omega)) ?_
    unfold Wi_mostOff_45
    rw [w32_id (z := ((l + 1 : Nat) : Int) + 1) (by omega) (by omega), show ((l + 1 : Nat) : Int) + 1 = ((l + 1 + 1 : Nat) : Int) by omega]
    have ih := c_mostOff13 hV hK hv hb hO hW hS hh r n (l + 1) (by omega) (by omega)
    have e : mo (fun l => ab (sp σ h l) (hd σ l)) (l + 1) = if ab (sp σ h (mo (fun l => ab (sp σ h l) (hd σ l)) l)) (hd σ (mo (fun l => ab (sp σ h l) (hd σ l)) l)) < ab (sp σ h (l + 1)) (hd σ (l + 1)) then l + 1 else mo (fun l => ab (sp σ h l) (hd σ l)) l := rfl
    refine wp_ite (fun q => ?_) (fun q => ?_)
    · have q' : ab (sp σ h (l + 1)) (hd σ (l + 1)) ≤ ab (sp σ h (mo (fun l => ab (sp σ h l) (hd σ l)) l)) (hd σ (mo (fun l => ab (sp σ h l) (hd σ l)) l)) := q
      rw [if_neg (by omega)] at e
      rw [e] at ih
      exact wp_is ih rfl
    · have q' : ¬ ab (sp σ h (l + 1)) (hd σ (l + 1)) ≤ ab (sp σ h (mo (fun l => ab (sp σ h l) (hd σ l)) l)) (hd σ (mo (fun l => ab (sp σ h l) (hd σ l)) l)) := q
      rw [if_pos (by omega)] at e
      rw [e] at ih
      exact wp_is ih rfl
theorem c_mostOff {h : Nat} (hV : VOK V) (hK : SOK V σ) (hv : isWi v) (hb : isSt b) (hO : Ok L wl dr tx w) (hW : CW w v V) (hS : CS w b V σ) (hh : h < nh V) (h0 : 0 < nl V) : Wi_mostOff v b (h : Int) w = some ((mo (fun l => ab (sp σ h l) (hd σ l)) (nl V - 1) : Int), w) := by
  have h6 := hV.1
  refine wp_out ?_
  unfold Wi_mostOff Wi_mostOff_0
  generalize hFU : FU = fu; have hfu : 1000000 = fu := hFU
  refine wp_gd hO (sh_Wi L hv) ?_
  refine wp_eq (c_off (l := 0) hV hK hO hb hS hh h0) ?_
  exact wp_is (c_mostOff13 hV hK hv hb hO hW hS hh (nl V - 1) fu 0 (by omega) (by omega)) rfl
theorem c_learned {h : Nat} {d : Int} (hV : VOK V) (hK : SOK V σ) (hv : isWi v) (hb : isSt b) (hO : Ok L wl dr tx w) (hW : CW w v V) (hS : CS w b V σ) (hh : h < nh V) : Wp (Wi_learned v b (h : Int) d w) (fun r => r.1 = cow (lrn V σ h d) ∧ Fr (PL v) w r.2) := by
  have h6 := hV.1
  have h7 := hV.2.1
  unfold Wi_learned Wi_learned_0
  refine wp_gd hO (sh_Wi L hv) (wp_gI hO (sh_Wi L hv) ?_)
  rw [hW.1.1]
  unfold lrn
  by_cases q0 : nl V = 0
  · rw [if_pos q0]
    exact wp_neg (by omega) (wp_ret ⟨rfl, Fr.rf w⟩)
  rw [if_neg q0]
  refine wp_pos (by omega) (wp_R10_12 hO hv (wp_rI hO (sh_Wi_12 L hv) (by omega) ?_))
  rw [Int.toNat_natCast]
  obtain ⟨z0, hz, hz0, -, hl, -⟩ := hW.2.2
  have hlh := hl h hh
  cases hq : lo V (3 + h) with
  | none =>
    rw [hq] at hlh
    refine wp_pos hlh ?_
    refine wp_eq (c_mostOff hV hK hv hb hO hW hS hh (by omega)) (wp_ret ⟨?_, Fr.rf w⟩)
    exact (cow_nn (by omega)).symm
  | some q =>
    rw [hq] at hlh
    obtain ⟨bs, e⟩ := q
    have hlh2 := hlh
    obtain ⟨f, hf, hcl⟩ := hlh2
    refine wp_neg (by omega) ?_
    refine wp_R10_13 hO hv (wp_gI hO (sh_St L hb) ?_)
    rw [hS.1]
    refine wp_call (c_lookAt hO (isLw_of hv)) (fun w1 g1 => ?_)
    have hO1 := g1.1.ok hO
    have n1 : ∀ {a k}, a ≠ v + 7 + 3 → wI w1 a k = wI w a k := fun ha => g1.1.at _ _ ha
    refine wp_R10_13 hO1 hv (wp_R10_12 hO1 hv (wp_rI hO1 (sh_Wi_12 L hv) (by omega) ?_))
    rw [Int.toNat_natCast, n1 (by omega)]
    refine wp_call (c_law hO1 hv hz ((n1 (by omega)).trans hz0) (clawAt_eq (fun k => n1 (by omega)) (fun k => n1 (by omega)) hlh) (by simp) g1.2) (fun r hr => ?_)
    have hF : Fr (PL v) w r.2 := (g1.1.mono (fun a k q => Or.inl q)).tr (hr.2.mono (fun a k q => Or.inr q))
    have hO2 := hF.ok hO
    rw [hr.1]
    unfold Wi_learned_76
    refine wp_ite (fun q => ?_) (fun q => wp_ret ⟨?_, hF⟩)
    · refine wp_gI hO2 (sh_Wi L hv) ?_
      rw [hF.at v 0 (by unfold PL; omega), hW.1.1]
      refine wp_irm (by omega) (wp_ret ⟨?_, hF⟩)
      show _ = cow (if _ then _ else _)
      rw [if_neg (by omega)]
      exact (cow_nn (Int.tmod_nonneg _ q)).symm
    · show _ = cow (if _ then _ else _)
      rw [if_pos (by omega)]; rfl
theorem lrn_lt {h : Nat} {d : Int} (h0 : 0 < nl V) : lrn V σ h d < (nl V : Int) := by
  unfold lrn
  rw [if_neg (by omega)]
  split
  · have := mo_le (fun l => ab (sp σ h l) (hd σ l)) (nl V - 1); omega
  · split
    · omega
    · exact Int.tmod_lt_of_pos _ (by omega)
theorem c_sp15 {Q : Wd → Prop} {k3 : Nat → Nat → Int → Int → Int → Wd → Option Wd} {tH tL d : Int} (hV : VOK V) (hv : isWi v) (hb : isSt b) (hK : SOK V σ) : ∀ (r n h : Nat) (w : Wd), h + r = nh V → r < n → Ok L wl dr tx w → CW w v V → CS w b V (dayh V tH tL d σ h) →
    (∀ w1, Fr (PD v b) w w1 → CS w1 b V (dayh V tH tL d σ (nh V)) → Wp (k3 v b tH tL (w32 (d + 1)) w1) Q) →
    Wp (Ct_spendDays_15 k3 n v b tH tL d (h : Int) w) Q
  | r, 0, h, w, _, hn, _, _, _, _ => absurd hn (by omega)
  | 0, n + 1, h, w, hh, hn, hO, hW, hS, k => by
    rw [Ct_spendDays_15]
    refine wp_gI hO (sh_Wi L hv) ?_
    rw [hW.1.2.1]
    refine wp_pos (by omega) ?_
    unfold Ct_spendDays_81
    rw [show h = nh V by omega] at hS
    exact k w (Fr.rf w) hS
  | r + 1, n + 1, h, w, hh, hn, hO, hW, hS, k => by
    have h6 := hV.1
    have h7 := hV.2.1
    have hv' := wi_bd hv
    have hb' := st_bd hb
    have hK' := sok_dayh (tH := tH) (tL := tL) (d := d) hV hK h (by omega)
    have hhl : h < nh V := by omega
    rw [Ct_spendDays_15]
    refine wp_gI hO (sh_Wi L hv) ?_
    rw [hW.1.2.1]
    refine wp_neg (by omega) ?_
    have go : ∀ w2 (x : Int), Fr (PD v b) w w2 → CS w2 b V (dayh V tH tL d σ h) → (x < 0 ∧ (if (h : Int) = tH then tL else lrn V (dayh V tH tL d σ h) h d) < 0 ∨ x = (if (h : Int) = tH then tL else lrn V (dayh V tH tL d σ h) h d)) → Wp (Ct_spendDays_44 k3 (Ct_spendDays_15 k3 n) v b tH tL d (h : Int) x w2) Q := by
      intro w2 x hF hS2 hx
      have hO2 := hF.ok hO
      have hW2 : CW w2 v V := hW.eq (fun a k q1 q2 => hF.at a k (by unfold PD; omega))
      have ed : dayh V tH tL d σ (h + 1) = day1 V tH tL d (dayh V tH tL d σ h) h := rfl
      unfold Ct_spendDays_44 Ct_spendDays_75
      rw [w32_id (z := (h : Int) + 1) (by omega) (by omega), show (h : Int) + 1 = ((h + 1 : Nat) : Int) by omega]
      have no : ¬ (0 ≤ (if (h : Int) = tH then tL else lrn V (dayh V tH tL d σ h) h d) ∧ (if (h : Int) = tH then tL else lrn V (dayh V tH tL d σ h) h d) < (nl V : Int)) → Wp (Ct_spendDays_15 k3 n v b tH tL d ((h + 1 : Nat) : Int) w2) Q := by
        intro hno
        refine c_sp15 hV hv hb hK r n (h + 1) w2 (by omega) (by omega) hO2 hW2 ?_ (fun w3 g1 g2 => k w3 (hF.tr g1) g2)
        rw [ed]
        unfold day1 lsn
        rw [if_neg hno]
        exact hS2
      refine wp_ite (fun q => no (by omega)) (fun q => ?_)
      refine wp_gI hO2 (sh_Wi L hv) ?_
      rw [hW2.1.1]
      refine wp_ite (fun q2 => no (by omega)) (fun q2 => ?_)
      have ex : x = (if (h : Int) = tH then tL else lrn V (dayh V tH tL d σ h) h d) := by omega
      have exn : x = ((x.toNat : Nat) : Int) := by omega
      refine wp_R10_8 hO2 hv (wp_rI hO2 (sh_Wi_8 L hv) (by omega) ?_)
      rw [Int.toNat_natCast, (hW2.2.1 h hhl).1, exn]
      refine wp_eq (c_teach hV hK' hO2 hb hS2 hhl (by omega) (hV.2.2.2.2.1 h hhl).1.1) ?_
      have hF3 : Fr (PD v b) w (sI w2 (b + 2) (6 * h + x.toNat) (near (sp (dayh V tH tL d σ h) h x.toNat) (hd (dayh V tH tL d σ h) x.toNat) (sk V h))) := hF.sI (Or.inr (Or.inr rfl))
      refine c_sp15 hV hv hb hK r n (h + 1) _ (by omega) (by omega) (hF3.ok hO) (hW.eq (fun a k q1 q2 => hF3.at a k (by unfold PD; omega))) ?_ (fun w3 g1 g2 => k w3 (hF3.tr g1) g2)
      rw [ed]
      unfold day1 lsn
      rw [← ex, if_pos (by omega)]
      exact hS2.put hV (by omega)
    refine wp_ite (fun q => ?_) (fun q => ?_)
    · exact go w tL (Fr.rf w) hS (Or.inr (by rw [if_pos q]))
    · refine wp_call (c_learned hV hK' hv hb hO hW hS hhl) (fun r1 h1 => ?_)
      have hF1 : Fr (PD v b) w r1.2 := h1.2.mono (fun a k q => by unfold PD; rcases q with q | q <;> omega)
      refine go r1.2 r1.1 hF1 (hS.eq (fun a k q1 q2 => h1.2.at a k (by unfold PL; omega))) ?_
      rw [h1.1, if_neg q]
      by_cases q2 : lrn V (dayh V tH tL d σ h) h d < 0
      · exact Or.inl ⟨cow_neg.mpr q2, q2⟩
      · exact Or.inr (cow_nn (by omega))
theorem c_sp3 {tH tL : Int} (hV : VOK V) (hv : isWi v) (hb : isSt b) (hK : SOK V σ) : ∀ (r n d : Nat) (w : Wd), d + r = dy V → r < n → Ok L wl dr tx w → CW w v V → CS w b V (dayd V tH tL σ d) →
    Wp (Ct_spendDays_3 n v b tH tL (d : Int) w) (fun w1 => Fr (PD v b) w w1 ∧ CS w1 b V (dayd V tH tL σ (dy V)))
  | r, 0, d, w, _, hn, _, _, _ => absurd hn (by omega)
  | 0, n + 1, d, w, hd', hn, hO, hW, hS => by
    rw [Ct_spendDays_3]
    refine wp_gI hO (sh_Wi L hv) ?_
    rw [hW.1.2.2.2.1]
    refine wp_pos (by omega) (wp_ret ⟨Fr.rf w, ?_⟩)
    rw [show d = dy V by omega] at hS
    exact hS
  | r + 1, n + 1, d, w, hd', hn, hO, hW, hS => by
    have hv' := wi_bd hv
    have hb' := st_bd hb
    have h9 := hV.2.2.2.1
    rw [Ct_spendDays_3]
    generalize hFU : FU = fu; have hfu : 1000000 = fu := hFU
    refine wp_gI hO (sh_Wi L hv) ?_
    rw [hW.1.2.2.2.1]
    refine wp_neg (by omega) ?_
    refine c_sp15 hV hv hb (sok_dayd (tH := tH) (tL := tL) hV hK d) (nh V) fu 0 w (by omega) (by have := hV.2.1; omega) hO hW hS (fun w1 g1 g2 => ?_)
    rw [w32_id (by omega) (by omega), show (d : Int) + 1 = ((d + 1 : Nat) : Int) by omega]
    exact wp_use (c_sp3 hV hv hb hK r n (d + 1) w1 (by omega) (by omega) (g1.ok hO) (hW.eq (fun a k q1 q2 => g1.at a k (by unfold PD; omega))) g2) (fun w2 e => ⟨g1.tr e.1, e.2⟩)
theorem c_spendDays {tH tL : Int} (hV : VOK V) (hv : isWi v) (hb : isSt b) (hK : SOK V σ) (hO : Ok L wl dr tx w) (hW : CW w v V) (hS : CS w b V σ) :
    Wp (Ct_spendDays 176 v b tH tL w) (fun w1 => Fr (PD v b) w w1 ∧ CS w1 b V (dayd V tH tL σ (dy V))) := by
  unfold Ct_spendDays Ct_spendDays_0
  generalize hFU : FU = fu; have hfu : 1000000 = fu := hFU
  refine wp_gd hO rfl ?_
  exact c_sp3 hV hv hb hK (dy V) fu 0 w (by omega) (by have := hV.2.2.2.1; omega) hO hW hS
end C4
