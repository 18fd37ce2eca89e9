/-! Level 3: votes and the award. -/
def vo (U : Nat → Nat → Int) (m : Nat) (no : Int) : Nat → Int
  | 0 => -1
  | n + 1 => if (n : Int) = no then vo U m no n else if vo U m no n < 0 then (n : Int) else if U n m < U (vo U m no n).toNat m then (n : Int) else vo U m no n
theorem vo_bd (U : Nat → Nat → Int) (m : Nat) (no : Int) : ∀ n, -1 ≤ vo U m no n ∧ vo U m no n < (n : Int)
  | 0 => by unfold vo; omega
  | n + 1 => by
    have := vo_bd U m no n
    unfold vo
    split
    · omega
    · split
      · omega
      · split <;> omega
def tl (U : Nat → Nat → Int) (hs : Nat) (noH noM : Int) (h : Nat) : Nat → Int
  | 0 => 0
  | n + 1 => if (n : Int) ≠ noM ∧ vo U n noH hs = (h : Int) then tl U hs noH noM h n + 1 else tl U hs noH noM h n
theorem tl_bd (U : Nat → Nat → Int) (hs : Nat) (noH noM : Int) (h : Nat) : ∀ n, 0 ≤ tl U hs noH noM h n ∧ tl U hs noH noM h n ≤ (n : Int)
  | 0 => by unfold tl; omega
  | n + 1 => by
    have := tl_bd U hs noH noM h n
    unfold tl
    split <;> omega
def aw (T S : Nat → Int) : Nat → Int
  | 0 => -1
  | n + 1 => if 0 < T n ∧ (aw T S n < 0 ∨ (if T n = T (aw T S n).toNat then S n < S (aw T S n).toNat else T (aw T S n).toNat < T n)) then (n : Int) else aw T S n
theorem aw_bd (T S : Nat → Int) : ∀ n, -1 ≤ aw T S n ∧ aw T S n < (n : Int)
  | 0 => by unfold aw; omega
  | n + 1 => by
    have := aw_bd T S n
    unfold aw
    split <;> omega
/-- who is given the estate (-1: nobody), by what is unlike, as if one heir or one master were not there -/
def jd (U : Nat → Nat → Int) (hs ms : Nat) (lim noH noM : Int) : Int :=
  if 0 ≤ aw (fun h => tl U hs noH noM h ms) (fun h => usk (U h) noM ms) hs ∧ lim < usk (U (aw (fun h => tl U hs noH noM h ms) (fun h => usk (U h) noM ms) hs).toNat) noM ms then -1 else aw (fun h => tl U hs noH noM h ms) (fun h => usk (U h) noM ms) hs
theorem jd_bd (U : Nat → Nat → Int) (hs ms : Nat) (lim noH noM : Int) : -1 ≤ jd U hs ms lim noH noM ∧ jd U hs ms lim noH noM < (hs : Int) := by
  have := aw_bd (fun h => tl U hs noH noM h ms) (fun h => usk (U h) noM ms) hs
  unfold jd
  split <;> omega
def PC2 (v a : Nat) (_ : Nat) : Prop := a = v + 10 ∨ a = v + 11 ∨ (178 ≤ a ∧ a ≤ 183)
def PV (a : Nat) (_ : Nat) : Prop := a = 184 ∨ a = 185
section C2
variable {L wl dr tx b v : Nat} {V : Vl} {σ : Sg} {U : Nat → Nat → Int}
def UN (w : Wd) (V : Vl) (U : Nat → Nat → Int) : Prop := ∀ h, h < nh V → ∀ m, m < nm V → wI w (178 + h) m = U h m
theorem c_cmp70 {Q : Wd → Prop} {k3 : Nat → Nat → Nat → Int → Int → Wd → Option Wd} {k41 : Nat → Nat → Nat → Int → Int → Int → Wd → Option Wd} {s x5 : Int} {h : Nat} {ρ : Nat → Int} {F : Nat → Int} (hV : VOK V) (hv : isWi v) (hh : h < nh V) : ∀ (r n m : Nat) (w : Wd), m + r = nm V → r < n → Ok L wl dr tx w → CW w v V → (∀ i : Nat, i < 7 → wI w (v + 7 + 3) (cix (i : Int)).toNat = ρ i) → (∀ j, j < nm V → wI w (178 + h) j = if j < m then w32 (F j + cl 0 999 (levo ρ (lo V j))) else F j) →
    (∀ w1, Fr (PC2 v) w w1 → (∀ h', h' ≠ h → ∀ j, wI w1 (178 + h') j = wI w (178 + h') j) → (∀ j, j < nm V → wI w1 (178 + h) j = w32 (F j + cl 0 999 (levo ρ (lo V j)))) → Wp (k41 176 v b s (h : Int) (w32 (x5 + 1)) w1) Q) →
    Wp (Ct_compare_70 k3 k41 n 176 v b s (h : Int) x5 (m : Int) w) Q
  | r, 0, m, w, _, hn, _, _, _, _, _ => absurd hn (by omega)
  | 0, n + 1, m, w, hm, hn, hO, hW, hr, hU, k => by
    rw [Ct_compare_70]
    refine wp_gI hO (sh_Wi L hv) ?_
    rw [hW.1.2.2.1]
    refine wp_pos (by omega) ?_
    unfold Ct_compare_104
    refine k w (Fr.rf w) (fun _ _ _ => rfl) (fun j hj => ?_)
    rw [hU j hj, if_pos (by omega)]
  | r + 1, n + 1, m, w, hm, hn, hO, hW, hr, hU, k => by
    have h6 := hV.2.1
    have h3 := hV.2.2.1
    have hv' := wi_bd hv
    have hml : m < nm V := by omega
    rw [Ct_compare_70]
    refine wp_gI hO (sh_Wi L hv) ?_
    rw [hW.1.2.2.1]
    refine wp_neg (by omega) ?_
    refine wp_R1_0 hO (wp_178 hO (by omega) ?_)
    rw [Int.toNat_natCast]
    refine wp_rI hO (sh_in178 L (by omega)) (by omega) ?_
    rw [Int.toNat_natCast, hU m hml, if_neg (by omega)]
    refine wp_call (c_toldBy hV hO hv hW hml hr) (fun r1 h1 => ?_)
    rw [h1.1]
    have hO1 := h1.2.ok hO
    have n1 : ∀ {a k}, a ≠ v + 11 → wI r1.2 a k = wI w a k := fun ha => h1.2.at _ _ ha
    refine wp_wI hO1 (sh_in178 L (by omega)) (by omega) ?_
    rw [Int.toNat_natCast, w32_id (z := (m : Int) + 1) (by omega) (by omega), show (m : Int) + 1 = ((m + 1 : Nat) : Int) by omega]
    have hF : Fr (PC2 v) w (sI r1.2 (178 + h) m (w32 (F m + cl 0 999 (levo ρ (lo V m))))) := (h1.2.mono (fun a k q => Or.inr (Or.inl q))).sI (Or.inr (Or.inr (by omega)))
    refine c_cmp70 hV hv hh r n (m + 1) _ (by omega) (by omega) (hF.ok hO) (hW.eq (fun a k q1 q2 => hF.at a k (by unfold PC2; omega))) (fun i hi => ((wI_ne (by omega)).trans (n1 (by omega))).trans (hr i hi)) (fun j hj => ?_) (fun w1 g1 g2 g3 => k w1 (hF.tr g1) (fun h' hne j => (g2 h' hne j).trans ((wI_ne (by omega)).trans (n1 (by omega)))) g3)
    rw [wI_sI, n1 (by omega), hU j hj]
    by_cases q : j = m
    · subst q
      rw [if_pos ⟨rfl, rfl⟩, if_pos (by omega)]
    · rw [if_neg (fun p => q p.2)]
      by_cases q2 : j < m
      · rw [if_pos q2, if_pos (by omega)]
      · rw [if_neg q2, if_neg (by omega)]
theorem c_cmp41 {Q : Wd → Prop} {k3 : Nat → Nat → Nat → Int → Int → Wd → Option Wd} {s : Int} {h : Nat} (hV : VOK V) (hK : SOK V σ) (hv : isWi v) (hb : isSt b) (hh : h < nh V) : ∀ (r n l : Nat) (w : Wd), l + r = nl V → r < n → Ok L wl dr tx w → CW w v V → CS w b V σ → (∀ j, j < nm V → wI w (178 + h) j = usum (fun l => una V σ j l (wrt V σ s h l)) l) →
    (∀ w1, Fr (PC2 v) w w1 → (∀ h', h' ≠ h → ∀ j, wI w1 (178 + h') j = wI w (178 + h') j) → (∀ j, j < nm V → wI w1 (178 + h) j = ulk V σ s h j) → Wp (k3 176 v b s (w32 ((h : Int) + 1)) w1) Q) →
    Wp (Ct_compare_41 k3 n 176 v b s (h : Int) (l : Int) w) Q
  | r, 0, l, w, _, hn, _, _, _, _, _ => absurd hn (by omega)
  | 0, n + 1, l, w, hl, hn, hO, hW, hS, hU, k => by
    rw [Ct_compare_41]
    refine wp_gI hO (sh_Wi L hv) ?_
    rw [hW.1.1]
    refine wp_pos (by omega) ?_
    unfold Ct_compare_110
    refine k w (Fr.rf w) (fun _ _ _ => rfl) (fun j hj => ?_)
    rw [hU j hj, show l = nl V by omega]
    rfl
  | r + 1, n + 1, l, w, hl, hn, hO, hW, hS, hU, k => by
    have h6 := hV.1
    have hv' := wi_bd hv
    have hb' := st_bd hb
    have h7 := hV.2.1
    have hll : l < nl V := by omega
    rw [Ct_compare_41]
    generalize hFU : FU = fu; have hfu : 1000000 = fu := hFU
    refine wp_gI hO (sh_Wi L hv) ?_
    rw [hW.1.1]
    refine wp_neg (by omega) ?_
    refine wp_eq (c_written hV hO hb hv hS hW hh hll) ?_
    refine wp_call (c_show hV hK hO hb hv hS hll (wrt_bd V σ s h l)) (fun w1 h1 => ?_)
    have n1 : ∀ {a k}, a ≠ v + 10 → wI w1 a k = wI w a k := fun ha => h1.1.at _ _ ha
    have hF1 : Fr (PC2 v) w w1 := h1.1.mono (fun a k q => Or.inl q)
    refine c_cmp70 (F := fun j => usum (fun l => una V σ j l (wrt V σ s h l)) l) hV hv hh (nm V) fu 0 w1 (by omega) (by have := hV.2.2.1; omega) (hF1.ok hO) (hW.eq (fun a k q1 q2 => n1 (by omega))) h1.2 (fun j hj => ?_) (fun w2 g1 g2 g3 => ?_)
    · rw [if_neg (by omega), n1 (by omega), hU j hj]
    · rw [w32_id (by omega) (by omega), show (l : Int) + 1 = ((l + 1 : Nat) : Int) by omega]
      have hF2 := hF1.tr g1
      exact c_cmp41 hV hK hv hb hh r n (l + 1) w2 (by omega) (by omega) (hF2.ok hO) (hW.eq (fun a k q1 q2 => hF2.at a k (by unfold PC2; omega))) (hS.eq (fun a k q1 q2 => hF2.at a k (by unfold PC2; omega))) (fun j hj => g3 j hj) (fun w3 e1 e2 e3 => k w3 (hF2.tr e1) (fun h' hne j => ((e2 h' hne j).trans (g2 h' hne j)).trans (n1 (by omega))) e3)
theorem c_cmp15 {Q : Wd → Prop} {k3 : Nat → Nat → Nat → Int → Int → Wd → Option Wd} {s : Int} {h : Nat} (hV : VOK V) (hh : h < nh V) (hv : isWi v) : ∀ (r n m : Nat) (w : Wd), m + r = 3 → r < n → Ok L wl dr tx w → (∀ j, j < m → wI w (178 + h) j = 0) →
    (∀ w1, Fr (PC2 v) w w1 → (∀ h', h' ≠ h → ∀ j, wI w1 (178 + h') j = wI w (178 + h') j) → (∀ j, j < 3 → wI w1 (178 + h) j = 0) → Wp (Ct_compare_38 k3 176 v b s (h : Int) w1) Q) →
    Wp (Ct_compare_15 k3 n 176 v b s (h : Int) (m : Int) w) Q
  | r, 0, m, w, _, hn, _, _, _ => absurd hn (by omega)
  | 0, n + 1, m, w, hm, hn, hO, hU, k => by
    rw [Ct_compare_15]
    refine wp_pos (by omega) ?_
    exact k w (Fr.rf w) (fun _ _ _ => rfl) (fun j hj => hU j (by omega))
  | r + 1, n + 1, m, w, hm, hn, hO, hU, k => by
    have h6 := hV.2.1
    have hv' := wi_bd hv
    rw [Ct_compare_15]
    refine wp_neg (by omega) ?_
    refine wp_R1_0 hO (wp_178 hO (by omega) ?_)
    rw [Int.toNat_natCast]
    refine wp_wI hO (sh_in178 L (by omega)) (by omega) ?_
    rw [Int.toNat_natCast, w32_id (z := (m : Int) + 1) (by omega) (by omega), show (m : Int) + 1 = ((m + 1 : Nat) : Int) by omega]
    have hF : Fr (PC2 v) w (sI w (178 + h) m 0) := fr_sI (Or.inr (Or.inr (by omega)))
    refine c_cmp15 hV hh hv r n (m + 1) _ (by omega) (by omega) (hF.ok hO) (fun j hj => ?_) (fun w1 g1 g2 g3 => k w1 (hF.tr g1) (fun h' hne j => (g2 h' hne j).trans (wI_ne (by omega))) g3)
    rw [wI_sI]
    by_cases q : j = m
    · rw [if_pos ⟨rfl, q⟩]
    · rw [if_neg (fun p => q p.2)]; exact hU j (by omega)
theorem c_cmp3 {s : Int} (hV : VOK V) (hK : SOK V σ) (hv : isWi v) (hb : isSt b) : ∀ (r n h : Nat) (w : Wd), h + r = nh V → r < n → Ok L wl dr tx w → CW w v V → CS w b V σ → (∀ h', h' < h → ∀ m, m < nm V → wI w (178 + h') m = ulk V σ s h' m) →
    Wp (Ct_compare_3 n 176 v b s (h : Int) w) (fun w1 => Fr (PC2 v) w w1 ∧ UN w1 V (ulk V σ s))
  | r, 0, h, w, _, hn, _, _, _, _ => absurd hn (by omega)
  | 0, n + 1, h, w, hh, hn, hO, hW, hS, hU => by
    rw [Ct_compare_3]
    refine wp_gI hO (sh_Wi L hv) ?_
    rw [hW.1.2.1]
    refine wp_pos (by omega) (wp_ret ⟨Fr.rf w, fun x hx m hm => hU x (by omega) m hm⟩)
  | r + 1, n + 1, h, w, hh, hn, hO, hW, hS, hU => by
    have h6 := hV.2.1
    have h3 := hV.2.2.1
    have hv' := wi_bd hv
    have hb' := st_bd hb
    rw [Ct_compare_3]
    generalize hFU : FU = fu; have hfu : 1000000 = fu := hFU
    refine wp_gI hO (sh_Wi L hv) ?_
    rw [hW.1.2.1]
    refine wp_neg (by omega) ?_
    refine c_cmp15 hV (by omega) hv 3 fu 0 w (by omega) (by omega) hO (fun j hj => absurd hj (by omega)) (fun w1 g1 g2 g3 => ?_)
    unfold Ct_compare_38
    rw [hFU]
    refine c_cmp41 hV hK hv hb (by omega) (nl V) fu 0 w1 (by omega) (by have := hV.1; omega) (g1.ok hO) (hW.eq (fun a k q1 q2 => g1.at a k (by unfold PC2; omega))) (hS.eq (fun a k q1 q2 => g1.at a k (by unfold PC2; omega))) (fun j hj => g3 j (by omega)) (fun w2 e1 e2 e3 => ?_)
    have hF2 := g1.tr e1
    rw [w32_id (by omega) (by omega), show (h : Int) + 1 = ((h + 1 : Nat) : Int) by omega]
    refine wp_use (c_cmp3 hV hK hv hb r n (h + 1) w2 (by omega) (by omega) (hF2.ok hO) (hW.eq (fun a k q1 q2 => hF2.at a k (by unfold PC2; omega))) (hS.eq (fun a k q1 q2 => hF2.at a k (by unfold PC2; omega))) (fun x hx m hm => ?_)) (fun w3 d => ⟨hF2.tr d.1, d.2⟩)
    by_cases q : x = h
    · subst q; exact e3 m hm
    · rw [e2 x q m, g2 x q m]; exact hU x (by omega) m hm
theorem c_compare {s : Int} {w : Wd} (hV : VOK V) (hK : SOK V σ) (hv : isWi v) (hb : isSt b) (hO : Ok L wl dr tx w) (hW : CW w v V) (hS : CS w b V σ) : Wp (Ct_compare 176 v b s w) (fun w1 => Fr (PC2 v) w w1 ∧ UN w1 V (ulk V σ s)) := by
  unfold Ct_compare Ct_compare_0
  generalize hFU : FU = fu; have hfu : 1000000 = fu := hFU
  refine wp_gd hO rfl ?_
  exact c_cmp3 hV hK hv hb (nh V) fu 0 w (by omega) (by have := hV.2.1; omega) hO hW hS (fun x hx => absurd hx (by omega))
end C2
