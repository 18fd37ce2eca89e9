/-! Level 3, read: the class begins anew. -/
section CN
variable {L wl dr tx : Nat} {w w0 : Wd}
theorem ok_wl {x : Nat} (h : Ok L wl dr tx w) : Ok L x dr tx (sR w 6 3 x) := by
  refine ⟨h.1, ?_⟩
  show up2 (wR w) 6 3 x = RR x dr tx
  rw [h.2]
  funext a k
  unfold up2 RR
  by_cases c : a = 6 ∧ k = 3
  · rw [if_pos c, if_pos c]
  · rw [if_neg c, if_neg c, if_neg c]
theorem ok_dr {x : Nat} (h : Ok L wl dr tx w) : Ok L wl x tx (sR w 8 1 x) := by
  refine ⟨h.1, ?_⟩
  show up2 (wR w) 8 1 x = RR wl x tx
  rw [h.2]
  funext a k
  unfold up2 RR
  by_cases c : a = 8 ∧ k = 1
  · rw [if_pos c, if_neg (by omega), if_pos c]
  · rw [if_neg c, if_neg c]
    by_cases c2 : a = 6 ∧ k = 3
    · rw [if_pos c2, if_pos c2]
    · rw [if_neg c2, if_neg c2, if_neg c]
def P43 (a k : Nat) : Prop := a = 43
theorem c_begin48 (hO0 : Ok L wl dr tx w0) : ∀ (r m k : Nat) (w : Wd), k + r = 6 → r < m → Fr P43 w0 w → (∀ j, j < k → wI w 43 j = 0) → Wp (St_begin_48 m 40 (k : Int) w) (fun q => Fr P43 w0 q ∧ ∀ j, j < 6 → wI q 43 j = 0)
  | _, 0, _, _, _, hm, _, _ => absurd hm (by omega)
  | 0, m + 1, k, w, hk, _, hF, hv => by
    rw [St_begin_48]
    exact wp_pos (by omega) (wp_ret ⟨hF, fun j hj => hv j (by omega)⟩)
  | r + 1, m + 1, k, w, hk, hm, hF, hv => by
    have hO := hF.ok hO0
    rw [St_begin_48]
    refine wp_neg (by omega) (wp_R9_5 hO isSt_40 (wp_wI hO rfl (by omega) ?_))
    rw [Int.toNat_natCast, w32_id (by omega) (by omega), show (k : Int) + 1 = ((k + 1 : Nat) : Int) by omega]
    refine c_begin48 hO0 r m (k + 1) _ (by omega) (by omega) (hF.sI rfl) (fun j hj => ?_)
    by_cases e : j = k
    · rw [e]; exact wI_eq _ _ _ _
    · rw [wI_ne (by omega)]; exact hv j (by omega)
theorem c_begin {v : Nat} (hv : isWi v) (hO : Ok L wl dr tx w) : Wp (St_begin 40 v w) (fun w1 => Fr (PB 40) w w1 ∧ (wI w1 40 0 = 0 ∧ wI w1 40 1 = 0 ∧ wI w1 40 2 = -2) ∧ (∀ i, i < 6 → wI w1 41 i = wI w (v + 1) i) ∧ (∀ i, i < 36 → wI w1 42 i = wI w (v + 4) i) ∧ (∀ i, i < 6 → wI w1 43 i = 0)) := by
  have hb := wi_bd hv
  unfold St_begin St_begin_0
  generalize hFU : FU = fu; have hfu : 1000000 = fu := hFU
  refine wp_gd hO rfl (wp_pI hO rfl (wp_pI hO.sI rfl (wp_pI hO.sI.sI rfl ?_)))
  generalize hw1 : sI (sI (sI w 40 0 0) 40 1 0) 40 2 (-2) = w1
  have f1 : Fr (PB 40) w w1 := by rw [← hw1]; exact ((fr_sI (by unfold PB; omega)).sI (by unfold PB; omega)).sI (by unfold PB; omega)
  have v1 : wI w1 40 0 = 0 ∧ wI w1 40 1 = 0 ∧ wI w1 40 2 = -2 := by rw [← hw1]; exact ⟨((wI_ne (by omega)).trans (wI_ne (by omega))).trans (wI_eq _ _ _ _), (wI_ne (by omega)).trans (wI_eq _ _ _ _), wI_eq _ _ _ _⟩
  clear hw1
  have hO1 := f1.ok hO
  refine wp_R10_7 hO1 hv (wp_R9_3 hO1 isSt_40 (wp_cp hO1 (sh_Wi_7 L hv) rfl (by omega) ?_))
  rw [show (0 : Int).toNat = 0 from rfl, show (6 : Int).toNat = 6 from rfl]
  generalize hw2 : cpI w1 (v + 1) 0 (40 + 1) 0 6 = w2
  have f2 : Fr (PB 40) w w2 := by rw [← hw2]; exact f1.cpI (fun k _ _ => by unfold PB; omega)
  have o2 : ∀ a k, a ≠ 41 → wI w2 a k = wI w1 a k := fun a k q => by rw [← hw2]; exact wI_cp (by omega)
  have v2 : ∀ i, i < 6 → wI w2 41 i = wI w (v + 1) i := fun i hi => by
    rw [← hw2, wI_cpe (by omega) (by omega), show 0 + (i - 0) = i by omega]; exact f1.at _ _ (by unfold PB; omega)
  clear hw2
  have hO2 := f2.ok hO
  refine wp_R10_10 hO2 hv (wp_R9_4 hO2 isSt_40 (wp_cp hO2 (sh_Wi_10 L hv) rfl (by omega) ?_))
  rw [show (0 : Int).toNat = 0 from rfl, show (36 : Int).toNat = 36 from rfl]
  generalize hw3 : cpI w2 (v + 4) 0 (40 + 2) 0 36 = w3
  have f3 : Fr (PB 40) w w3 := by rw [← hw3]; exact f2.cpI (fun k _ _ => by unfold PB; omega)
  have o3 : ∀ a k, a ≠ 42 → wI w3 a k = wI w2 a k := fun a k q => by rw [← hw3]; exact wI_cp (by omega)
  have v3 : ∀ i, i < 36 → wI w3 42 i = wI w (v + 4) i := fun i hi => by
    rw [← hw3, wI_cpe (by omega) (by omega), show 0 + (i - 0) = i by omega]; exact f2.at _ _ (by unfold PB; omega)
  clear hw3
  have hO3 := f3.ok hO
  refine wp_use (c_begin48 hO3 6 fu 0 w3 rfl (by omega) (Fr.rf w3) (fun j hj => absurd hj (Nat.not_lt_zero _))) (fun q g => ?_)
  obtain ⟨f4, g4⟩ := g
  have o4 : ∀ a k, a ≠ 43 → wI q a k = wI w3 a k := fun a k z => f4.at a k z
  have o5 : ∀ k, wI q 40 k = wI w1 40 k := fun k => ((o4 _ _ (by omega)).trans (o3 _ _ (by omega))).trans (o2 _ _ (by omega))
  exact ⟨f3.tr (f4.mono (fun a k q => by unfold P43 at q; unfold PB; omega)), ⟨(o5 0).trans v1.1, (o5 1).trans v1.2.1, (o5 2).trans v1.2.2⟩, fun i hi => ((o4 _ _ (by omega)).trans (o3 _ _ (by omega))).trans (v2 i hi), fun i hi => (o4 _ _ (by omega)).trans (v3 i hi), g4⟩
def Psl (a k : Nat) : Prop := (a = 202 ∨ a = 209 ∨ a = 216) ∧ k = 0
theorem c_anew52 (hO0 : Ok L wl dr tx w0) : ∀ (r m k : Nat) (w : Wd), k + r = 3 → r < m → Fr Psl w0 w → (∀ j, j < k → wI w (202 + 7 * j) 0 = 0) → Wp (Hh_beginAnew_52 m 6 (k : Int) w) (fun q => Fr Psl w0 q ∧ ∀ j, j < 3 → wI q (202 + 7 * j) 0 = 0)
  | _, 0, _, _, _, hm, _, _ => absurd hm (by omega)
  | 0, m + 1, k, w, hk, _, hF, hv => by
    rw [Hh_beginAnew_52]
    exact wp_pos (by omega) (wp_ret ⟨hF, fun j hj => hv j (by omega)⟩)
  | r + 1, m + 1, k, w, hk, hm, hF, hv => by
    have hO := hF.ok hO0
    have hk3 : k < 3 := by omega
    rw [Hh_beginAnew_52]
    refine wp_neg (by omega) (wp_R11_8 hO (wp_173 hO (by omega) ?_))
    rw [Int.toNat_natCast]
    refine wp_pZ hO (sh_Sl L (isSl_in173 hk3)) (Or.inl rfl) ?_
    rw [w32_id (by omega) (by omega), show (k : Int) + 1 = ((k + 1 : Nat) : Int) by omega]
    refine c_anew52 hO0 r m (k + 1) _ (by omega) (by omega) (hF.sI (by unfold Psl; omega)) (fun j hj => ?_)
    by_cases e : j = k
    · rw [e]; exact wI_eq _ _ _ _
    · rw [wI_ne (by omega)]; exact hv j (by omega)
def Pan (a k : Nat) : Prop := (40 ≤ a ∧ a ≤ 43) ∨ (a = 50 ∧ k < 2) ∨ (a = 173 ∧ k = 0) ∨ Psl a k
theorem c_anew (hw : isWi wl) (hd : isWi dr) (hO : Ok L wl dr tx w) : Wp (Hh_beginAnew 6 w) (fun w1 => Ok L dr wl tx w1 ∧ (wn w1 = wn w ∧ wz w1 = wz w ∧ ∀ a k, wL w1 a k = wL w a k) ∧ (∀ a k, ¬ Pan a k → wI w1 a k = wI w a k) ∧ (wI w1 40 0 = 0 ∧ wI w1 40 1 = 0 ∧ wI w1 40 2 = -2) ∧ (∀ i, i < 6 → wI w1 41 i = wI w (dr + 1) i) ∧ (∀ i, i < 36 → wI w1 42 i = wI w (dr + 4) i) ∧ (∀ i, i < 6 → wI w1 43 i = 0) ∧ (wI w1 50 0 = 0 ∧ wI w1 50 1 = 0 ∧ wI w1 173 0 = 0) ∧ ∀ j, j < 3 → wI w1 (202 + 7 * j) 0 = 0) := by
  have nw := wi_ne hw
  have nd := wi_ne hd
  unfold Hh_beginAnew Hh_beginAnew_0 Ps_clear Ps_clear_0
  generalize hFU : FU = fu; have hfu : 1000000 = fu := hFU
  refine wp_gd hO rfl (wp_R11_3 hO nw (wp_R11_2 hO (wp_R6_1 hO nd ?_)))
  have e1 : fpR w 6 11 3 dr = some (sR w 6 3 dr) := if_pos ⟨by rw [hO.1]; rfl, by rw [hO.1, sh_Wi L hd]; decide⟩
  refine wp_eq e1 ?_
  have hO1 := ok_wl (x := dr) hO
  generalize hw1 : sR w 6 3 dr = w1 at hO1
  have i1 : ∀ a k, wI w1 a k = wI w a k := fun a k => by rw [← hw1]; rfl
  have l1 : ∀ a k, wL w1 a k = wL w a k := fun a k => by rw [← hw1]; rfl
  have n1 : wn w1 = wn w ∧ wz w1 = wz w := by rw [← hw1]; exact ⟨rfl, rfl⟩
  clear hw1
  refine wp_R11_2 hO1 ?_
  have e2 : fpR w1 8 6 1 wl = some (sR w1 8 1 wl) := if_pos ⟨by rw [hO1.1]; rfl, by rw [hO1.1, sh_Wi L hw]; decide⟩
  refine wp_eq e2 ?_
  have hO2 := ok_dr (x := wl) hO1
  generalize hw2 : sR w1 8 1 wl = w2 at hO2
  have i2 : ∀ a k, wI w2 a k = wI w a k := fun a k => by rw [← hw2]; exact i1 a k
  have l2 : ∀ a k, wL w2 a k = wL w a k := fun a k => by rw [← hw2]; exact l1 a k
  have n2 : wn w2 = wn w ∧ wz w2 = wz w := by rw [← hw2]; exact n1
  clear hw2
  refine wp_R11_4 hO2 (wp_R11_3 hO2 nd (wp_call (c_begin hd hO2) (fun w3 g => ?_)))
  obtain ⟨f3, g1, g2, g3, g4⟩ := g
  have hO3 := f3.ok hO2
  refine wp_R11_7 hO3 (wp_call (P := fun q => q = sI (sI w3 50 0 0) 50 1 0) (wp_gd hO3 rfl (wp_pI hO3 rfl (wp_pI hO3.sI rfl (wp_ret rfl)))) (fun q hq => ?_))
  subst hq
  refine wp_R11_9 hO3.sI.sI (wp_pI hO3.sI.sI rfl ?_)
  generalize hw4 : sI (sI (sI w3 50 0 0) 50 1 0) 173 0 0 = w4
  have hO4 : Ok L dr wl tx w4 := by rw [← hw4]; exact hO3.sI.sI.sI
  have v4 : wI w4 50 0 = 0 ∧ wI w4 50 1 = 0 ∧ wI w4 173 0 = 0 := by rw [← hw4]; exact ⟨((wI_ne (by omega)).trans (wI_ne (by omega))).trans (wI_eq _ _ _ _), (wI_ne (by omega)).trans (wI_eq _ _ _ _), wI_eq _ _ _ _⟩
  have o4 : ∀ a k, ¬ ((a = 50 ∧ k < 2) ∨ (a = 173 ∧ k = 0)) → wI w4 a k = wI w3 a k := fun a k q => by rw [← hw4, wI_ne (by omega), wI_ne (by omega), wI_ne (by omega)]
  have l4 : ∀ a k, wL w4 a k = wL w3 a k := fun a k => by rw [← hw4]; rfl
  have n4 : wn w4 = wn w3 ∧ wz w4 = wz w3 := by rw [← hw4]; exact ⟨rfl, rfl⟩
  clear hw4
  refine wp_use (c_anew52 hO4 3 fu 0 w4 rfl (by omega) (Fr.rf w4) (fun j hj => absurd hj (Nat.not_lt_zero _))) (fun q g => ?_)
  obtain ⟨f5, g5⟩ := g
  have o5 : ∀ a k, ¬ Psl a k → wI q a k = wI w4 a k := fun a k z => f5.at a k z
  have o6 : ∀ a k, 40 ≤ a → a ≤ 43 → wI q a k = wI w3 a k := fun a k z1 z2 => (o5 _ _ (by unfold Psl; omega)).trans (o4 _ _ (by omega))
  refine ⟨f5.ok hO4, ⟨?_, ?_, fun a k => ?_⟩, fun a k z => ?_, ⟨(o6 _ _ (by omega) (by omega)).trans g1.1, (o6 _ _ (by omega) (by omega)).trans g1.2.1, (o6 _ _ (by omega) (by omega)).trans g1.2.2⟩, fun i hi => ?_, fun i hi => ?_, fun i hi => (o6 _ _ (by omega) (by omega)).trans (g4 i hi), ⟨(o5 _ _ (by unfold Psl; omega)).trans v4.1, (o5 _ _ (by unfold Psl; omega)).trans v4.2.1, (o5 _ _ (by unfold Psl; omega)).trans v4.2.2⟩, g5⟩
  · rw [f5.2.1, n4.1, f3.2.1, n2.1]
  · rw [f5.2.2.1, n4.2, f3.2.2.1, n2.2]
  · rw [f5.2.2.2.1, l4, f3.2.2.2.1, l2]
  · unfold Pan at z
    rw [o5 a k (fun y => z (Or.inr (Or.inr (Or.inr y)))), o4 a k (by omega), f3.at a k (by unfold PB; omega), i2]
  · rw [o6 _ _ (by omega) (by omega), g2 i hi, i2]
  · rw [o6 _ _ (by omega) (by omega), g3 i hi, i2]
end CN
