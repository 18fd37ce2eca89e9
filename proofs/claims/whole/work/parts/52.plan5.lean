/-! Level 3, the reference: a plan, to its end. -/
theorem mnf_ls {C : Nat → Nat → Int} {N l y : Nat} (hC : ∀ l n, 0 ≤ C l n ∧ C l n ≤ 2997) (hN : N ≤ 6) (hl : l < N) : mnf (fM C N l y) (y + 1) = ls C N (N - l) y := by
  obtain ⟨h1, h2, -⟩ := fM_md (n := y) hC hN hl
  have b := ls_bd (N := N) hC (N - l) y
  have hm := md_le C N (N - (l + 1)) y
  have u := (mnf_lt (f := fM C N l y) (y + 1)).2 (md C N (N - (l + 1)) y) (by omega)
  have g := mnf_ge (f := fM C N l y) (v := ls C N (N - l) y) (by omega) (y + 1) (fun k hk => h2 k (by omega))
  omega
theorem pl_ne {C : Nat → Nat → Int} {N l y k : Nat} (hC : ∀ l n, 0 ≤ C l n ∧ C l n ≤ 2997) (hN : N ≤ 6) (hl : l < N) (hk : k ≤ y) (h : md C N (N - (l + 1)) y < k) : ¬ C l k + Mv C N (l + 1) (y - k) = ls C N (N - l) y := by
  have := (fM_md (n := y) hC hN hl).2.2 k hk h
  unfold fM at this
  omega
theorem pl_eq {C : Nat → Nat → Int} {N l y : Nat} (hC : ∀ l n, 0 ≤ C l n ∧ C l n ≤ 2997) (hN : N ≤ 6) (hl : l < N) : C l (md C N (N - (l + 1)) y) + Mv C N (l + 1) (y - md C N (N - (l + 1)) y) = ls C N (N - l) y := (fM_md (n := y) hC hN hl).1
theorem pl_w {C : Nat → Nat → Int} {N l k j : Nat} (hC : ∀ l n, 0 ≤ C l n ∧ C l n ≤ 2997) (hN : N ≤ 6) : w32 (C l k + Mv C N (l + 1) j) = C l k + Mv C N (l + 1) j := by
  have b1 := hC l k
  have b2 := Mv_bd (l := l + 1) (j := j) hC hN
  exact w32_id (by omega) (by omega)
theorem pl_i {l y k : Nat} (hl : l < 6) (hy : y ≤ 12) (hk : k ≤ y) : w32 (w32 (w32 (13 * w32 ((l : Int) + 1)) + (y : Int)) - (k : Int)) = ((13 * (l + 1) + (y - k) : Nat) : Int) := by
  rw [show w32 ((l : Int) + 1) = ((l + 1 : Nat) : Int) by rw [w32_id (by omega) (by omega)]; omega, ix13 (l := l + 1) (k := y) (by omega) (by omega), w32_id (by omega) (by omega)]; omega
theorem ix78 {l k : Nat} (hl : l < 6) (hk : k ≤ 12) : 0 ≤ ((13 * l + k : Nat) : Int) ∧ ((13 * l + k : Nat) : Int) < ((78 : Nat) : Int) := by omega
theorem ix91 {l k : Nat} (hl : l ≤ 6) (hk : k ≤ 12) : 0 ≤ ((13 * l + k : Nat) : Int) ∧ ((13 * l + k : Nat) : Int) < ((91 : Nat) : Int) := by omega
def PZ (l a k : Nat) : Prop := a = 260 ∧ 13 * l ≤ k ∧ k < 13 * l + 13
section P5
variable {L wl dr tx s h d : Nat} {V : Vl} {σ : Sg} {w : Wd} {lt nM nH oH oL : Int} {C : Nat → Nat → Int} {N : Nat}
theorem m_pl120 {Q : Int × Wd → Prop} {k112 : Nat → Int → Int → Int → Wd → Option (Int × Wd)} {l : Nat} (hC : ∀ l n, 0 ≤ C l n ∧ C l n ≤ 2997) (hN : N ≤ 6) (hd : d ≤ 12) (hl : l < N) : ∀ (r m y : Nat) (w : Wd), y + r = d + 1 → r < m → Ok L wl dr tx w → SU w C N d → LE' w C N d (l + 1) → (∀ j, j < y → wI w 260 (13 * l + j) = ls C N (N - l) j) →
    (∀ w1, Fr (PA 260) w w1 → LE' w1 C N d l → Wp (Mo_plans_213 k112 223 (d : Int) (N : Int) (l : Int) w1) Q) →
    Wp (Mo_plans_120 k112 m 223 (d : Int) (N : Int) (l : Int) (y : Int) w) Q
  | r, 0, y, w, _, hm, _, _, _, _, _ => absurd hm (by omega)
  | 0, m + 1, y, w, hr, hm, hO, hS, hE, hP, kk => by
    rw [Mo_plans_120]
    refine wp_pos (by omega) (kk w (Fr.rf w) (fun x h1 h2 j hj => ?_))
    by_cases p : x = l
    · rw [p, hP j (by omega)]
      unfold Mv
      rw [if_neg (by omega)]
    · exact hE x (by omega) h2 j hj
  | r + 1, m + 1, y, w, hr, hm, hO, hS, hE, hP, kk => by
    rw [Mo_plans_120]
    generalize hFU : FU = fu; have hfu : 1000000 = fu := hFU
    refine wp_neg (by omega) (m_pl134 hC hN hd hl (by omega) hO hS hE ?_ (y + 1) fu 0 (by omega) (by omega))
    rw [mnf_ls hC hN hl]
    unfold Mo_plans_192
    rw [ix13 (by omega) (by omega)]
    refine wp_R12_60 hO (wp_wI hO rfl (by omega) ?_)
    rw [Int.toNat_natCast, w32_id (z := (y : Int) + 1) (by omega) (by omega), show (y : Int) + 1 = ((y + 1 : Nat) : Int) by omega]
    generalize hw2 : sI w 260 (13 * l + y) (ls C N (N - l) y) = w2
    have f2 : Fr (PA 260) w w2 := by rw [← hw2]; exact fr_sI PA.i
    have n2 : ∀ x, x ≠ 13 * l + y → wI w2 260 x = wI w 260 x := fun x hx => by rw [← hw2]; exact wI_ne (by omega)
    refine m_pl120 hC hN hd hl r m (y + 1) w2 (by omega) (by omega) (f2.ok hO) (fun x hx j hj => (f2.at 262 _ (by unfold PA; omega)).trans (hS x hx j hj)) (fun x h1 h2 j hj => (n2 _ (by omega)).trans (hE x h1 h2 j hj)) (fun j hj => ?_) (fun w3 g1 g2 => kk w3 (f2.tr g1) g2)
    by_cases p : j = y
    · rw [p, ← hw2, wI_eq]
    · rw [n2 _ (by omega)]; exact hP j (by omega)
theorem m_pl112 {Q : Int × Wd → Prop} (hC : ∀ l n, 0 ≤ C l n ∧ C l n ≤ 2997) (hN : N ≤ 6) (hd : d ≤ 12) : ∀ (j m : Nat) (w : Wd), j ≤ N → j < m → Ok L wl dr tx w → SU w C N d → LE' w C N d j →
    (∀ w1, Fr (PA 260) w w1 → LE' w1 C N d 0 → Wp (Mo_plans_219 223 (d : Int) (N : Int) w1) Q) →
    Wp (Mo_plans_112 m 223 (d : Int) (N : Int) ((j : Int) - 1) w) Q
  | j, 0, w, _, hm, _, _, _, _ => absurd hm (by omega)
  | 0, m + 1, w, hj, hm, hO, hS, hE, kk => by
    rw [Mo_plans_112]
    exact wp_pos (by omega) (kk w (Fr.rf w) hE)
  | l + 1, m + 1, w, hj, hm, hO, hS, hE, kk => by
    rw [Mo_plans_112]
    generalize hFU : FU = fu; have hfu : 1000000 = fu := hFU
    rw [show ((l + 1 : Nat) : Int) - 1 = (l : Int) by omega]
    refine wp_neg (by omega) (m_pl120 hC hN hd (by omega) (d + 1) fu 0 w (by omega) (by omega) hO hS hE (fun j hj => absurd hj (by omega)) (fun w1 g1 g2 => ?_))
    unfold Mo_plans_213
    rw [w32_id (z := (l : Int) + -1) (by omega) (by omega), show (l : Int) + -1 = (l : Int) - 1 by omega]
    exact m_pl112 hC hN hd l m w1 (by omega) (by omega) (g1.ok hO) (fun x hx j hj => (g1.at 262 _ (by unfold PA; omega)).trans (hS x hx j hj)) g2 (fun w2 e1 e2 => kk w2 (g1.tr e1) e2)
theorem m_pl235 {Q : Int × Wd → Prop} {k225 : Nat → Int → Int → Int → Int → Wd → Option (Int × Wd)} {l y : Nat} (hC : ∀ l n, 0 ≤ C l n ∧ C l n ≤ 2997) (hN : N ≤ 6) (hd : d ≤ 12) (hl : l < N) (hy : y ≤ d) (hO : Ok L wl dr tx w) (hS : SU w C N d) (hE : LE' w C N d 0) (kk : Wp (Mo_plans_289 k225 223 (d : Int) (N : Int) (y : Int) (l : Int) (md C N (N - (l + 1)) y : Int) w) Q) : ∀ (r m k : Nat), md C N (N - (l + 1)) y + r = k → k ≤ y → r < m →
    Wp (Mo_plans_235 k225 m 223 (d : Int) (N : Int) (y : Int) (l : Int) (k : Int) w) Q
  | r, 0, k, _, _, hm => absurd hm (by omega)
  | r, m + 1, k, hr, hk, hm => by
    have hl6 : l < 6 := Nat.lt_of_lt_of_le hl hN
    have hy12 : y ≤ 12 := Nat.le_trans hy hd
    have hk12 : k ≤ 12 := Nat.le_trans hk hy12
    have hyk : y - k ≤ 12 := Nat.le_trans (Nat.sub_le y k) hy12
    rw [Mo_plans_235, pl_i hl6 hy12 hk, ix13 (l := l) (k := k) (Nat.le_of_lt hl6) hk12, ix13 (l := l) (k := y) (Nat.le_of_lt hl6) hy12]
    refine wp_R12_62 hO (wp_rI hO rfl (ix78 hl6 hk12) (wp_R12_60 hO (wp_rI hO rfl (ix91 hl6 hyk) (wp_R12_60 hO (wp_rI hO rfl (ix91 (Nat.le_of_lt hl6) hy12) ?_)))))
    rw [Int.toNat_natCast, Int.toNat_natCast, Int.toNat_natCast, hS l hl k (Nat.le_trans hk hy), hE (l + 1) (Nat.zero_le _) hl (y - k) (Nat.le_trans (Nat.sub_le y k) hy), hE l (Nat.zero_le _) (Nat.le_of_lt hl) y hy, pl_w hC hN]
    have ev : Mv C N l y = ls C N (N - l) y := by unfold Mv; rw [if_neg (Nat.ne_of_lt hl)]
    rw [ev]
    by_cases q : r = 0
    · have ek : k = md C N (N - (l + 1)) y := by omega
      refine wp_pos (by rw [ek]; exact pl_eq hC hN hl) ?_
      rw [ek]
      exact kk
    · refine wp_neg (pl_ne hC hN hl hk (by omega)) ?_
      rw [w32_id (z := (k : Int) + -1) (by omega) (by omega), show (k : Int) + -1 = ((k - 1 : Nat) : Int) by omega]
      exact m_pl235 hC hN hd hl hy hO hS hE kk (r - 1) m (k - 1) (by omega) (by omega) (by omega)
theorem m_pl225 (hC : ∀ l n, 0 ≤ C l n ∧ C l n ≤ 2997) (hN : N ≤ 6) (hd : d ≤ 12) (h0 : 0 < N) : ∀ (r m l : Nat) (w : Wd), l + r = N → r < m → Ok L wl dr tx w → SU w C N d → LE' w C N d 0 → (∀ x, x < l → wI w 261 x = (pda C N d x : Int)) →
    Wp (Mo_plans_225 m 223 (d : Int) (N : Int) (lf C N d l : Int) (l : Int) w) (fun r => r.1 = ls C N N d ∧ Fr (PA 261) w r.2 ∧ ∀ x, x < N → wI r.2 261 x = (pda C N d x : Int))
  | r, 0, l, w, _, hm, _, _, _, _ => absurd hm (by omega)
  | 0, m + 1, l, w, hr, hm, hO, hS, hE, hD => by
    rw [Mo_plans_225]
    refine wp_pos (by omega) ?_
    unfold Mo_plans_311
    refine wp_R12_60 hO (wp_rI hO rfl (by omega) (wp_ret ⟨?_, Fr.rf w, fun x hx => hD x (by omega)⟩))
    have := hE 0 (by omega) (by omega) d (by omega)
    rw [Int.toNat_natCast]
    rw [show 13 * 0 + d = d by omega] at this
    show wI w 260 d = _
    rw [this]
    unfold Mv
    rw [if_neg (by omega)]
    rfl
  | r + 1, m + 1, l, w, hr, hm, hO, hS, hE, hD => by
    have ll := lf_le C N d l
    have ml := md_le C N (N - (l + 1)) (lf C N d l)
    rw [Mo_plans_225]
    generalize hFU : FU = fu; have hfu : 1000000 = fu := hFU
    refine wp_neg (by omega) (m_pl235 hC hN hd (by omega) ll hO hS hE ?_ (lf C N d l - md C N (N - (l + 1)) (lf C N d l)) fu (lf C N d l) (by omega) (by omega) (by omega))
    unfold Mo_plans_289
    refine wp_R12_61 hO (wp_wI hO rfl (by omega) ?_)
    have e1 : w32 ((lf C N d l : Int) - (md C N (N - (l + 1)) (lf C N d l) : Int)) = (lf C N d (l + 1) : Int) := by
      rw [w32_id (by omega) (by omega)]
      show _ = ((lf C N d l - md C N (N - (l + 1)) (lf C N d l) : Nat) : Int)
      omega
    rw [Int.toNat_natCast, e1, w32_id (z := (l : Int) + 1) (by omega) (by omega), show (l : Int) + 1 = ((l + 1 : Nat) : Int) by omega]
    generalize hw2 : sI w 261 l (md C N (N - (l + 1)) (lf C N d l) : Int) = w2
    have f2 : Fr (PA 261) w w2 := by rw [← hw2]; exact fr_sI PA.i
    refine wp_use (m_pl225 hC hN hd h0 r m (l + 1) w2 (by omega) (by omega) (f2.ok hO) (fun x hx j hj => (f2.at 262 _ (by unfold PA; omega)).trans (hS x hx j hj)) (fun x h1 h2 j hj => (f2.at 260 _ (by unfold PA; omega)).trans (hE x h1 h2 j hj)) (fun x hx => ?_)) (fun r2 h2 => ⟨h2.1, f2.tr h2.2.1, h2.2.2⟩)
    by_cases p : x = l
    · rw [p, ← hw2, wI_eq]; rfl
    · rw [← hw2, wI_ne (by omega)]; exact hD x (by omega)
theorem m_plans (hV : VOK V) (hK : SOK V σ) (hO : Ok L wl dr tx w) (hM : MC w s V σ lt nM nH oH oL) (hh : h < nh V) (hd : d ≤ 12) :
    Wp (Mo_plans 223 (h : Int) (d : Int) w) (fun r => r.1 = ls (pC V σ h) (nl V) (nl V) d ∧ Fr PMP w r.2 ∧ ∀ x, x < nl V → wI r.2 261 x = (pda (pC V σ h) (nl V) d x : Int)) := by
  have h6 := hV.1
  have hs := hM.2.1.1
  unfold Mo_plans Mo_plans_0
  generalize hFU : FU = fu; have hfu : 1000000 = fu := hFU
  refine wp_gd hO rfl (wp_R12_23 hO (wp_gI hO rfl ?_))
  rw [hM.1]
  refine wp_rI hO rfl (by omega) ?_
  rw [Int.toNat_natCast, hM.2.1.2.1.1]
  refine wp_ite (fun q => wp_ret ⟨?_, Fr.rf w, fun x hx => absurd hx (by omega)⟩) (fun q => ?_)
  · rw [show nl V = 0 by omega]; rfl
  refine m_pl19 hV hK hh hd (nl V) fu 0 w (by omega) (by omega) hO hM (fun x hx => absurd hx (by omega)) (fun w1 g1 g2 => ?_)
  unfold Mo_plans_68
  rw [hFU]
  refine m_pl71 (C := pC V σ h) h6 hd (d + 1) fu 0 w1 (by omega) (by omega) (g1.ok hO) (fun j hj => absurd hj (by omega)) (fun w2 e1 e2 => ?_)
  have f2 : Fr PMP w w2 := g1.tr (e1.mono (fun a k q => by unfold PA at q; unfold PMP; omega))
  have s2 : SU w2 (pC V σ h) (nl V) d := fun x hx j hj => (e1.at 262 _ (by unfold PA; omega)).trans (g2 x hx j hj)
  unfold Mo_plans_107
  rw [hFU, w32_id (z := (nl V : Int) - 1) (by omega) (by omega)]
  refine m_pl112 (pC_bd hV) h6 hd (nl V) fu w2 (Nat.le_refl _) (by omega) (f2.ok hO) s2 e2 (fun w3 d1 d2 => ?_)
  have f3 : Fr PMP w w3 := f2.tr (d1.mono (fun a k q => by unfold PA at q; unfold PMP; omega))
  unfold Mo_plans_219
  rw [hFU]
  exact wp_use (m_pl225 (pC_bd hV) h6 hd (by omega) (nl V) fu 0 w3 (by omega) (by omega) (f3.ok hO) (fun x hx j hj => (d1.at 262 _ (by unfold PA; omega)).trans (s2 x hx j hj)) d2 (fun x hx => absurd hx (by omega))) (fun r hr => ⟨hr.1, f3.tr (hr.2.1.mono (fun a k q => by unfold PA at q; unfold PMP; omega)), hr.2.2⟩)
end P5
