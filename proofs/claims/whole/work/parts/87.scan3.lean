/-! Level 3, read: the class's scanner as a whole. -/
section TJ
variable (c : Nat → Int) (N : Nat)
def kK (j : Nat) : Nat := tK c N (ps c N j)
def kP (j : Nat) : Nat := tI c N (ps c N j)
def kV (j : Nat) : Int := tV c N (ps c N j)
def kN (j : Nat) : Int := tN c N (ps c N j)
/-- up to j nothing stops the scanner -/
def goes (j : Nat) : Prop := ∀ i, i < j → kK c N i ≠ 0 ∧ kK c N i ≠ 3
def CT (w : Wd) : Prop := ∀ j, j ≤ 400 → goes c N j → wI w 22 j = ck (kK c N j) ∧ wI w 23 j = (kP c N j : Int) ∧ (kK c N j = 2 → wL w 24 j = kV c N j) ∧ (kK c N j = 1 → wL w 24 j = kN c N j)
theorem kv_kK (j : Nat) : kv (kK c N j) := kv_tK c N _
theorem tK_name {p : Nat} (h : tK c N p = 1) : bS (c (tI c N p)) = true ∧ tI c N p < N := by
  unfold tK at h
  split at h
  · omega
  · split at h
    · rename_i q
      exact ⟨q, by omega⟩
    · split at h
      · split at h <;> omega
      · unfold sgk at h
        repeat' split at h
        all_goals omega
end TJ
theorem CT.fl {c : Nat → Int} {N : Nat} {w w1 : Wd} (h : CT c N w) (e : ∀ a k, a = 22 ∨ a = 23 → wI w1 a k = wI w a k) (e2 : ∀ k, wL w1 24 k = wL w 24 k) : CT c N w1 := fun j hj hg => by
  obtain ⟨h1, h2, h3, h4⟩ := h j hj hg
  exact ⟨(e 22 j (by omega)).trans h1, (e 23 j (by omega)).trans h2, fun q => (e2 j).trans (h3 q), fun q => (e2 j).trans (h4 q)⟩
section SE
variable {L wl dr : Nat} {w w0 : Wd} {B : Nat → Int} {N : Nat}
theorem c_cut0 {Q : Wd → Prop} {p j : Nat} (kk : ∀ w1, FL (PSj j) (QSj j) w0 w1 → Ok L wl dr 7 w1 → SCN w1 B N → wI w1 21 6 = (tI (cb B N) N p : Int) → Wp (Sc_cutOne_39 21 (j : Int) w1) Q) : ∀ (r m i : Nat) (w : Wd), i + r = N → r < m → Ok L wl dr 7 w → SCN w B N → wI w 21 6 = (i : Int) → FL (PSj j) (QSj j) w0 w → adv bB (cb B N) r i = tI (cb B N) N p → Wp (Sc_cutOne_0 m 21 (j : Int) w) Q
  | r, 0, i, w, _, hm, _, _, _, _, _ => absurd hm (by omega)
  | 0, m + 1, i, w, hr, hm, hO, hS, h6, hF, hE => by
    have hE : i = tI (cb B N) N p := hE
    rw [Sc_cutOne_0]
    refine wp_gI hO rfl (wp_gI hO rfl ?_)
    rw [h6, hS.2.1]
    exact wp_pos (by omega) (kk w hF hO hS (by rw [h6, hE]))
  | r + 1, m + 1, i, w, hr, hm, hO, hS, h6, hF, hE => by
    have hN := hS.1
    have hb := hS.2.2.1 i (by omega)
    have hE' : (if bB (cb B N i) = true then adv bB (cb B N) r (i + 1) else i) = tI (cb B N) N p := hE
    rw [Sc_cutOne_0]
    refine wp_gI hO rfl (wp_gI hO rfl ?_)
    rw [h6, hS.2.1]
    refine wp_neg (by omega) (wp_R7_4 hO (by decide) (wp_gI hO rfl ?_))
    rw [h6]
    refine wp_rB hO rfl (by omega) ?_
    rw [Int.toNat_natCast, hb.1]
    refine wp_eq (q_isBlank _ w) ?_
    rw [← bB_ub hb.2, ← cb_lt (B := B) (N := N) (show i < N by omega)]
    by_cases q : bB (cb B N i) = true
    · rw [if_pos q] at hE' ⊢
      refine wp_neg (show ¬ (1 : Int) = 0 by decide) (wp_gI hO rfl ?_)
      rw [show wI (1, w).2 21 6 = wI w 21 6 from rfl, h6, w32_id (by omega) (by omega)]
      refine wp_pI hO rfl ?_
      show Wp (Sc_cutOne_0 m 21 (j : Int) (sI w 21 6 ((i : Int) + 1))) Q
      generalize hw1 : sI w 21 6 ((i : Int) + 1) = w1
      have f1 : FL (PSj j) (QSj j) w w1 := by rw [← hw1]; exact (FL.rf w).sI (by unfold PSj; omega)
      refine c_cut0 kk r m (i + 1) w1 (by omega) (by omega) (f1.ok hO) (hS.fl f1) ?_ (hF.tr f1) hE'
      rw [← hw1, wI_eq]; omega
    · rw [if_neg q] at hE' ⊢
      exact wp_pos rfl (kk w hF hO hS (by show wI w 21 6 = _; rw [h6, hE']))
theorem c_cutOne {p j : Nat} (hj : j ≤ 400) (hp : p ≤ N) (hO : Ok L wl dr 7 w) (hS : SCN w B N) (h6 : wI w 21 6 = (p : Int)) : Wp (Sc_cutOne 21 (j : Int) w) (fun w1 => CUT w w1 B N j p) := by
  unfold Sc_cutOne
  generalize hFU : FU = fu; have hfu : 1000000 = fu := hFU
  have hN := hS.1
  exact wp_gd hO rfl (c_cut0 (w0 := w) (p := p) (fun w1 f1 hO1 hS1 g1 => c_cut39 hj hp hO1 hS1 g1 f1) (N - p) fu p w (by omega) (by omega) hO hS h6 (FL.rf w) rfl)
def PSc (a k : Nat) : Prop := (a = 21 ∧ k = 6) ∨ a = 22 ∨ a = 23
def QSc (a k : Nat) : Prop := a = 24
theorem psj_c {j : Nat} {w w1 : Wd} (h : FL (PSj j) (QSj j) w w1) : FL PSc QSc w w1 := h.mono (fun a k q => by unfold PSj at q; unfold PSc; omega) (fun a k q => by unfold QSj at q; unfold QSc; omega)
theorem SCN.flc {w w1 : Wd} {B : Nat → Int} {N : Nat} (h : SCN w B N) (f : FL PSc QSc w w1) : SCN w1 B N := by
  obtain ⟨h1, h2, h3, h4, h5, h6⟩ := h
  exact ⟨h1, (f.i 21 5 (by unfold PSc; omega)).trans h2, fun i hi => by rw [f.i 7 i (by unfold PSc; omega)]; exact h3 i hi, fun k hk => (f.l 25 k (by unfold QSc; omega)).trans (h4 k hk), (f.i 4 1 (by unfold PSc; omega)).trans h5, fun k hk => (f.i 5 k (by unfold PSc; omega)).trans (h6 k hk)⟩
def ROW (w : Wd) (c : Nat → Int) (N j : Nat) : Prop := wI w 22 j = ck (kK c N j) ∧ wI w 23 j = (kP c N j : Int) ∧ (kK c N j = 2 → wL w 24 j = kV c N j) ∧ (kK c N j = 1 → wL w 24 j = kN c N j)
theorem c_cut25 : ∀ (r m i : Nat) (w : Wd), i + r = 401 → r < m → Ok L wl dr 7 w → SCN w B N → wI w 21 6 = (ps (cb B N) N i : Int) → FL PSc QSc w0 w → goes (cb B N) N i → (∀ j, j < i → ROW w (cb B N) N j) → Wp (Sc_cut_25 m 21 1 (i : Int) w) (fun w1 => FL PSc QSc w0 w1 ∧ CT (cb B N) N w1)
  | r, 0, i, w, _, hm, _, _, _, _, _, _ => absurd hm (by omega)
  | 0, m + 1, i, w, hr, hm, hO, hS, h6, hF, hG, hR => by
    rw [Sc_cut_25]
    unfold Sc_cut_76
    exact wp_pos (by omega) (wp_ret ⟨hF, fun j hj _ => hR j (by omega)⟩)
  | r + 1, m + 1, i, w, hr, hm, hO, hS, h6, hF, hG, hR => by
    rw [Sc_cut_25]
    refine wp_neg (by omega) (wp_neg (by decide) (wp_call (c_cutOne (p := ps (cb B N) N i) (by omega) (ps_bd _ _ i) hO hS h6) (fun w1 g => ?_)))
    obtain ⟨f1, g6, g22, g23, gv, gn⟩ := g
    have hO1 := f1.ok hO
    have hS1 := hS.fl f1
    have f2 := hF.tr (psj_c f1)
    have row : ROW w1 (cb B N) N i := ⟨g22, g23, gv, fun q => by have := tK_name (cb B N) N q; exact gn this.1 this.2⟩
    have rows : ∀ j, j < i + 1 → ROW w1 (cb B N) N j := fun j hj => by
      by_cases e : j = i
      · rw [e]; exact row
      · obtain ⟨a1, a2, a3, a4⟩ := hR j (by omega)
        exact ⟨(f1.i 22 j (by unfold PSj; omega)).trans a1, (f1.i 23 j (by unfold PSj; omega)).trans a2, fun q => (f1.l 24 j (by unfold QSj; omega)).trans (a3 q), fun q => (f1.l 24 j (by unfold QSj; omega)).trans (a4 q)⟩
    have hkv := kv_kK (cb B N) N i
    have stop : (kK (cb B N) N i = 0 ∨ kK (cb B N) N i = 3) → Wp (Sc_cut_68 (Sc_cut_25 m) 21 (i : Int) w1) (fun w1 => FL PSc QSc w0 w1 ∧ CT (cb B N) N w1) := by
      intro hst
      obtain ⟨m', rfl⟩ : ∃ m', m = m' + 1 := ⟨m - 1, by omega⟩
      unfold Sc_cut_68 Sc_cut_69
      rw [Sc_cut_25]
      unfold Sc_cut_76
      have fin : FL PSc QSc w0 w1 ∧ CT (cb B N) N w1 := ⟨f2, fun j hj hg => rows j (by
        by_cases e : j ≤ i
        · omega
        · have := hg i (by omega); omega)⟩
      exact wp_ite (fun _ => wp_ret fin) (fun _ => wp_pos rfl (wp_ret fin))
    refine wp_R7_0 hO1 (wp_rI hO1 rfl (by omega) ?_)
    rw [Int.toNat_natCast, show wI w1 22 i = ck (kK (cb B N) N i) from g22]
    refine wp_ite (fun q => stop (Or.inl ((ck_inj hkv (by unfold kv; omega)).mp (show ck (kK (cb B N) N i) = ck 0 from q)))) (fun q => wp_R7_0 hO1 (wp_rI hO1 rfl (by omega) ?_))
    rw [Int.toNat_natCast, show wI w1 22 i = ck (kK (cb B N) N i) from g22]
    refine wp_ite (fun q2 => stop (Or.inr ((ck_inj hkv (by unfold kv; omega)).mp (show ck (kK (cb B N) N i) = ck 3 from q2)))) (fun q2 => ?_)
    unfold Sc_cut_69
    rw [w32_id (z := (i : Int) + 1) (by omega) (by omega), show (i : Int) + 1 = ((i + 1 : Nat) : Int) by omega]
    refine c_cut25 r m (i + 1) w1 (by omega) (by omega) hO1 hS1 g6 f2 (fun x hx => ?_) rows
    by_cases e : x = i
    · rw [e]; exact ⟨fun h => q (by rw [h]; rfl), fun h => q2 (by rw [h]; rfl)⟩
    · exact hG x (by omega)
theorem ok_tx {tx : Nat} (h : Ok L wl dr tx w) : Ok L wl dr 7 (sR w 21 4 7) := by
  refine ⟨h.1, ?_⟩
  show up2 (wR w) 21 4 7 = RR wl dr 7
  rw [h.2]
  funext a k
  unfold up2 RR
  by_cases c : a = 21 ∧ k = 4
  · rw [if_pos c, if_neg (by omega), if_neg (by omega), if_pos c]
  · rw [if_neg c, if_neg c]
    by_cases c2 : a = 6 ∧ k = 3
    · rw [if_pos c2, if_pos c2]
    · rw [if_neg c2, if_neg c2]
      by_cases c3 : a = 8 ∧ k = 1
      · rw [if_pos c3, if_pos c3]
      · rw [if_neg c3, if_neg c3, if_neg c]
/-- the class cuts its tape -/
theorem c_cut {tx : Nat} (hO : Ok L wl dr tx w) (hN : N ≤ 2000) (hB : ∀ i, i < N → wI w 7 i = B i ∧ -128 ≤ B i ∧ B i ≤ 127) (hk : ∀ k, k < 17 → wL w 25 k = ky k) (h4 : wI w 4 1 = 0) (h5 : ∀ k, k < 9 → wI w 5 k = sgn k) : Wp (Sc_cut 21 7 (N : Int) w) (fun w1 => Ok L wl dr 7 w1 ∧ (wn w1 = wn w ∧ wz w1 = wz w) ∧ (∀ a k, a < 21 ∨ 23 < a → wI w1 a k = wI w a k) ∧ (∀ a k, a ≠ 24 → wL w1 a k = wL w a k) ∧ CT (cb B N) N w1) := by
  unfold Sc_cut Sc_cut_0
  generalize hFU : FU = fu; have hfu : 1000000 = fu := hFU
  have e1 : fpR w 21 7 4 7 = some (sR w 21 4 7) := if_pos ⟨by rw [hO.1]; rfl, by rw [hO.1]; exact (by decide : ((21 : Nat) ≠ 99))⟩
  refine wp_gd hO rfl (wp_eq e1 ?_)
  have hO1 := ok_tx hO
  generalize hw1 : sR w 21 4 7 = w1 at hO1
  have i1 : ∀ a k, wI w1 a k = wI w a k := fun a k => by rw [← hw1]; rfl
  have l1 : ∀ a k, wL w1 a k = wL w a k := fun a k => by rw [← hw1]; rfl
  have n1 : wn w1 = wn w ∧ wz w1 = wz w := by rw [← hw1]; exact ⟨rfl, rfl⟩
  refine wp_al (n := 2000) (t := 21) hO1 rfl (by decide) ?_
  rw [show min (N : Int) ((2000 : Nat) : Int) = (N : Int) by omega]
  refine wp_pI hO1 rfl (wp_pI hO1.sI rfl ?_)
  generalize hw2 : sI (sI w1 21 5 (N : Int)) 21 6 0 = w2
  have hO2 : Ok L wl dr 7 w2 := by rw [← hw2]; exact hO1.sI.sI
  have i2 : ∀ a k, a ≠ 21 → wI w2 a k = wI w a k := fun a k q => by rw [← hw2, wI_ne (by omega), wI_ne (by omega), i1]
  have l2 : ∀ a k, wL w2 a k = wL w a k := fun a k => by rw [← hw2]; exact l1 a k
  have n2 : wn w2 = wn w ∧ wz w2 = wz w := by rw [← hw2]; exact n1
  have hS : SCN w2 B N := ⟨hN, by rw [← hw2, wI_ne (by omega), wI_eq], fun i hi => by rw [i2 7 i (by omega)]; exact hB i hi, fun k hk' => (l2 25 k).trans (hk k hk'), (i2 4 1 (by omega)).trans h4, fun k hk' => (i2 5 k (by omega)).trans (h5 k hk')⟩
  refine wp_use (c_cut25 (w0 := w2) 401 fu 0 w2 (by omega) (by omega) hO2 hS (by rw [← hw2, wI_eq]; rfl) (FL.rf w2) (fun i hi => absurd hi (by omega)) (fun j hj => absurd hj (by omega))) (fun w3 g => ⟨g.1.ok hO2, ⟨g.1.1.1.trans n2.1, g.1.1.2.trans n2.2⟩, fun a k q => (g.1.i a k (by unfold PSc; omega)).trans (i2 a k (by omega)), fun a k q => (g.1.l a k (by unfold QSc; omega)).trans (l2 a k), g.2⟩)
end SE
