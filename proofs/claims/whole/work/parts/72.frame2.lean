/-! Level 3: the frame once more, piece by piece. -/
section F2
variable {L : Nat} {w w1 : Wd} {V : Vl} {Y Y1 : Int} {σ σ1 : Sg}
theorem now_eq (hV : VOK V) (h : NOW w V Y σ) (e : ∀ x k, ((40 ≤ x ∧ x ≤ 43) ∨ x = 255) → wI w1 x k = wI w x k) (el : ∀ k, wL w1 49 k = wL w 49 k) : NOW w1 V Y σ := rw_fr hV h (fun x k q => e x k (by omega)) el
theorem past_eq (hV : VOK V) (h : PAST w V Y σ) (e : ∀ x k, (x = 50 ∨ (52 ≤ x ∧ x ≤ 171) ∨ x = 259 ∨ (x = 223 ∧ k = 58)) → wI w1 x k = wI w x k) (el : ∀ k, wL w1 49 k = wL w 49 k) : PAST w1 V Y σ := by
  obtain ⟨u, x, τ, h1, h2, h3, h4, h5, h6, h7⟩ := h
  refine ⟨u, x, τ, h1, h2, (e 50 0 (by omega)).trans h3, (e 50 1 (by omega)).trans h4, (e 223 58 (by omega)).trans h5, fun i hi => rw_fr hV (h6 i hi) (fun y k q => e y k ?_) el, h7⟩
  have hm : (x + 30 - u + i) % 30 < 30 := Nat.mod_lt _ (by omega)
  omega
theorem slot_eq (hV : VOK V) (h : SLOT w V Y) (e : ∀ x k, ((202 ≤ x ∧ x ≤ 222) ∨ x = 265 ∨ x = 266) → wI w1 x k = wI w x k) (el : ∀ x k, 202 ≤ x → x ≤ 222 → wL w1 x k = wL w x k) : SLOT w1 V Y := by
  intro i hi
  obtain ⟨h1, h2⟩ := h i hi
  have e1 : wI w1 265 i = wI w 265 i := e 265 i (by omega)
  refine ⟨by rw [e (202 + 7 * i) 0 (by omega), e1]; exact h1, ?_⟩
  rw [e1]
  rcases h2 with h2 | ⟨h2, τ, h3⟩
  · exact Or.inl h2
  · exact Or.inr ⟨h2, τ, rw_fr hV h3 (fun y k q => e y k (by omega)) (fun k => el _ k (by omega) (by omega))⟩
theorem papr_eq (h : PAPR w V) (e : ∀ x k, ((173 ≤ x ∧ x ≤ 175) ∨ x = 263 ∨ x = 264 ∨ (x = 223 ∧ k = 63)) → wI w1 x k = wI w x k) : PAPR w1 V := by
  obtain ⟨n, h1, h2, h3, h4⟩ := h
  refine ⟨n, h1, (e 173 0 (by omega)).trans h2, (e 223 63 (by omega)).trans h3, fun i hi => ?_⟩
  obtain ⟨l, z, g1, g2, g3, g4, g5, g6⟩ := h4 i hi
  exact ⟨l, z, g1, g2, (e 174 i (by omega)).trans g3, (e 263 i (by omega)).trans g4, (e 175 i (by omega)).trans g5, (e 264 i (by omega)).trans g6⟩
theorem tape_eq (h : TAPE w) (e : ∀ x k, (x = 7 ∨ x = 224 ∨ (x = 6 ∧ k = 1) ∨ (x = 223 ∧ k = 2)) → wI w1 x k = wI w x k) : TAPE w1 := by
  obtain ⟨n, h1, h2, h3, h4⟩ := h
  refine ⟨n, h1, (e 6 1 (by omega)).trans h2, (e 223 2 (by omega)).trans h3, fun i hi => ?_⟩
  rw [e 7 i (by omega), e 224 i (by omega)]
  exact h4 i hi
theorem txt_eq (h : TXT w) (f : ∀ x k, (x = 25 ∨ x = 230) → wL w1 x k = wL w x k) (e : ∀ x k, (x = 4 ∨ x = 5) → wI w1 x k = wI w x k) : TXT w1 := by
  refine ⟨fun k hk => ?_, (e 4 1 (by omega)).trans h.2.1, fun k hk => (e 5 k (by omega)).trans (h.2.2 k hk)⟩
  rw [f 25 k (by omega), f 230 k (by omega)]
  exact h.1 k hk
/-- what no call but read touches -/
def KT (a k : Nat) : Prop := (9 ≤ a ∧ a ≤ 18) ∨ (28 ≤ a ∧ a ≤ 37) ∨ (233 ≤ a ∧ a ≤ 251) ∨ a = 8 ∨ a = 4 ∨ a = 5 ∨ a = 25 ∨ a = 230 ∨ (a = 223 ∧ (k = 17 ∨ k = 18))
theorem inv_mk {wl dr tx s : Nat} {P : Nat → Nat → Prop} (hO : Ok L wl dr tx w) (hv : isWi wl) (hdr : isWi dr) (hne : wl ≠ dr) (hV : VOK V) (hW : CW w wl V) (hs : wI w 223 18 = (s : Int)) (hM : MW w s V) (he : wI w 8 0 = wI w 223 17) (hT : TXT w ∧ MWS w s V) (f : Fb P w w1) (hP : ∀ a k, P a k → ¬ KT a k) (n : NOW w1 V Y1 σ1) (p : PAST w1 V Y1 σ1) (sl : SLOT w1 V Y1) (pa : PAPR w1 V) (ta : TAPE w1) : INV L w1 Y1 := by
  have g : ∀ a k, KT a k → wI w1 a k = wI w a k := fun a k q => f.at a k (fun c => hP a k c q)
  have hw := wi_bd hv
  exact ⟨wl, dr, tx, s, V, σ1, f.ok hO, hv, hdr, hne, hV, hW.eq (fun a k q1 q2 => g a k (by unfold KT; omega)), (g 223 18 (by unfold KT; omega)).trans hs, hM.eq (fun a k q1 q2 => g a k (by unfold KT; omega)), n, p, sl, pa, ta, by rw [g 8 0 (by unfold KT; omega), g 223 17 (by unfold KT; omega)]; exact he, txt_eq hT.1 (fun x k q => f.l x k (fun c => hP x k c (by unfold KT; omega))) (fun x k q => g x k (by unfold KT; omega)), fun w2 hw2 => hT.2 w2 (fun a k q => (hw2 a k q).trans (g a k (by unfold RG at q; unfold KT; omega)))⟩
theorem rw_mono {a o b k' : Nat} (h : RW w V Y a o b k' σ) (hY : Y ≤ Y1) : RW w V Y1 a o b k' σ := ⟨h.1, h.2.1, h.2.2.1, ⟨h.2.2.2.1.1, by have := h.2.2.2.1.2; omega⟩, h.2.2.2.2⟩
theorem past_mono (h : PAST w V Y σ) (hY : Y ≤ Y1) : PAST w V Y1 σ := by
  obtain ⟨u, x, τ, h1, h2, h3, h4, h5, h6, h7⟩ := h
  exact ⟨u, x, τ, h1, h2, h3, h4, h5, fun i hi => rw_mono (h6 i hi) hY, h7⟩
theorem slot_mono (h : SLOT w V Y) (hY : Y ≤ Y1) : SLOT w V Y1 := fun i hi => ⟨(h i hi).1, (h i hi).2.imp id (fun q => ⟨q.1, q.2.elim (fun τ r => ⟨τ, rw_mono r hY⟩)⟩)⟩
theorem inv_mono (h : INV L w Y) (hY : Y ≤ Y1) : INV L w Y1 := by
  obtain ⟨wl, dr, tx, s, V, σ, h1, h2, h3, h4, h5, h6, h7, h8, h9, ha, hb, hc, hd', he, hf⟩ := h
  exact ⟨wl, dr, tx, s, V, σ, h1, h2, h3, h4, h5, h6, h7, h8, rw_mono h9 hY, past_mono ha hY, slot_mono hb hY, hc, hd', he, hf⟩
end F2
section K15
variable {L wl dr tx s : Nat} {w : Wd} {V : Vl} {σ : Sg} {x y z Y : Int}
theorem call_bias (h : INV L w Y) : CALL L w Y (Hh_bias 6 x y) (Mo_bias 223 x y) := by
  have hI := h
  obtain ⟨wl, dr, tx, s, V, σ, hO, hv, hdr, hne, hV, hW, hs, hM, hN, -⟩ := h
  unfold CALL Hh_bias Hh_bias_0 Hh_bias_18 Mo_bias Mo_bias_0 Mo_bias_18
  generalize hFU : FU = fu; have hfu : 1000000 = fu := hFU
  refine wp_gd hO rfl (wp_eq (q_isMaster hO hv hW) ?_)
  unfold bz
  by_cases q : 0 ≤ x ∧ x < (nm V : Int)
  · rw [if_pos q]
    refine wp_neg (show ¬ (1 : Int) = 0 by decide) (wp_eq (q_within 1 100) ?_)
    unfold bz
    by_cases p : 1 ≤ y ∧ y ≤ 100
    · rw [if_pos p]
      obtain ⟨a, rfl⟩ := Int.eq_ofNat_of_zero_le q.1
      obtain ⟨n, rfl⟩ := Int.eq_ofNat_of_zero_le (show 0 ≤ y by omega)
      refine wp_neg (show ¬ (1 : Int) = 0 by decide) (wp_R11_5 hO (wp_R11_4 hO (wp_call (i_trial hV hO hv hW hN (Fr.rf w)) (fun w1 g => ?_))))
      refine wp_use (c_bi36 (a := a) (N := n) (w0 := w) hV hN.1 hv (by omega) (by omega) n fu 0 w1 (by omega) (by omega) (g.1.ok hO) g.2.2 g.2.1 g.1) (fun r hr => ?_)
      have f1 := hr.2
      have hO1 := f1.ok hO
      have h1 := i_same hV f1 hs hM
      refine wp_gd hO1 rfl (wp_eq (q_misMaster hV hO1 h1.1 h1.2) ?_)
      unfold bz
      rw [if_pos q]
      refine wp_neg (show ¬ (1 : Int) = 0 by decide) (wp_eq (q_min 1 100) ?_)
      unfold bz
      rw [if_pos p]
      refine wp_neg (show ¬ (1 : Int) = 0 by decide) (wp_call (i_copies45 hV hO f1 hs hM hN) (fun w2 g2 => ?_))
      exact wp_use (m_bi29 (a := a) (N := n) (w0 := w) hV hN.1 (by omega) (by omega) n fu 0 _ w2 (by omega) (by omega) (g2.1.ok hO) g2.2.1 g2.2.2.2 g2.2.2.1 g2.1) (fun r2 h2 => ⟨h2.1.trans hr.1.symm, inv_fr hI h2.2, h2.2.2.1, h2.2.2.2.1⟩)
    · rw [if_neg p]
      refine wp_pos rfl (wp_ret (wp_gd hO rfl (wp_eq (q_misMaster hV hO hs hM) ?_)))
      unfold bz
      rw [if_pos q]
      refine wp_neg (show ¬ (1 : Int) = 0 by decide) (wp_eq (q_min 1 100) ?_)
      unfold bz
      rw [if_neg p]
      exact wp_pos rfl (wp_ret ⟨rfl, hI, rfl, rfl⟩)
  · rw [if_neg q]
    refine wp_pos rfl (wp_ret (wp_gd hO rfl (wp_eq (q_misMaster hV hO hs hM) ?_)))
    unfold bz
    rw [if_neg q]
    exact wp_pos rfl (wp_ret ⟨rfl, hI, rfl, rfl⟩)
theorem call_forget (h : INV L w Y) : CALL L w Y (Hh_forget 6) (Mo_forget 223) := by
  obtain ⟨wl, dr, tx, s, V, σ, hO, hv, hdr, hne, hV, hW, hs, hM, hN, hP, hS, ⟨n, n20, c1, m1, hp⟩, hT, he, hf⟩ := h
  unfold CALL Hh_forget Hh_forget_0 Mo_forget Mo_forget_0
  refine wp_gd hO rfl (wp_R11_9 hO (wp_gI hO rfl (wp_R11_9 hO (wp_pI hO rfl (wp_ret ?_)))))
  refine wp_gd hO.sI rfl (wp_gI hO.sI rfl (wp_pI hO.sI rfl (wp_ret ⟨?_, ?_, rfl, rfl⟩)))
  · show wI (sI w 173 0 0) 223 63 = wI w 173 0
    rw [wI_ne (by omega), m1, c1]
  · show INV L (sI (sI w 173 0 0) 223 63 0) Y
    generalize hw1 : sI (sI w 173 0 0) 223 63 0 = w1
    have f : Fr (fun a k => (a = 173 ∧ k = 0) ∨ (a = 223 ∧ k = 63)) w w1 := by rw [← hw1]; exact (fr_sI (Or.inl ⟨rfl, rfl⟩)).sI (Or.inr ⟨rfl, rfl⟩)
    refine inv_mk hO hv hdr hne hV hW hs hM he hf f.fb (fun a k q => by unfold KT; omega) (now_eq hV hN (fun a k q => f.at a k (by omega)) (fr_l f 49)) (past_eq hV hP (fun a k q => f.at a k (by omega)) (fr_l f 49)) (slot_eq hV hS (fun a k q => f.at a k (by omega)) (fun x k _ _ => fr_l f x k)) ⟨0, by omega, ?_, ?_, fun i hi => absurd hi (by omega)⟩ (tape_eq hT (fun a k q => f.at a k (by omega)))
    · rw [← hw1, wI_ne (by omega), wI_eq]; rfl
    · rw [← hw1, wI_eq]; rfl
theorem c_add {n : Nat} (hO : Ok L wl dr tx w) (hn : n < 20) (c1 : wI w 173 0 = (n : Int)) : Pa_add 173 x y w = some ((n : Int), sI (sI (sI w 174 n x) 175 n y) 173 0 ((n + 1 : Nat) : Int)) := by
  refine wp_out ?_
  unfold Pa_add Pa_add_0
  refine wp_gd hO rfl (wp_gI hO rfl ?_)
  rw [c1]
  refine wp_pos (by omega) (wp_R3_1 hO (wp_gI hO rfl ?_))
  rw [c1]
  refine wp_wI hO rfl (by omega) ?_
  rw [Int.toNat_natCast]
  generalize hw1 : sI w 174 n x = w1
  have hO1 : Ok L wl dr tx w1 := by rw [← hw1]; exact hO.sI
  have c2 : wI w1 173 0 = (n : Int) := by rw [← hw1, wI_ne (by omega), c1]
  refine wp_R3_2 hO1 (wp_gI hO1 rfl ?_)
  rw [c2]
  refine wp_wI hO1 rfl (by omega) ?_
  rw [Int.toNat_natCast]
  generalize hw2 : sI w1 175 n y = w2
  have hO2 : Ok L wl dr tx w2 := by rw [← hw2]; exact hO1.sI
  have c3 : wI w2 173 0 = (n : Int) := by rw [← hw2, wI_ne (by omega), c2]
  refine wp_gI hO2 rfl ?_
  rw [c3, w32_id (by omega) (by omega), show (n : Int) + 1 = ((n + 1 : Nat) : Int) by omega]
  refine wp_pI hO2 rfl (wp_gI hO2.sI rfl (wp_ret ?_))
  rw [wI_eq, w32_id (by omega) (by omega), show ((n + 1 : Nat) : Int) - 1 = (n : Int) by omega]
theorem call_tell (h : INV L w Y) : CALL L w Y (Hh_tell 6 x y) (Mo_tell 223 x y) := by
  have hI := h
  obtain ⟨wl, dr, tx, s, V, σ, hO, hv, hdr, hne, hV, hW, hs, hM, hN, hP, hS, ⟨n, n20, c1, m1, hp⟩, hT, he, hf⟩ := h
  unfold CALL Hh_tell Hh_tell_0 Hh_tell_18 Mo_tell Mo_tell_0 Mo_tell_27
  refine wp_gd hO rfl (wp_eq (q_isLetter hO hv hW) ?_)
  unfold bz
  by_cases q : 0 ≤ x ∧ x < (nl V : Int)
  · rw [if_pos q]
    refine wp_neg (show ¬ (1 : Int) = 0 by decide) (wp_eq (q_within 0 99) ?_)
    unfold bz
    by_cases p : 0 ≤ y ∧ y ≤ 99
    · rw [if_pos p]
      refine wp_neg (show ¬ (1 : Int) = 0 by decide) (wp_R11_9 hO ?_)
      by_cases n2 : n < 20
      · refine wp_eq (c_add hO n2 c1) (wp_ret ?_)
        show Wp (gd 12 (sI (sI (sI w 174 n x) 175 n y) 173 0 ((n + 1 : Nat) : Int)) 223 _) _
        generalize hw1 : sI (sI (sI w 174 n x) 175 n y) 173 0 ((n + 1 : Nat) : Int) = w1
        have f1 : Fr (fun a k => (a = 173 ∧ k = 0) ∨ (a = 174 ∧ k = n) ∨ (a = 175 ∧ k = n) ∨ (a = 223 ∧ k = 63) ∨ (a = 263 ∧ k = n) ∨ (a = 264 ∧ k = n)) w w1 := by rw [← hw1]; exact ((fr_sI (by omega)).sI (by omega)).sI (by omega)
        have hO1 := f1.ok hO
        have hs1 := (f1.at 223 18 (by omega)).trans hs
        have hM1 := hM.eq (w1 := w1) (fun a k q1 q2 => f1.at a k (by omega))
        have m2 : wI w1 223 63 = (n : Int) := by rw [← hw1, wI_ne (by omega), wI_ne (by omega), wI_ne (by omega), m1]
        refine wp_gd hO1 rfl (wp_gI hO1 rfl ?_)
        rw [m2]
        refine wp_neg (by omega) (wp_eq (q_misLetter hV hO1 hs1 hM1) ?_)
        unfold bz
        rw [if_pos q]
        refine wp_neg (show ¬ (1 : Int) = 0 by decide) (wp_eq (q_min 0 99) ?_)
        unfold bz
        rw [if_pos p]
        refine wp_neg (show ¬ (1 : Int) = 0 by decide) (wp_R12_64 hO1 (wp_gI hO1 rfl ?_))
        rw [m2]
        refine wp_wI hO1 rfl (by omega) ?_
        rw [Int.toNat_natCast]
        generalize hw2 : sI w1 263 n x = w2
        have hO2 : Ok L wl dr tx w2 := by rw [← hw2]; exact hO1.sI
        have m3 : wI w2 223 63 = (n : Int) := by rw [← hw2, wI_ne (by omega), m2]
        refine wp_R12_65 hO2 (wp_gI hO2 rfl ?_)
        rw [m3]
        refine wp_wI hO2 rfl (by omega) ?_
        rw [Int.toNat_natCast]
        generalize hw3 : sI w2 264 n y = w3
        have hO3 : Ok L wl dr tx w3 := by rw [← hw3]; exact hO2.sI
        have m4 : wI w3 223 63 = (n : Int) := by rw [← hw3, wI_ne (by omega), m3]
        refine wp_gI hO3 rfl ?_
        rw [m4, w32_id (by omega) (by omega), show (n : Int) + 1 = ((n + 1 : Nat) : Int) by omega]
        refine wp_pI hO3 rfl (wp_gI hO3.sI rfl (wp_ret ?_))
        rw [wI_eq, w32_id (by omega) (by omega), show ((n + 1 : Nat) : Int) - 1 = (n : Int) by omega]
        generalize hw4 : sI w3 223 63 ((n + 1 : Nat) : Int) = w4
        have f4 : Fr (fun a k => (a = 173 ∧ k = 0) ∨ (a = 174 ∧ k = n) ∨ (a = 175 ∧ k = n) ∨ (a = 223 ∧ k = 63) ∨ (a = 263 ∧ k = n) ∨ (a = 264 ∧ k = n)) w w4 := by rw [← hw4, ← hw3, ← hw2]; exact ((f1.sI (by omega)).sI (by omega)).sI (by omega)
        have r14 : wI w4 173 0 = ((n + 1 : Nat) : Int) := by rw [← hw4, wI_ne (by omega), ← hw3, wI_ne (by omega), ← hw2, wI_ne (by omega), ← hw1, wI_eq]
        have r15 : wI w4 174 n = x := by rw [← hw4, wI_ne (by omega), ← hw3, wI_ne (by omega), ← hw2, wI_ne (by omega), ← hw1, wI_ne (by omega), wI_ne (by omega), wI_eq]
        have r16 : wI w4 175 n = y := by rw [← hw4, wI_ne (by omega), ← hw3, wI_ne (by omega), ← hw2, wI_ne (by omega), ← hw1, wI_ne (by omega), wI_eq]
        have r17 : wI w4 263 n = x := by rw [← hw4, wI_ne (by omega), ← hw3, wI_ne (by omega), ← hw2, wI_eq]
        have r18 : wI w4 264 n = y := by rw [← hw4, wI_ne (by omega), ← hw3, wI_eq]
        refine ⟨rfl, ?_, f4.2.1, f4.2.2.1⟩
        refine inv_mk hO hv hdr hne hV hW hs hM he hf f4.fb (fun a k q => by unfold KT; omega) (now_eq hV hN (fun a k q => f4.at a k (by omega)) (fr_l f4 49)) (past_eq hV hP (fun a k q => f4.at a k (by omega)) (fr_l f4 49)) (slot_eq hV hS (fun a k q => f4.at a k (by omega)) (fun x k _ _ => fr_l f4 x k)) ⟨n + 1, by omega, r14, ?_, fun i hi => ?_⟩ (tape_eq hT (fun a k q => f4.at a k (by omega)))
        · rw [← hw4, wI_eq]
        · by_cases hin : i = n
          · subst hin
            exact ⟨x.toNat, y, by omega, p, by rw [r15]; omega, by rw [r17]; omega, r16, r18⟩
          · obtain ⟨l, z, g1, g2, g3, g4, g5, g6⟩ := hp i (by omega)
            exact ⟨l, z, g1, g2, (f4.at 174 i (by omega)).trans g3, (f4.at 263 i (by omega)).trans g4, (f4.at 175 i (by omega)).trans g5, (f4.at 264 i (by omega)).trans g6⟩
      · have e : Pa_add 173 x y w = some (-1, w) := by
          refine wp_out ?_
          unfold Pa_add Pa_add_0
          refine wp_gd hO rfl (wp_gI hO rfl ?_)
          rw [c1]
          exact wp_neg (by omega) (wp_ret rfl)
        refine wp_eq e (wp_ret (wp_gd hO rfl (wp_gI hO rfl ?_)))
        rw [m1]
        exact wp_pos (by omega) (wp_ret ⟨rfl, hI, rfl, rfl⟩)
    · rw [if_neg p]
      refine wp_pos rfl (wp_ret (wp_gd hO rfl (wp_gI hO rfl ?_)))
      refine wp_ite (fun _ => wp_ret ⟨rfl, hI, rfl, rfl⟩) (fun _ => wp_eq (q_misLetter hV hO hs hM) ?_)
      unfold bz
      rw [if_pos q]
      refine wp_neg (show ¬ (1 : Int) = 0 by decide) (wp_eq (q_min 0 99) ?_)
      unfold bz
      rw [if_neg p]
      exact wp_pos rfl (wp_ret ⟨rfl, hI, rfl, rfl⟩)
  · rw [if_neg q]
    refine wp_pos rfl (wp_ret (wp_gd hO rfl (wp_gI hO rfl ?_)))
    refine wp_ite (fun _ => wp_ret ⟨rfl, hI, rfl, rfl⟩) (fun _ => wp_eq (q_misLetter hV hO hs hM) ?_)
    unfold bz
    rw [if_neg q]
    exact wp_pos rfl (wp_ret ⟨rfl, hI, rfl, rfl⟩)
theorem call_back (h : INV L w Y) : CALL L w Y (Hh_back 6 x) (Mo_back 223 x) := by
  have hI := h
  obtain ⟨wl, dr, tx, s, V, σ, hO, hv, hdr, hne, hV, hW, hs, hM, hN, hP, hS, hR, ⟨n, h1, c1, m1, hp⟩, he, hf⟩ := h
  unfold CALL Hh_back Hh_back_0 Hh_back_12 Mo_back Mo_back_0 Mo_back_12
  refine wp_gd hO rfl (wp_ite (fun q => wp_ret (wp_gd hO rfl (wp_pos q (wp_ret ⟨rfl, hI, rfl, rfl⟩)))) (fun q => wp_gI hO rfl ?_))
  rw [c1]
  refine wp_ite (fun p => wp_gI hO rfl ?_) (fun p => wp_ret (wp_gd hO rfl (wp_neg q (wp_gI hO rfl ?_))))
  · rw [c1, w32_id (by omega) (by omega)]
    refine wp_pI hO rfl (wp_gI hO.sI rfl (wp_ret ?_))
    rw [wI_eq]
    generalize hw1 : sI w 6 1 ((n : Int) - x) = w1
    have f1 : Fr (fun a k => (a = 6 ∧ k = 1) ∨ (a = 223 ∧ k = 2)) w w1 := by rw [← hw1]; exact fr_sI (by omega)
    have hO1 := f1.ok hO
    have m2 : wI w1 223 2 = (n : Int) := by rw [← hw1, wI_ne (by omega), m1]
    refine wp_gd hO1 rfl (wp_neg q (wp_gI hO1 rfl ?_))
    rw [m2]
    refine wp_pos p (wp_gI hO1 rfl ?_)
    rw [m2, w32_id (by omega) (by omega)]
    refine wp_pI hO1 rfl (wp_gI hO1.sI rfl (wp_ret ?_))
    rw [wI_eq]
    generalize hw2 : sI w1 223 2 ((n : Int) - x) = w2
    have f2 : Fr (fun a k => (a = 6 ∧ k = 1) ∨ (a = 223 ∧ k = 2)) w w2 := by rw [← hw2]; exact f1.sI (by omega)
    refine ⟨rfl, ?_, f2.2.1, f2.2.2.1⟩
    refine inv_mk hO hv hdr hne hV hW hs hM he hf f2.fb (fun a k q => by unfold KT; omega) (now_eq hV hN (fun a k q => f2.at a k (by omega)) (fr_l f2 49)) (past_eq hV hP (fun a k q => f2.at a k (by omega)) (fr_l f2 49)) (slot_eq hV hS (fun a k q => f2.at a k (by omega)) (fun x k _ _ => fr_l f2 x k)) (papr_eq hR (fun a k q => f2.at a k (by omega))) ⟨((n : Int) - x).toNat, by omega, ?_, ?_, fun i hi => ?_⟩
    · rw [← hw2, wI_ne (by omega), ← hw1, wI_eq]; omega
    · rw [← hw2, wI_eq]; omega
    · rw [f2.at 7 i (by omega), f2.at 224 i (by omega)]; exact hp i (by omega)
  · rw [m1]
    exact wp_neg p (wp_ret ⟨rfl, hI, rfl, rfl⟩)
end K15
