/-! Level 3: calls, hold, restore, undo. -/
section K17
variable {L wl dr tx s b : Nat} {w : Wd} {V : Vl} {σ : Sg} {x y z Y : Int}
theorem bk_bd {b : Nat} (h : isBk b) : b = 48 ∨ b = 207 ∨ b = 214 ∨ b = 221 := by
  unfold isBk bkL at h
  simpa using h
theorem c_bkcopy {d e : Nat} {m : Int} (hd : isBk d) (he : isBk e) (hde : d ≠ e) (h0 : 0 ≤ m) (h4 : m ≤ 400) (hO : Ok L wl dr tx w) : Wp (Bk_copy d e m w) (fun w1 => Fb (fun a _ => a = d + 1) w w1 ∧ (∀ a k, wI w1 a k = wI w a k) ∧ (∀ p : Nat, (p : Int) < m → wL w1 (d + 1) p = wL w (e + 1) p)) := by
  unfold Bk_copy Bk_copy_0
  refine wp_gd hO (sh_Bk L hd) (wp_R0_0 hO he (wp_R0_0 hO hd (wp_cpL hO (sh_Bk_0 L he) (sh_Bk_0 L hd) (by omega) (wp_ret ?_))))
  rw [show (0 : Int).toNat = 0 from rfl]
  refine ⟨fb_cpL (fun k _ _ => rfl), fun _ _ => rfl, fun p hp => ?_⟩
  rw [wL_cpe (by omega) (by omega)]
  congr 1
  omega
def PHo (i a q : Nat) : Prop := a = 266 ∧ 2860 * i ≤ q ∧ q < 2860 * i + 2860
theorem m_hold20 {i : Nat} {w0 : Wd} (hi : i < 3) : ∀ (r n k : Nat) (w : Wd), k + r = 2860 → r < n → Ok L wl dr tx w → Fr (PHo i) w0 w → (∀ j, j < k → wI w 266 (2860 * i + j) = wI w0 255 j) → Wp (Mo_hold_20 n 223 (i : Int) (k : Int) w) (fun q => q.1 = 1 ∧ Fr (PHo i) w0 q.2 ∧ ∀ j, j < 2860 → wI q.2 266 (2860 * i + j) = wI w0 255 j)
  | r, 0, k, w, _, hn, _, _, _ => absurd hn (by omega)
  | 0, n + 1, k, w, hk, hn, hO, hF, hZ => by
    rw [Mo_hold_20]
    exact wp_pos (by omega) (wp_ret ⟨rfl, hF, fun j hj => hZ j (by omega)⟩)
  | r + 1, n + 1, k, w, hk, hn, hO, hF, hZ => by
    rw [Mo_hold_20]
    refine wp_neg (by omega) (wp_R12_67 hO (wp_R12_49 hO (wp_rI hO rfl (by omega) ?_)))
    rw [kp_ix (by omega) (by omega)]
    refine wp_wI hO rfl (by omega) ?_
    rw [Int.toNat_natCast, Int.toNat_natCast, w32_id (z := (k : Int) + 1) (by omega) (by omega), show (k : Int) + 1 = ((k + 1 : Nat) : Int) by omega, hF.at 255 k (by unfold PHo; omega)]
    generalize hw1 : sI w 266 (2860 * i + k) (wI w0 255 k) = w1
    have f1 : Fr (PHo i) w0 w1 := by rw [← hw1]; exact hF.sI (by unfold PHo; omega)
    refine m_hold20 hi r n (k + 1) w1 (by omega) (by omega) (by rw [← hw1]; exact hO.sI) f1 (fun j hj => ?_)
    by_cases p : j = k
    · rw [p, ← hw1, wI_eq]
    · rw [← hw1, wI_ne (by omega)]; exact hZ j (by omega)
theorem m_rest22 {i : Nat} {w0 : Wd} (hi : i < 3) : ∀ (r n k : Nat) (w : Wd), k + r = 2860 → r < n → Ok L wl dr tx w → Fr (PA 255) w0 w → (∀ j, j < k → wI w 255 j = wI w0 266 (2860 * i + j)) → Wp (Mo_restore_22 n 223 (i : Int) (k : Int) w) (fun q => q.1 = 1 ∧ Fr (fun a k => a = 255 ∨ (a = 223 ∧ k = 58)) w0 q.2 ∧ wI q.2 223 58 = 0 ∧ ∀ j, j < 2860 → wI q.2 255 j = wI w0 266 (2860 * i + j))
  | r, 0, k, w, _, hn, _, _, _ => absurd hn (by omega)
  | 0, n + 1, k, w, hk, hn, hO, hF, hZ => by
    rw [Mo_restore_22]
    unfold Mo_restore_53
    refine wp_pos (by omega) (wp_pI hO rfl (wp_ret ⟨rfl, (hF.mono (fun a k q => Or.inl q)).sI (Or.inr ⟨rfl, rfl⟩), wI_eq _ _ _ _, fun j hj => ?_⟩))
    rw [wI_ne (by omega)]
    exact hZ j (by omega)
  | r + 1, n + 1, k, w, hk, hn, hO, hF, hZ => by
    rw [Mo_restore_22]
    refine wp_neg (by omega) (wp_R12_49 hO (wp_R12_67 hO ?_))
    rw [kp_ix (by omega) (by omega)]
    refine wp_rI hO rfl (by omega) (wp_wI hO rfl (by omega) ?_)
    rw [Int.toNat_natCast, Int.toNat_natCast, w32_id (z := (k : Int) + 1) (by omega) (by omega), show (k : Int) + 1 = ((k + 1 : Nat) : Int) by omega, hF.at 266 _ (by unfold PA; omega)]
    generalize hw1 : sI w 255 k (wI w0 266 (2860 * i + k)) = w1
    have f1 : Fr (PA 255) w0 w1 := by rw [← hw1]; exact hF.sI PA.i
    refine m_rest22 hi r n (k + 1) w1 (by omega) (by omega) (by rw [← hw1]; exact hO.sI) f1 (fun j hj => ?_)
    by_cases p : j = k
    · rw [p, ← hw1, wI_eq]
    · rw [← hw1, wI_ne (by omega)]; exact hZ j (by omega)
theorem m_undo21 {u : Nat} {w0 : Wd} (hu : u < 30) : ∀ (r n k : Nat) (w : Wd), k + r = 2860 → r < n → Ok L wl dr tx w → Fr (PA 255) w0 w → wI w0 223 58 = (u : Int) → (∀ j, j < k → wI w 255 j = wI w0 259 (2860 * u + j)) → Wp (Mo_undo_21 n 223 (k : Int) w) (fun q => q.1 = 1 ∧ Fr (PA 255) w0 q.2 ∧ ∀ j, j < 2860 → wI q.2 255 j = wI w0 259 (2860 * u + j))
  | r, 0, k, w, _, hn, _, _, _, _ => absurd hn (by omega)
  | 0, n + 1, k, w, hk, hn, hO, hF, hU, hZ => by
    rw [Mo_undo_21]
    exact wp_pos (by omega) (wp_ret ⟨rfl, hF, fun j hj => hZ j (by omega)⟩)
  | r + 1, n + 1, k, w, hk, hn, hO, hF, hU, hZ => by
    rw [Mo_undo_21]
    refine wp_neg (by omega) (wp_R12_49 hO (wp_R12_59 hO (wp_gI hO rfl ?_)))
    rw [hF.at 223 58 (by unfold PA; omega), hU, kp_ix hu (by omega)]
    refine wp_rI hO rfl (by omega) (wp_wI hO rfl (by omega) ?_)
    rw [Int.toNat_natCast, Int.toNat_natCast, w32_id (z := (k : Int) + 1) (by omega) (by omega), show (k : Int) + 1 = ((k + 1 : Nat) : Int) by omega, hF.at 259 _ (by unfold PA; omega)]
    generalize hw1 : sI w 255 k (wI w0 259 (2860 * u + k)) = w1
    have f1 : Fr (PA 255) w0 w1 := by rw [← hw1]; exact hF.sI PA.i
    refine m_undo21 hu r n (k + 1) w1 (by omega) (by omega) (by rw [← hw1]; exact hO.sI) f1 hU (fun j hj => ?_)
    by_cases p : j = k
    · rw [p, ← hw1, wI_eq]
    · rw [← hw1, wI_ne (by omega)]; exact hZ j (by omega)
theorem call_hold (h : INV L w Y) : CALL L w Y (Hh_hold 6 x) (Mo_hold 223 x) := by
  have hI := h
  obtain ⟨wl, dr, tx, s, V, σ, hO, hv, hdr, hne, hV, hW, hs, hM, hN, hP, hS, hR, hT, he, hf⟩ := h
  have hy := hN.2.2.2.1.1
  unfold CALL Hh_hold Hh_hold_0 Mo_hold Mo_hold_0
  generalize hFU : FU = fu; have hfu : 1000000 = fu := hFU
  refine wp_gd hO rfl (wp_eq (q_within 0 2) ?_)
  unfold bz
  by_cases q : 0 ≤ x ∧ x ≤ 2
  · rw [if_pos q]
    obtain ⟨i, rfl⟩ := Int.eq_ofNat_of_zero_le q.1
    have hi : i < 3 := by omega
    have hsl := isSl_in173 hi
    refine wp_neg (show ¬ (1 : Int) = 0 by decide) (wp_R11_8 hO (wp_173 hO (by omega) ?_))
    rw [Int.toNat_natCast]
    refine wp_R8_1 hO hsl (wp_R11_4 hO (wp_call (c_copy (isSt_sl hsl) isSt_40 (by omega) hO) (fun w1 g1 => ?_)))
    have hO1 := g1.1.ok hO
    refine wp_R11_8 hO1 (wp_173 hO1 (by omega) ?_)
    rw [Int.toNat_natCast]
    refine wp_R8_2 hO1 hsl (wp_R11_6 hO1 (wp_R11_4 hO1 (wp_eq (c_led hO1 isSt_40) ?_)))
    rw [g1.1.at 40 0 (by unfold PB; omega), hN.2.1.1]
    refine wp_call (c_bkcopy (isBk_sl hsl) isBk_48 (by omega) (by omega) (by omega) hO1) (fun w2 g2 => ?_)
    have hO2 := g2.1.ok hO1
    refine wp_R11_8 hO2 (wp_173 hO2 (by omega) ?_)
    rw [Int.toNat_natCast]
    refine wp_pZ hO2 (sh_Sl L hsl) (by omega) (wp_ret ?_)
    generalize hw3 : sI w2 (202 + 7 * i) 0 1 = w3
    have f3 : Fb (fun a k => (202 + 7 * i ≤ a ∧ a ≤ 202 + 7 * i + 6) ∨ (a = 265 ∧ k = i) ∨ PHo i a k) w w3 := by
      rw [← hw3]
      exact fb_sI ((g1.1.mono (fun a k q => by unfold PB at q; omega)).fb.tr (g2.1.mono (fun a k q => by omega))) (by omega)
    have hO3 := f3.ok hO
    refine wp_gd hO3 rfl (wp_eq (q_min 0 2) ?_)
    unfold bz
    rw [if_pos q]
    refine wp_neg (show ¬ (1 : Int) = 0 by decide) (wp_R12_66 hO3 (wp_wZ hO3 rfl (by omega) (by omega) ?_))
    rw [Int.toNat_natCast]
    generalize hw4 : sI w3 265 i 1 = w4
    have f4 : Fb (fun a k => (202 + 7 * i ≤ a ∧ a ≤ 202 + 7 * i + 6) ∨ (a = 265 ∧ k = i) ∨ PHo i a k) w w4 := by rw [← hw4]; exact fb_sI f3 (by omega)
    refine wp_use (m_hold20 (w0 := w4) hi 2860 fu 0 w4 (by omega) (by omega) (f4.ok hO) (Fr.rf w4) (fun j hj => absurd hj (by omega))) (fun r hr => ?_)
    obtain ⟨r1, f5, r2⟩ := hr
    have f6 : Fb (fun a k => (202 + 7 * i ≤ a ∧ a ≤ 202 + 7 * i + 6) ∨ (a = 265 ∧ k = i) ∨ PHo i a k) w r.2 := f4.tr (f5.mono (fun a k q => Or.inr (Or.inr q))).fb
    refine ⟨r1, ?_, f6.2.1, f6.2.2.1⟩
    refine inv_mk hO hv hdr hne hV hW hs hM he hf f6 (fun a k q => by unfold PHo at q; unfold KT; omega) (now_eq hV hN (fun a k q => f6.at a k (by unfold PHo; omega)) (fun k => f6.l 49 k (by unfold PHo; omega))) (past_eq hV hP (fun a k q => f6.at a k (by unfold PHo; omega)) (fun k => f6.l 49 k (by unfold PHo; omega))) (fun j hj => ?_) (papr_eq hR (fun a k q => f6.at a k (by unfold PHo; omega))) (tape_eq hT (fun a k q => f6.at a k (by unfold PHo; omega)))
    by_cases e : j = i
    · subst e
      have e1 : wI r.2 265 j = 1 := by rw [f5.at 265 j (by unfold PHo; omega), ← hw4, wI_eq]
      have n3 : ∀ a k, 202 + 7 * j < a → a ≤ 202 + 7 * j + 6 → wI r.2 a k = wI w2 a k := fun a k q1 q2 => by
        rw [f5.at a k (by unfold PHo; omega), ← hw4, wI_ne (by omega), ← hw3, wI_ne (by omega)]
      have n2 : ∀ a k, 202 + 7 * j < a → a ≤ 202 + 7 * j + 4 → wI r.2 a k = wI w1 a k := fun a k q1 q2 => (n3 a k (by omega) (by omega)).trans (g2.2.1 a k)
      refine ⟨?_, Or.inr ⟨e1, σ, ?_⟩⟩
      · rw [e1, f5.at _ _ (by unfold PHo; omega), ← hw4, wI_ne (by omega), ← hw3, wI_eq]
      · have c0 := cs_copy hV hN.2.1 g1.2
        rw [show 202 + 7 * j + 1 = 203 + 7 * j by omega] at c0
        have h0 : HB w1 (203 + 7 * j) := by
          have q := hb_copy (b := 202 + 7 * j + 1) hN.2.2.2.2.2.2 g1.2.2.1
          rw [show 202 + 7 * j + 1 = 203 + 7 * j by omega] at q
          exact q
        refine hN.eq hV (Int.le_refl _) (c0.eq (fun a k q1 q2 => n2 a k (by omega) (by omega))) (h0.eq (fun k => n2 _ k (by omega) (by omega))) (fun p hp => ?_) (fun k hk => ?_)
        · have b1 := g2.2.2 p hp
          rw [show 207 + 7 * j + 1 = 202 + 7 * j + 5 + 1 by omega, fr_l f5, ← hw4, ← hw3]
          exact b1.trans (fr_l g1.1 _ p)
        · rw [r2 k hk, f4.at 255 k (by unfold PHo; omega), Nat.zero_add]
    · have n6 : ∀ a k, ((202 + 7 * j ≤ a ∧ a ≤ 202 + 7 * j + 6) ∨ (a = 265 ∧ k = j)) → wI r.2 a k = wI w a k := fun a k q => f6.at a k (by unfold PHo; omega)
      obtain ⟨h1, h2⟩ := hS j hj
      have e1 : wI r.2 265 j = wI w 265 j := n6 265 j (by omega)
      refine ⟨by rw [n6 (202 + 7 * j) 0 (by omega), e1]; exact h1, ?_⟩
      rw [e1]
      rcases h2 with h2 | ⟨h2, τ, h3⟩
      · exact Or.inl h2
      · refine Or.inr ⟨h2, τ, h3.eq hV (Int.le_refl _) (h3.2.1.eq (fun a k q1 q2 => n6 a k (by omega))) (h3.2.2.2.2.2.2.eq (fun k => n6 _ k (by omega))) (fun p hp => f6.l _ _ (by unfold PHo; omega)) (fun k hk => f6.at 266 _ (by unfold PHo; omega))⟩
  · rw [if_neg q]
    refine wp_pos rfl (wp_ret (wp_gd hO rfl (wp_eq (q_min 0 2) ?_)))
    unfold bz
    rw [if_neg q]
    exact wp_pos rfl (wp_ret ⟨rfl, hI, rfl, rfl⟩)
theorem call_restore (h : INV L w Y) : CALL L w Y (Hh_restore 6 x) (Mo_restore 223 x) := by
  have hI := h
  obtain ⟨wl, dr, tx, s, V, σ, hO, hv, hdr, hne, hV, hW, hs, hM, hN, hP, hS, hR, hT, he, hf⟩ := h
  unfold CALL Hh_restore Hh_restore_0 Hh_restore_21 Mo_restore Mo_restore_0 Mo_restore_18
  generalize hFU : FU = fu; have hfu : 1000000 = fu := hFU
  refine wp_gd hO rfl (wp_eq (q_within 0 2) ?_)
  unfold bz
  by_cases q : 0 ≤ x ∧ x ≤ 2
  · rw [if_pos q]
    obtain ⟨i, rfl⟩ := Int.eq_ofNat_of_zero_le q.1
    have hi : i < 3 := by omega
    have hsl := isSl_in173 hi
    refine wp_neg (show ¬ (1 : Int) = 0 by decide) (wp_R11_8 hO (wp_173 hO (by omega) ?_))
    rw [Int.toNat_natCast]
    refine wp_gI hO (sh_Sl L hsl) ?_
    obtain ⟨s1, s2⟩ := hS i hi
    rw [s1]
    rcases s2 with s2 | ⟨s2, τ, s3⟩
    · rw [s2]
      refine wp_pos rfl (wp_ret (wp_gd hO rfl (wp_eq (q_min 0 2) ?_)))
      unfold bz
      rw [if_pos q]
      refine wp_neg (show ¬ (1 : Int) = 0 by decide) (wp_R12_66 hO (wp_rZ hO rfl (by omega) ?_))
      rw [Int.toNat_natCast, s2]
      exact wp_pos rfl (wp_ret ⟨rfl, hI, rfl, rfl⟩)
    · have hy := s3.2.2.2.1.1
      rw [show 203 + 7 * i = 202 + 7 * i + 1 by omega, show 207 + 7 * i = 202 + 7 * i + 5 by omega] at s3
      rw [s2]
      refine wp_neg (show ¬ (1 : Int) = 0 by decide) (wp_R11_4 hO (wp_R11_8 hO (wp_173 hO (by omega) ?_)))
      rw [Int.toNat_natCast]
      refine wp_R8_1 hO hsl (wp_call (c_copy isSt_40 (isSt_sl hsl) (by omega) hO) (fun w1 g1 => ?_))
      have hO1 := g1.1.ok hO
      have cs1 : CS w1 40 V τ := cs_copy hV s3.2.1 g1.2
      refine wp_R11_6 hO1 (wp_R11_8 hO1 (wp_173 hO1 (by omega) ?_))
      rw [Int.toNat_natCast]
      refine wp_R8_2 hO1 hsl (wp_R11_4 hO1 (wp_eq (c_led hO1 isSt_40) ?_))
      rw [cs1.1]
      refine wp_call (c_bkcopy isBk_48 (isBk_sl hsl) (by omega) (by omega) (by omega) hO1) (fun w2 g2 => ?_)
      have hO2 := g2.1.ok hO1
      unfold Ps_clear Ps_clear_0
      refine wp_R11_7 hO2 (wp_call (P := fun w3 => w3 = sI (sI w2 50 0 0) 50 1 0) (wp_gd hO2 rfl (wp_pI hO2 rfl (wp_pI hO2.sI rfl (wp_ret rfl)))) (fun w3 hw3 => wp_ret ?_))
      have f3 : Fb (fun a k => (40 ≤ a ∧ a ≤ 43) ∨ a = 49 ∨ a = 50 ∨ a = 255 ∨ (a = 223 ∧ k = 58)) w w3 := by
        rw [hw3]
        exact fb_sI (fb_sI ((g1.1.mono (fun a k q => by unfold PB at q; omega)).fb.tr (g2.1.mono (fun a k q => by omega))) (by omega)) (by omega)
      have hO3 := f3.ok hO
      refine wp_gd hO3 rfl (wp_eq (q_min 0 2) ?_)
      unfold bz
      rw [if_pos q]
      refine wp_neg (show ¬ (1 : Int) = 0 by decide) (wp_R12_66 hO3 (wp_rZ hO3 rfl (by omega) ?_))
      rw [Int.toNat_natCast, f3.at 265 i (by omega), s2]
      refine wp_neg (show ¬ (1 : Int) = 0 by decide) (wp_use (m_rest22 (w0 := w3) hi 2860 fu 0 w3 (by omega) (by omega) hO3 (Fr.rf w3) (fun j hj => absurd hj (by omega))) (fun r hr => ?_))
      obtain ⟨r1, f5, r58, r2⟩ := hr
      have f6 : Fb (fun a k => (40 ≤ a ∧ a ≤ 43) ∨ a = 49 ∨ a = 50 ∨ a = 255 ∨ (a = 223 ∧ k = 58)) w r.2 := f3.tr (f5.mono (fun a k q => by omega)).fb
      refine ⟨r1, ?_, f6.2.1, f6.2.2.1⟩
      have n5 : ∀ a k, a ≠ 50 → a ≠ 255 → a ≠ 223 → wI r.2 a k = wI w2 a k := fun a k q1 q2 q3 => by rw [f5.at a k (by omega), hw3, wI_ne (by omega), wI_ne (by omega)]
      refine inv_mk hO hv hdr hne hV hW hs hM he hf f6 (fun a k q => by unfold KT; omega) (σ1 := τ) ?_ ⟨0, 0, fun _ => σ, by omega, by omega, ?_, ?_, ?_, fun j hj => absurd hj (by omega), fun _ _ _ hj => absurd hj (by omega), fun _ hj => absurd hj (by omega)⟩ (slot_eq hV hS (fun a k q => f6.at a k (by omega)) (fun x k _ _ => f6.l x k (by omega))) (papr_eq hR (fun a k q => f6.at a k (by omega))) (tape_eq hT (fun a k q => f6.at a k (by omega)))
      · refine s3.eq hV (Int.le_refl _) (cs1.eq (fun a k q1 q2 => (n5 a k (by omega) (by omega) (by omega)).trans (g2.2.1 a k))) ((hb_copy (b := 40) s3.2.2.2.2.2.2 g1.2.2.1).eq (fun k => (n5 _ k (by omega) (by omega) (by omega)).trans (g2.2.1 _ k))) (fun p hp => ?_) (fun k hk => ?_)
        · have b1 := g2.2.2 p hp
          rw [fr_l f5, hw3]
          exact b1.trans (fr_l g1.1 _ p)
        · rw [Nat.zero_add, r2 k hk, f3.at 266 _ (by omega)]
      · rw [f5.at 50 0 (by omega), hw3, wI_ne (by omega), wI_eq]; rfl
      · rw [f5.at 50 1 (by omega), hw3, wI_eq]; rfl
      · rw [r58]; rfl
  · rw [if_neg q]
    refine wp_pos rfl (wp_ret (wp_gd hO rfl (wp_eq (q_min 0 2) ?_)))
    unfold bz
    rw [if_neg q]
    exact wp_pos rfl (wp_ret ⟨rfl, hI, rfl, rfl⟩)
theorem call_undo (h : INV L w Y) : CALL L w Y (Hh_undo 6) (Mo_undo 223) := by
  have hI := h
  obtain ⟨wl, dr, tx, s, V, σ, hO, hv, hdr, hne, hV, hW, hs, hM, hN, ⟨u, x, τ, u1, u2, u3, u4, u5, u6, u7, u8⟩, hS, hR, hT, he, hf⟩ := h
  unfold CALL Hh_undo Hh_undo_0 Ps_takeBack Ps_takeBack_0 Mo_undo Mo_undo_0
  generalize hFU : FU = fu; have hfu : 1000000 = fu := hFU
  refine wp_gd hO rfl (wp_R11_7 hO (wp_R11_4 hO ?_))
  by_cases hu : u = 0
  · refine wp_call (P := fun r => r = (0, w)) (wp_gd hO rfl (wp_gI hO rfl ?_)) (fun r hr => ?_)
    · rw [u3]
      exact wp_pos (by omega) (wp_ret rfl)
    · rw [hr]
      refine wp_rZr (Or.inl rfl) (wp_gd hO rfl (wp_gI hO rfl ?_))
      show Wp (if wI w 223 58 = 0 then _ else _) _
      rw [u5]
      exact wp_pos (by omega) (wp_ret ⟨rfl, hI, rfl, rfl⟩)
  · have ek : (x + 30 - u + (u - 1)) % 30 = (x + 29) % 30 := by omega
    have hk30 : (x + 29) % 30 < 30 := Nat.mod_lt _ (by omega)
    have rw0 := u6 (u - 1) (by omega)
    rw [ek] at rw0
    generalize hkk : (x + 29) % 30 = kk at rw0 hk30
    refine wp_call (P := fun r => r.1 = 1 ∧ Fr (fun a k => (40 ≤ a ∧ a ≤ 43) ∨ a = 50) w r.2 ∧ (CS r.2 40 V (τ (u - 1)) ∧ HB r.2 40) ∧ wI r.2 50 0 = ((u - 1 : Nat) : Int) ∧ wI r.2 50 1 = (kk : Int)) (wp_gd hO rfl (wp_gI hO rfl ?_)) (fun r hr => ?_)
    · rw [u3]
      refine wp_neg (by omega) (wp_gI hO rfl ?_)
      rw [u4, w32_id (z := (x : Int) + 30) (by omega) (by omega), w32_id (by omega) (by omega)]
      refine wp_irm (by decide) ?_
      have e1 : ((x : Int) + 30 - 1).tmod 30 = (kk : Int) := by
        rw [Int.tmod_eq_emod_of_nonneg (by omega)]
        omega
      rw [e1]
      refine wp_pI hO rfl ?_
      generalize hw1 : sI w 50 1 (kk : Int) = w1
      have f1 : Fr (fun a k => (40 ≤ a ∧ a ≤ 43) ∨ a = 50) w w1 := by rw [← hw1]; exact fr_sI (by omega)
      have hO1 := f1.ok hO
      refine wp_R4_2 hO1 (wp_gI hO1 rfl ?_)
      rw [show wI w1 50 1 = (kk : Int) by rw [← hw1, wI_eq]]
      refine wp_52 hO1 (by omega) ?_
      rw [Int.toNat_natCast]
      refine wp_call (c_copy isSt_40 (isSt_in52 hk30) (by omega) hO1) (fun w2 g2 => ?_)
      have hO2 := g2.1.ok hO1
      refine wp_gI hO2 rfl ?_
      rw [g2.1.at 50 0 (by unfold PB; omega), show wI w1 50 0 = (u : Int) by rw [← hw1, wI_ne (by omega), u3], w32_id (by omega) (by omega)]
      refine wp_pI hO2 rfl (wp_ret ⟨rfl, (f1.tr (g2.1.mono (fun a k q => by unfold PB at q; omega))).sI (by omega), ?_, ?_, ?_⟩)
      · exact ⟨(cs_copy hV (rw0.2.1.eq (fun a k q1 q2 => f1.at a k (by omega))) g2.2).eq (fun a k q1 q2 => wI_ne (by omega)), (hb_copy (b := 40) (rw0.2.2.2.2.2.2.eq (fun k => f1.at _ k (by omega))) g2.2.2.1).eq (fun k => wI_ne (by omega))⟩
      · rw [wI_eq]; omega
      · rw [wI_ne (by omega), g2.1.at 50 1 (by unfold PB; omega), ← hw1, wI_eq]
    · obtain ⟨r1, f1, c1, c2, c3⟩ := hr
      rw [r1]
      refine wp_rZr (by decide) ?_
      have hO1 := f1.ok hO
      refine wp_gd hO1 rfl (wp_gI hO1 rfl ?_)
      rw [f1.at 223 58 (by omega), u5]
      refine wp_neg (by omega) (wp_gI hO1 rfl ?_)
      rw [f1.at 223 58 (by omega), u5, w32_id (by omega) (by omega)]
      refine wp_pI hO1 rfl ?_
      generalize hw2 : sI r.2 223 58 ((u : Int) - 1) = w2
      have f2 : Fr (fun a k => (40 ≤ a ∧ a ≤ 43) ∨ a = 50 ∨ a = 255 ∨ (a = 223 ∧ k = 58)) w w2 := by rw [← hw2]; exact (f1.mono (fun a k q => by omega)).sI (by omega)
      have e58 : wI w2 223 58 = ((u - 1 : Nat) : Int) := by rw [← hw2, wI_eq]; omega
      have n2 : ∀ a k, a ≠ 223 → wI w2 a k = wI r.2 a k := fun a k q => by rw [← hw2, wI_ne (by omega)]
      refine wp_use (m_undo21 (w0 := w2) (u := u - 1) (by omega) 2860 fu 0 w2 (by omega) (by omega) (f2.ok hO) (Fr.rf w2) e58 (fun j hj => absurd hj (by omega))) (fun q hq => ?_)
      obtain ⟨q1, f3, q3⟩ := hq
      have f4 : Fr (fun a k => (40 ≤ a ∧ a ≤ 43) ∨ a = 50 ∨ a = 255 ∨ (a = 223 ∧ k = 58)) w q.2 := f2.tr (f3.mono (fun a k q => by unfold PA at q; omega))
      have n3 : ∀ a k, a ≠ 223 → a ≠ 255 → wI q.2 a k = wI r.2 a k := fun a k q1 q2 => (f3.at a k (by unfold PA; omega)).trans (n2 a k q1)
      refine ⟨q1, ?_, f4.2.1, f4.2.2.1⟩
      refine inv_mk hO hv hdr hne hV hW hs hM he hf f4.fb (fun a k q => by unfold KT; omega) (σ1 := τ (u - 1)) ?_ ⟨u - 1, kk, τ, by omega, hk30, (n3 50 0 (by omega) (by omega)).trans c2, (n3 50 1 (by omega) (by omega)).trans c3, (f3.at 223 58 (by unfold PA; omega)).trans e58, fun i hi => ?_, fun i j hij hj => u7 i j hij (by omega), fun i hi => u7 i (u - 1) (by omega) (by omega)⟩ (slot_eq hV hS (fun a k q => f4.at a k (by omega)) (fun x k _ _ => fr_l f4 x k)) (papr_eq hR (fun a k q => f4.at a k (by omega))) (tape_eq hT (fun a k q => f4.at a k (by omega)))
      · refine rw0.eq hV (Int.le_refl _) (c1.1.eq (fun a k q1 q2 => n3 a k (by omega) (by omega))) (c1.2.eq (fun k => n3 _ k (by omega) (by omega))) (fun p hp => fr_l f4 _ p) (fun k hk => ?_)
        rw [Nat.zero_add, q3 k hk, f2.at 259 _ (by omega)]
      · have hb : (kk + 30 - (u - 1) + i) % 30 = (x + 30 - u + i) % 30 := by omega
        have hb2 : (x + 30 - u + i) % 30 < 30 := Nat.mod_lt _ (by omega)
        rw [hb]
        exact rw_fr hV (u6 i (by omega)) (fun a k q => f4.at a k (by omega)) (fr_l f4 _)
end K17
