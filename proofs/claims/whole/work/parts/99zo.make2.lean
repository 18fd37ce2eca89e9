/-! Level 3, the start: the class's parts are made. -/
theorem FN.sI {n a k : Nat} {z : Int} {w w1 : Wd} (h : FN n w w1) (ha : n ≤ a) : FN n w (_root_.Jvm.Pilot.@@N@@.sI w1 a k z) := fun b j hb => ⟨(wI_ne (by omega)).trans (h b j hb).1, (h b j hb).2⟩
theorem FN.sL {n a k : Nat} {z : Int} {w w1 : Wd} (h : FN n w w1) (ha : n ≤ a) : FN n w (_root_.Jvm.Pilot.@@N@@.sL w1 a k z) := fun b j hb => ⟨(h b j hb).1, (wL_ne (by omega)).trans (h b j hb).2⟩
theorem FN.of {n : Nat} {P : Nat → Nat → Prop} {w w1 : Wd} (h : Fr P w w1) (hp : ∀ a k, P a k → n ≤ a) : FN n w w1 := fun a j ha => ⟨h.at a j (fun q => by have := hp a j q; omega), by rw [h.2.2.2.1]⟩
theorem FN.all {n : Nat} {w w1 w2 : Wd} (h : FN n w w1) (h2 : ∀ a j, wI w2 a j = wI w1 a j ∧ wL w2 a j = wL w1 a j) : FN n w w2 := fun a j ha => ⟨(h2 a j).1.trans (h a j ha).1, (h2 a j).2.trans (h a j ha).2⟩
section MK
variable {L n : Nat} {P P' : Nat → Nat → Prop} {w w1 : Wd} {β : Type}
theorem po_iff (h : PO L n P w) (e : ∀ a j, a < n → (P' a j ↔ P a j)) : PO L n P' w := by
  obtain ⟨h0, h1, h2, h3, h4, h5, h6⟩ := h
  exact ⟨h0, h1, h2, fun a j ha q => h3 a j ha (fun y => q ((e a j ha).mpr y)), fun a j ha q => h4 a j ha ((e a j ha).mp q), h5, h6⟩
theorem rq_st {b j : Nat} (h : isSt b) (hj : j < 3) : RQ b j = 0 := by
  have z := st_z b h
  unfold RQ RR
  rw [if_neg (by omega), if_neg (by omega), if_neg (by omega)]
  exact z.2 j hj
theorem i_St (hb : isSt n) (h : PO L n P w) (hP : ∀ y j, P y j → y < n) : Wp (St_init n (nw w 9 6)) (fun w1 => PO L (n + 4) P w1 ∧ FN n w w1) := by
  have hs := sh_St L hb
  have z := (st_z n hb).1
  obtain ⟨h1, f1, -⟩ := q_new h hs
  generalize nw w 9 6 = w1 at h1 f1
  unfold St_init St_init_0
  refine x_gd (h1.at (by omega) hs) (x_tg (h1.at (by omega) hs) (x_pI (h1.at (by omega) hs) (x_pI (h1.sI.at (by omega) hs) (x_pI (h1.sI.sI.at (by omega) hs) ?_))))
  have h2 := ((h1.sI (a := n) (k := 0) (z := 0)).sI (a := n) (k := 1) (z := 0)).sI (a := n) (k := 2) (z := -2)
  have f2 := ((f1.sI (a := n) (k := 0) (z := 0) (Nat.le_refl _)).sI (a := n) (k := 1) (z := 0) (Nat.le_refl _)).sI (a := n) (k := 2) (z := -2) (Nat.le_refl _)
  generalize sI (sI (sI w1 n 0 0) n 1 0) n 2 (-2) = w2 at h2 f2 ⊢
  have hP' : ∀ y j, P y j → y ≠ n := fun y j q => by have := hP y j q; omega
  refine q_row h2 (by omega) hs (sh_St_3 L hb) (by omega) (by decide) hP' (rf_St_3 28 9 26 hb) (fun j _ q => rq_st hb q) (by omega) (fun w3 h3 f3 _ => ?_)
  refine q_row h3 (by omega) hs (sh_St_4 L hb) (by omega) (by decide) hP' (rf_St_4 28 9 26 hb) (fun j q1 q2 => by omega) (by omega) (fun w4 h4 f4 _ => ?_)
  refine q_row h4 (by omega) hs (sh_St_5 L hb) (by omega) (by decide) hP' (rf_St_5 28 9 26 hb) (fun j q1 q2 => by omega) (by omega) (fun w5 h5 f5 _ => ?_)
  exact wp_ret ⟨po_close h5 (fun j q => rr_big hs (by omega) (by decide) q), ((f2.tr (by omega) f3).tr (by omega) f4).tr (by omega) f5⟩
theorem i_Bk (hb : isBk n) (h : PO L n P w) (hP : ∀ y j, P y j → y < n) : Wp (Bk_init n (nw w 0 1)) (fun w1 => PO L (n + 2) P w1 ∧ FN n w w1) := by
  have hs := sh_Bk L hb
  have z : n ≠ 1 := fun e => by subst e; exact absurd hb (by unfold isBk; decide)
  obtain ⟨h1, f1, -⟩ := q_new h hs
  generalize nw w 0 1 = w1 at h1 f1
  unfold Bk_init Bk_init_0
  refine x_gd (h1.at (by omega) hs) (x_tg (h1.at (by omega) hs) ?_)
  have hP' : ∀ y j, P y j → y ≠ n := fun y j q => by have := hP y j q; omega
  refine q_row h1 (by omega) hs (sh_Bk_0 L hb) (by omega) (by decide) hP' (rf_Bk_0 28 9 26 hb) (fun j q1 q2 => by omega) (by omega) (fun w3 h3 f3 _ => ?_)
  exact wp_ret ⟨po_close h3 (fun j q => rr_big hs z (by decide) q), f1.tr (by omega) f3⟩
theorem i_Lw (hb : isLw n) (h : PO L n P w) (hP : ∀ y j, P y j → y < n) : Wp (Lw_init n (nw w 2 5)) (fun w1 => PO L (n + 5) P w1 ∧ FN n w w1) := by
  have hs := sh_Lw L hb
  have z : n ≠ 1 := fun e => by subst e; exact absurd hb (by unfold isLw; decide)
  have z0 : RQ n 0 = 0 := by rcases hb with rfl | rfl <;> rfl
  obtain ⟨h1, f1, -⟩ := q_new h hs
  generalize nw w 2 5 = w1 at h1 f1
  unfold Lw_init Lw_init_0
  refine x_gd (h1.at (by omega) hs) (x_tg (h1.at (by omega) hs) (x_pI (h1.at (by omega) hs) ?_))
  have h2 := h1.sI (a := n) (k := 0) (z := 0)
  have f2 := f1.sI (a := n) (k := 0) (z := 0) (Nat.le_refl _)
  generalize sI w1 n 0 0 = w2 at h2 f2 ⊢
  have hP' : ∀ y j, P y j → y ≠ n := fun y j q => by have := hP y j q; omega
  refine q_row h2 (by omega) hs (sh_Lw_1 L hb) (by omega) (by decide) hP' (rf_Lw_1 28 9 26 hb) (fun j q1 q2 => by rw [show j = 0 by omega]; exact z0) (by omega) (fun w3 h3 f3 _ => ?_)
  refine q_row h3 (by omega) hs (sh_Lw_2 L hb) (by omega) (by decide) hP' (rf_Lw_2 28 9 26 hb) (fun j q1 q2 => by omega) (by omega) (fun w4 h4 f4 _ => ?_)
  refine q_row h4 (by omega) hs (sh_Lw_3 L hb) (by omega) (by decide) hP' (rf_Lw_3 28 9 26 hb) (fun j q1 q2 => by omega) (by omega) (fun w5 h5 f5 _ => ?_)
  refine q_row h5 (by omega) hs (sh_Lw_4 L hb) (by omega) (by decide) hP' (rf_Lw_4 28 9 26 hb) (fun j q1 q2 => by omega) (by omega) (fun w6 h6 f6 _ => ?_)
  exact wp_ret ⟨po_close h6 (fun j q => rr_big hs z (by decide) q), (((f2.tr (by omega) f3).tr (by omega) f4).tr (by omega) f5).tr (by omega) f6⟩
/-! a will is cleared -/
theorem i_clearA {b : Nat} {w0 : Wd} (hA : wsh w0 b = (10, 14)) (h4 : wsh w0 (b + 4) = (20, 36)) (r10 : wR w0 b 10 = b + 4) : ∀ (r m k : Nat) (w : Wd), k + r = 36 → r < m → Fr (fun a _ => a = b + 4) w0 w → Wp (Wi_clear_89 m b (k : Int) w) (fun w1 => Fr (fun a _ => a = b + 4) w0 w1)
  | r, 0, k, w, _, hm, _ => absurd hm (by omega)
  | 0, m + 1, k, w, hk, hm, hF => by
    have s1 : wsh w b = (10, 14) := by rw [hF.1.1]; exact hA
    have s4 : wsh w (b + 4) = (20, 36) := by rw [hF.1.1]; exact h4
    have sr : wR w b 10 = b + 4 := by rw [hF.1.2]; exact r10
    rw [Wi_clear_89]
    exact x_gR s1 sr (by omega) (x_al s4 (by decide) (wp_pos (by omega) (wp_ret hF)))
  | r + 1, m + 1, k, w, hk, hm, hF => by
    have s1 : wsh w b = (10, 14) := by rw [hF.1.1]; exact hA
    have s4 : wsh w (b + 4) = (20, 36) := by rw [hF.1.1]; exact h4
    have sr : wR w b 10 = b + 4 := by rw [hF.1.2]; exact r10
    rw [Wi_clear_89]
    refine x_gR s1 sr (by omega) (x_al s4 (by decide) (wp_neg (by omega) (x_gR s1 sr (by omega) (x_wI s4 (by omega) ?_))))
    rw [Int.toNat_natCast, w32_id (z := (k : Int) + 1) (by omega) (by omega), show (k : Int) + 1 = ((k + 1 : Nat) : Int) by omega]
    exact i_clearA hA h4 r10 r m (k + 1) _ (by omega) (by omega) (hF.sI rfl)
theorem i_clearB {b : Nat} {w0 : Wd} (hA : wsh w0 b = (10, 14)) (h4 : wsh w0 (b + 4) = (20, 36)) (h6 : wsh w0 (b + 6) = (20, 6)) (r10 : wR w0 b 10 = b + 4) (r12 : wR w0 b 12 = b + 6) : ∀ (r m k : Nat) (w : Wd), k + r = 6 → r < m → Fr (fun a _ => a = b + 6 ∨ a = b + 4) w0 w → Wp (Wi_clear_68 m b (k : Int) w) (fun w1 => Fr (fun a _ => a = b + 6 ∨ a = b + 4) w0 w1)
  | r, 0, k, w, _, hm, _ => absurd hm (by omega)
  | 0, m + 1, k, w, hk, hm, hF => by
    have s1 : wsh w b = (10, 14) := by rw [hF.1.1]; exact hA
    have s4 : wsh w (b + 4) = (20, 36) := by rw [hF.1.1]; exact h4
    have sr : wR w b 10 = b + 4 := by rw [hF.1.2]; exact r10
    rw [Wi_clear_68]
    unfold Wi_clear_87
    generalize hFU : FU = fu
    have hfu : 1000000 = fu := hFU
    exact wp_pos (by omega) (wp_use (i_clearA s1 s4 sr 36 fu 0 w (by omega) (by omega) (Fr.rf w)) (fun w1 g => hF.tr (g.mono (fun a k q => Or.inr q))))
  | r + 1, m + 1, k, w, hk, hm, hF => by
    have s1 : wsh w b = (10, 14) := by rw [hF.1.1]; exact hA
    have s6 : wsh w (b + 6) = (20, 6) := by rw [hF.1.1]; exact h6
    have sr : wR w b 12 = b + 6 := by rw [hF.1.2]; exact r12
    rw [Wi_clear_68]
    refine wp_neg (by omega) (x_gR s1 sr (by omega) (x_wI s6 (by omega) ?_))
    rw [Int.toNat_natCast, w32_id (z := (k : Int) + 1) (by omega) (by omega), show (k : Int) + 1 = ((k + 1 : Nat) : Int) by omega]
    exact i_clearB hA h4 h6 r10 r12 r m (k + 1) _ (by omega) (by omega) (hF.sI (Or.inl rfl))
theorem i_clearC {b : Nat} {w0 : Wd} (hA : wsh w0 b = (10, 14)) (h4 : wsh w0 (b + 4) = (20, 36)) (h6 : wsh w0 (b + 6) = (20, 6)) (h1 : wsh w0 (b + 1) = (20, 6)) (r10 : wR w0 b 10 = b + 4) (r12 : wR w0 b 12 = b + 6) (r7 : wR w0 b 7 = b + 1) : ∀ (r m k : Nat) (w : Wd), k + r = 6 → r < m → Fr (fun a _ => a = b + 1) w0 w → (∀ j, j < k → wI w (b + 1) j = 0) → Wp (Wi_clear_47 m b (k : Int) w) (fun w1 => Fr (fun a _ => a = b + 1 ∨ a = b + 6 ∨ a = b + 4) w0 w1 ∧ ∀ j, j < 6 → wI w1 (b + 1) j = 0)
  | r, 0, k, w, _, hm, _, _ => absurd hm (by omega)
  | 0, m + 1, k, w, hk, hm, hF, hZ => by
    have s1 : wsh w b = (10, 14) := by rw [hF.1.1]; exact hA
    have s4 : wsh w (b + 4) = (20, 36) := by rw [hF.1.1]; exact h4
    have s6 : wsh w (b + 6) = (20, 6) := by rw [hF.1.1]; exact h6
    have sr : wR w b 10 = b + 4 := by rw [hF.1.2]; exact r10
    have sq : wR w b 12 = b + 6 := by rw [hF.1.2]; exact r12
    rw [Wi_clear_47]
    unfold Wi_clear_66
    generalize hFU : FU = fu
    have hfu : 1000000 = fu := hFU
    refine wp_pos (by omega) (wp_use (i_clearB s1 s4 s6 sr sq 6 fu 0 w (by omega) (by omega) (Fr.rf w)) (fun w1 g => ⟨(hF.mono (fun a k q => Or.inl q)).tr (g.mono (fun a k q => Or.inr q)), fun j hj => ?_⟩))
    rw [g.at _ _ (by omega)]; exact hZ j (by omega)
  | r + 1, m + 1, k, w, hk, hm, hF, hZ => by
    have s1 : wsh w b = (10, 14) := by rw [hF.1.1]; exact hA
    have s6 : wsh w (b + 1) = (20, 6) := by rw [hF.1.1]; exact h1
    have sr : wR w b 7 = b + 1 := by rw [hF.1.2]; exact r7
    rw [Wi_clear_47]
    refine wp_neg (by omega) (x_gR s1 sr (by omega) (x_wI s6 (by omega) ?_))
    rw [Int.toNat_natCast, w32_id (z := (k : Int) + 1) (by omega) (by omega), show (k : Int) + 1 = ((k + 1 : Nat) : Int) by omega]
    refine i_clearC hA h4 h6 h1 r10 r12 r7 r m (k + 1) _ (by omega) (by omega) (hF.sI rfl) (fun j hj => ?_)
    by_cases e : j = k
    · rw [e, wI_eq]
    · rw [wI_ne (by omega)]; exact hZ j (by omega)
def WIF (b : Nat) (w : Wd) : Prop := (wI w b 0 = 0 ∧ wI w b 1 = 0 ∧ wI w b 2 = 0 ∧ wI w b 3 = 3) ∧ (wI w b 4 = 9999 ∧ wI w b 5 = 0 ∧ wI w b 6 = -1 ∧ wI w (b + 7) 0 = 0 ∧ ∀ l, l < 6 → wI w (b + 1) l = 0)
theorem i_clear {b : Nat} (hA : wsh w b = (10, 14)) (h4 : wsh w (b + 4) = (20, 36)) (h6 : wsh w (b + 6) = (20, 6)) (h7 : wsh w (b + 7) = (2, 5)) (h1 : wsh w (b + 1) = (20, 6)) (r10 : wR w b 10 = b + 4) (r12 : wR w b 12 = b + 6) (r13 : wR w b 13 = b + 7) (r7 : wR w b 7 = b + 1) : Wp (Wi_clear b w) (fun w1 => Fr (fun a _ => b ≤ a ∧ a ≤ b + 9) w w1 ∧ WIF b w1) := by
  unfold Wi_clear Wi_clear_0
  generalize hFU : FU = fu; have hfu : 1000000 = fu := hFU
  refine x_gd hA (x_pI hA ?_)
  generalize hu1 : sI w b 0 0 = u1
  have f1 : Fr (fun a _ => b ≤ a ∧ a ≤ b + 9) w u1 := by rw [← hu1]; exact fr_sI (by omega)
  have v1 : wI u1 b 0 = 0 := by rw [← hu1, wI_eq]
  clear hu1
  refine x_pI (show wsh u1 b = (10, 14) by rw [f1.1.1]; exact hA) ?_
  generalize hu2 : sI u1 b 1 0 = u2
  have f2 : Fr (fun a _ => b ≤ a ∧ a ≤ b + 9) w u2 := by rw [← hu2]; exact f1.sI (by omega)
  have v2 : wI u2 b 0 = 0 ∧ wI u2 b 1 = 0 := by rw [← hu2]; exact ⟨(wI_ne (by omega)).trans v1, wI_eq _ _ _ _⟩
  clear hu2 f1 v1
  refine x_pI (show wsh u2 b = (10, 14) by rw [f2.1.1]; exact hA) ?_
  generalize hu3 : sI u2 b 2 0 = u3
  have f3 : Fr (fun a _ => b ≤ a ∧ a ≤ b + 9) w u3 := by rw [← hu3]; exact f2.sI (by omega)
  have v3 : wI u3 b 0 = 0 ∧ wI u3 b 1 = 0 ∧ wI u3 b 2 = 0 := by rw [← hu3]; exact ⟨(wI_ne (by omega)).trans v2.1, (wI_ne (by omega)).trans v2.2, wI_eq _ _ _ _⟩
  clear hu3 f2 v2
  refine x_pI (show wsh u3 b = (10, 14) by rw [f3.1.1]; exact hA) ?_
  generalize hu4 : sI u3 b 3 3 = w1
  have f1 : Fr (fun a _ => b ≤ a ∧ a ≤ b + 9) w w1 := by rw [← hu4]; exact f3.sI (by omega)
  have v1 : wI w1 b 0 = 0 ∧ wI w1 b 1 = 0 ∧ wI w1 b 2 = 0 ∧ wI w1 b 3 = 3 := by rw [← hu4]; exact ⟨(wI_ne (by omega)).trans v3.1, (wI_ne (by omega)).trans v3.2.1, (wI_ne (by omega)).trans v3.2.2, wI_eq _ _ _ _⟩
  clear hu4 f3 v3
  refine x_pI (show wsh w1 b = (10, 14) by rw [f1.1.1]; exact hA) ?_
  generalize hu5 : sI w1 b 4 9999 = u5
  have f5 : Fr (fun a _ => b ≤ a ∧ a ≤ b + 9) w u5 := by rw [← hu5]; exact f1.sI (by omega)
  have v5 : wI u5 b 4 = 9999 := by rw [← hu5, wI_eq]
  have n5 : ∀ k, k ≠ 4 → wI u5 b k = wI w1 b k := fun k q => by rw [← hu5, wI_ne (by omega)]
  clear hu5 f1
  refine x_pI (show wsh u5 b = (10, 14) by rw [f5.1.1]; exact hA) ?_
  generalize hu6 : sI u5 b 5 0 = u6
  have f6 : Fr (fun a _ => b ≤ a ∧ a ≤ b + 9) w u6 := by rw [← hu6]; exact f5.sI (by omega)
  have v6 : wI u6 b 5 = 0 := by rw [← hu6, wI_eq]
  have n6 : ∀ k, k ≠ 5 → wI u6 b k = wI u5 b k := fun k q => by rw [← hu6, wI_ne (by omega)]
  clear hu6 f5
  refine x_pI (show wsh u6 b = (10, 14) by rw [f6.1.1]; exact hA) ?_
  generalize hu7 : sI u6 b 6 (-1) = w2
  have f2 : Fr (fun a _ => b ≤ a ∧ a ≤ b + 9) w w2 := by rw [← hu7]; exact f6.sI (by omega)
  have v7 : wI w2 b 6 = -1 := by rw [← hu7, wI_eq]
  have n7 : ∀ k, k ≠ 6 → wI w2 b k = wI u6 b k := fun k q => by rw [← hu7, wI_ne (by omega)]
  clear hu7 f6
  have v2 : wI w2 b 4 = 9999 ∧ wI w2 b 5 = 0 ∧ wI w2 b 6 = -1 := ⟨(n7 4 (by omega)).trans ((n6 4 (by omega)).trans v5), (n7 5 (by omega)).trans v6, v7⟩
  have n2 : ∀ k, k < 4 → wI w2 b k = wI w1 b k := fun k hk => (n7 k (by omega)).trans ((n6 k (by omega)).trans (n5 k (by omega)))
  clear n5 n6 n7 v5 v6 v7
  have a2 : wsh w2 b = (10, 14) := by rw [f2.1.1]; exact hA
  have b2 : wsh w2 (b + 7) = (2, 5) := by rw [f2.1.1]; exact h7
  have c2 : wR w2 b 13 = b + 7 := by rw [f2.1.2]; exact r13
  refine x_gR a2 c2 (by omega) (x_pI b2 ?_)
  generalize hw3 : sI w2 (b + 7) 0 0 = w3
  have f3 : Fr (fun a _ => b ≤ a ∧ a ≤ b + 9) w w3 := by rw [← hw3]; exact f2.sI (by omega)
  have v3 : wI w3 (b + 7) 0 = 0 := by rw [← hw3, wI_eq]
  have n3 : ∀ k, wI w3 b k = wI w2 b k := fun k => by rw [← hw3, wI_ne (by omega)]
  clear hw3
  have a3 : wsh w3 b = (10, 14) := by rw [f3.1.1]; exact hA
  have b3 : wsh w3 (b + 4) = (20, 36) := by rw [f3.1.1]; exact h4
  have c3 : wsh w3 (b + 6) = (20, 6) := by rw [f3.1.1]; exact h6
  have d3 : wR w3 b 10 = b + 4 := by rw [f3.1.2]; exact r10
  have e3 : wR w3 b 12 = b + 6 := by rw [f3.1.2]; exact r12
  have c1 : wsh w3 (b + 1) = (20, 6) := by rw [f3.1.1]; exact h1
  have e1 : wR w3 b 7 = b + 1 := by rw [f3.1.2]; exact r7
  refine wp_use (i_clearC a3 b3 c3 c1 d3 e3 e1 6 fu 0 w3 (by omega) (by omega) (Fr.rf w3) (fun j hj => absurd hj (by omega))) (fun w4 g4 => ⟨f3.tr (g4.1.mono (fun a k q => by omega)), ?_⟩)
  have f4 := g4.1
  have n4 : ∀ a k, a = b ∨ a = b + 7 → wI w4 a k = wI w3 a k := fun a k q => f4.at a k (by omega)
  refine ⟨⟨?_, ?_, ?_, ?_⟩, ?_, ?_, ?_, (n4 _ _ (by omega)).trans v3, g4.2⟩
  · rw [n4 _ _ (by omega), n3, n2 _ (by omega)]; exact v1.1
  · rw [n4 _ _ (by omega), n3, n2 _ (by omega)]; exact v1.2.1
  · rw [n4 _ _ (by omega), n3, n2 _ (by omega)]; exact v1.2.2.1
  · rw [n4 _ _ (by omega), n3, n2 _ (by omega)]; exact v1.2.2.2
  · rw [n4 _ _ (by omega), n3]; exact v2.1
  · rw [n4 _ _ (by omega), n3]; exact v2.2.1
  · rw [n4 _ _ (by omega), n3]; exact v2.2.2
theorem rq_wi {b j : Nat} (h : isWi b) (hj : j < 7) : RQ b j = 0 := by
  rcases h with rfl | rfl
  · exact (by decide +kernel : ∀ j, j < 7 → RQ 9 j = 0) j hj
  · exact (by decide +kernel : ∀ j, j < 7 → RQ 28 j = 0) j hj
theorem i_Wi (hb : isWi n) (h : PO L n P w) (hP : ∀ y j, P y j → y < n) : Wp (Wi_init n (nw w 10 14)) (fun w1 => PO L (n + 12) P w1 ∧ FN n w w1 ∧ WIF n w1) := by
  have hs := sh_Wi L hb
  have z : n ≠ 1 := fun e => by subst e; exact absurd hb (by unfold isWi; decide)
  obtain ⟨h1, f1, -⟩ := q_new h hs
  generalize nw w 10 14 = w1 at h1 f1
  unfold Wi_init Wi_init_0
  refine x_gd (h1.at (by omega) hs) (x_tg (h1.at (by omega) hs) (x_pI (h1.at (by omega) hs) (x_pI (h1.sI.at (by omega) hs) (x_pI (h1.sI.sI.at (by omega) hs) ?_))))
  have h2 := ((h1.sI (a := n) (k := 0) (z := 0)).sI (a := n) (k := 1) (z := 0)).sI (a := n) (k := 2) (z := 0)
  have f2 := ((f1.sI (a := n) (k := 0) (z := 0) (Nat.le_refl _)).sI (a := n) (k := 1) (z := 0) (Nat.le_refl _)).sI (a := n) (k := 2) (z := 0) (Nat.le_refl _)
  generalize sI (sI (sI w1 n 0 0) n 1 0) n 2 0 = w2 at h2 f2 ⊢
  clear h1 f1
  refine x_pI (h2.at (by omega) hs) (x_pI (h2.sI.at (by omega) hs) ?_)
  have h2 := (h2.sI (a := n) (k := 3) (z := 3)).sI (a := n) (k := 4) (z := 9999)
  have f2 := (f2.sI (a := n) (k := 3) (z := 3) (Nat.le_refl _)).sI (a := n) (k := 4) (z := 9999) (Nat.le_refl _)
  generalize sI (sI w2 n 3 3) n 4 9999 = w2 at h2 f2 ⊢
  refine x_pI (h2.at (by omega) hs) (x_pI (h2.sI.at (by omega) hs) ?_)
  have h3 := (h2.sI (a := n) (k := 5) (z := 0)).sI (a := n) (k := 6) (z := -1)
  have f3 := (f2.sI (a := n) (k := 5) (z := 0) (Nat.le_refl _)).sI (a := n) (k := 6) (z := -1) (Nat.le_refl _)
  generalize sI (sI w2 n 5 0) n 6 (-1) = w3 at h3 f3 ⊢
  clear h2 f2
  have hP' : ∀ y j, P y j → y ≠ n := fun y j q => by have := hP y j q; omega
  refine q_row h3 (by omega) hs (sh_Wi_7 L hb) (by omega) (by decide) hP' (rf_Wi_7 28 9 26 hb) (fun j _ q => rq_wi hb q) (by omega) (fun w4 h4 f4 _ => ?_)
  refine q_row h4 (by omega) hs (sh_Wi_8 L hb) (by omega) (by decide) hP' (rf_Wi_8 28 9 26 hb) (fun j q1 q2 => by omega) (by omega) (fun w5 h5 f5 _ => ?_)
  refine q_row h5 (by omega) hs (sh_Wi_9 L hb) (by omega) (by decide) hP' (rf_Wi_9 28 9 26 hb) (fun j q1 q2 => by omega) (by omega) (fun w6 h6 f6 _ => ?_)
  refine q_row h6 (by omega) hs (sh_Wi_10 L hb) (by omega) (by decide) hP' (rf_Wi_10 28 9 26 hb) (fun j q1 q2 => by omega) (by omega) (fun w7 h7 f7 _ => ?_)
  refine q_row h7 (by omega) hs (sh_Wi_11 L hb) (by omega) (by decide) hP' (rf_Wi_11 28 9 26 hb) (fun j q1 q2 => by omega) (by omega) (fun w8 h8 f8 _ => ?_)
  refine q_row h8 (by omega) hs (sh_Wi_12 L hb) (by omega) (by decide) hP' (rf_Wi_12 28 9 26 hb) (fun j q1 q2 => by omega) (by omega) (fun w9 h9 f9 _ => ?_)
  have g9 := ((((((f3.tr (by omega) f4).tr (by omega) f5).tr (by omega) f6).tr (by omega) f7).tr (by omega) f8).tr (by omega) f9)
  clear f3 f4 f5 f6 f7 f8 f9 h3 h4 h5 h6 h7 h8
  have h9 : PO L (n + 7) (fun y j => P y j ∨ (y = n ∧ 12 + 1 ≤ j)) w9 := h9
  rw [h9.1]
  refine wp_call (i_Lw (isLw_of hb) h9 (fun y j q => by
    rcases q with q | q
    · have := hP y j q; omega
    · omega)) (fun w10 g => ?_)
  obtain ⟨h10, f10⟩ := g
  refine q_set h10 (by omega) hs (by omega) (sh_Lw L (isLw_of hb)) (by decide) (rf_Wi_13 28 9 26 hb) (fun j q1 q2 => by omega) (by omega) hP' (fun w11 h11 f11 => ?_)
  have h12 : PO L (n + 12) P w11 := po_close h11 (fun j q => rr_big hs z (by decide) q)
  have np : ∀ j, ¬ P n j := fun j q => hP' n j q rfl
  refine wp_call (i_clear (h12.at (by omega) hs) (h12.at (by omega) (sh_Wi_10 L hb)) (h12.at (by omega) (sh_Wi_12 L hb)) (h12.at (by omega) (sh_Lw L (isLw_of hb))) (h12.at (by omega) (sh_Wi_7 L hb)) (h12.rf (by omega) (np _) (rf_Wi_10 28 9 26 hb)) (h12.rf (by omega) (np _) (rf_Wi_12 28 9 26 hb)) (h12.rf (by omega) (np _) (rf_Wi_13 28 9 26 hb)) (h12.rf (by omega) (np _) (rf_Wi_7 28 9 26 hb))) (fun w13 g => wp_ret ?_)
  obtain ⟨g1, g2⟩ := g
  exact ⟨po_sm h12 g1.1 g1.2.1 g1.2.2.1, ((g9.tr (by omega) f10).all f11).tr (by omega) (FN.of g1 (fun a k q => q.1)), g2⟩
end MK
