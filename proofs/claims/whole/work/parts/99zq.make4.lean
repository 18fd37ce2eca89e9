/-! Level 3, the start: the reader, the past, the papers, the slots, the class. -/
section MR
variable {L n : Nat} {P P' : Nat → Nat → Prop} {w w1 : Wd} {β : Type}
theorem i_Rd (h : PO L 8 P w) (hP : ∀ y j, P y j → y < 8) (hP6 : ∀ y j, P y j → 6 ≤ y) (hT : TX2 w) : Wp (Rd_init 8 (nw w 6 10)) (fun w1 => PO L 28 P w1 ∧ FN 8 w w1 ∧ wI w1 8 0 = -1 ∧ ∀ j, j < 17 → wL w1 25 j = ky j) := by
  have hs : SH L 8 = (6, 10) := rfl
  obtain ⟨h1, f1, -⟩ := q_new h hs
  generalize nw w 6 10 = w1 at h1 f1
  unfold Rd_init Rd_init_0
  refine x_gd (h1.at (by omega) hs) (x_tg (h1.at (by omega) hs) (x_pI (h1.at (by omega) hs) ?_))
  have h2 := h1.sI (a := 8) (k := 0) (z := -1)
  have f2 := f1.sI (a := 8) (k := 0) (z := -1) (by omega)
  have v2 : wI (sI w1 8 0 (-1)) 8 0 = -1 := wI_eq _ _ _ _
  generalize sI w1 8 0 (-1) = w2 at h2 f2 v2 ⊢
  clear h1 f1
  have hP' : ∀ y j, P y j → y ≠ 8 := fun y j q => by have := hP y j q; omega
  rw [h2.1]
  refine wp_call (i_Wi (n := 9) (Or.inl rfl) h2 (fun y j q => by
    rcases q with q | q
    · have := hP y j q; omega
    · omega)) (fun w3 g => ?_)
  obtain ⟨h3, f3, -⟩ := g
  refine q_set h3 (by omega) hs (by omega) (b := 9) (c' := 10) (m' := 14) rfl (by decide) (k := 1) rfl (fun j q1 q2 => by rw [show j = 0 by omega]; rfl) (by omega) hP' (fun w4 h4 f4 => ?_)
  refine x_pI (h4.at (by omega) hs) ?_
  have h5 := h4.sI (a := 8) (k := 2) (z := 0)
  have f5 : FN 8 w (sI w4 8 2 0) := ((f2.tr (by omega) f3).all f4).sI (by omega)
  have v5 : wI (sI w4 8 2 0) 8 0 = -1 := (wI_ne (by omega)).trans (((f4 8 0).1.trans (f3 8 0 (by omega)).1).trans v2)
  generalize sI w4 8 2 0 = w5 at h5 f5 v5 ⊢
  clear h2 f2 v2 h3 f3 h4 f4
  rw [h5.1]
  have hT5 : TX2 w5 := ⟨h5.at (by omega) rfl, h5.at (by omega) rfl, h5.rf (by omega) (fun q => by
    rcases q with q | q
    · have := hP6 _ _ q; omega
    · omega) rfl, (f5 2 1 (by omega)).1.trans hT.2.2.2.1, fun i hi => (f5 3 i (by omega)).1.trans (hT.2.2.2.2 i hi)⟩
  refine wp_call (i_Sc h5 (fun y j q => by
    rcases q with q | q
    · have := hP y j q; omega
    · omega) (fun y j q => by
    rcases q with q | q
    · exact hP6 _ _ q
    · omega) hT5) (fun w6 g => ?_)
  obtain ⟨h6, f6, l6⟩ := g
  refine q_set h6 (by omega) hs (by omega) (b := 21) (c' := 7) (m' := 7) rfl (by decide) (k := 3) rfl (fun j q1 q2 => by rw [show j = 2 by omega]; rfl) (by omega) hP' (fun w7 h7 f7 => ?_)
  refine q_row h7 (by omega) hs (m := 15) rfl (by decide) (by decide) hP' (k := 4) rfl (fun j q1 q2 => by omega) (by omega) (fun w8 h8 f8 _ => ?_)
  have f9 : FN 8 w w8 := ((f5.tr (by omega) f6).all f7).tr (by omega) f8
  have v9 : wI w8 8 0 = -1 := (f8 8 0 (by omega)).1.trans ((f7 8 0).1.trans ((f6 8 0 (by omega)).1.trans v5))
  have l9 : ∀ j, j < 17 → wL w8 25 j = ky j := fun j hj => (f8 25 j (by omega)).2.trans ((f7 25 j).2.trans (l6 j hj))
  have h9 : PO L 28 P w8 := po_close h8 (fun j q => by
    by_cases e : j < 10
    · rcases (show j = 5 ∨ j = 6 ∨ j = 7 ∨ j = 8 ∨ j = 9 by omega) with rfl | rfl | rfl | rfl | rfl <;> rfl
    · exact rr_big (L := L) hs (by decide) (by decide) (by omega))
  clear h5 f5 v5 h6 f6 l6 h7 f7 h8 f8
  refine x_pI (h9.at (by omega) hs) (x_pI (h9.sI.at (by omega) hs) (x_pL (h9.sI.sI.at (by omega) hs) (x_pI (h9.sI.sI.sL.at (by omega) hs) (x_pI (h9.sI.sI.sL.sI.at (by omega) hs) (wp_ret ?_)))))
  refine ⟨h9.sI.sI.sL.sI.sI, ((((f9.sI (by omega)).sI (by omega)).sL (by omega)).sI (by omega)).sI (by omega), ?_, fun j hj => ?_⟩
  · rw [wI_ne (by omega), wI_ne (by omega), wI_sL, wI_ne (by omega), wI_ne (by omega)]
    exact v9
  · rw [wL_sI, wL_sI, wL_ne (by omega), wL_sI, wL_sI]
    exact l9 j hj
/-- a row of references is told -/
theorem q_put {x f t m b c' m' : Nat} {F : Wd → Option β} {Q : β → Prop} (h : PO L n (fun y j => P y j ∨ (y = x ∧ f ≤ j)) w) (hx : x < n) (hc : SH L x = (t, m)) (hb : b < n) (hbs : SH L b = (c', m')) (h9 : (t = 24 ∧ c' = 9) ∨ (t = 25 ∧ c' = 8)) (hf : f < m) (hk : RQ x f = b) (hP : ∀ y j, P y j → y ≠ x) (kk : ∀ w1, PO L n (fun y j => P y j ∨ (y = x ∧ f + 1 ≤ j)) w1 → (∀ a j, wI w1 a j = wI w a j ∧ wL w1 a j = wL w a j) → Wp (F w1) Q) : Wp ((wrR w x (f : Int) b).bind F) Q := by
  refine wp_eq (x := sR w x f b) ?_ (kk _ (po_set h hx hk (fun y j hy hn => ?_) (fun q => ?_)) (fun a j => ⟨rfl, rfl⟩))
  · unfold wrR
    rw [h.at hx hc, h.at hb hbs, if_pos ⟨h9, by omega, by show (f : Int) < (m : Int); omega⟩, Int.toNat_natCast]
  · left
    refine ⟨fun q => ?_, fun q => ?_⟩
    · rcases q with q | q
      · exact Or.inl q
      · exact Or.inr ⟨q.1, by omega⟩
    · rcases q with q | q
      · exact Or.inl q
      · exact Or.inr ⟨q.1, by omega⟩
  · rcases q with q | q
    · exact hP _ _ q rfl
    · omega
theorem rq_52 {q : Nat} (h : q < 30) : RQ 51 q = 52 + 4 * q := by
  unfold RQ RR
  rw [if_neg (by omega), if_neg (by omega), if_neg (by omega)]
  exact (isSt_kept0 q h).2
theorem rq_173 {q : Nat} (h : q < 3) : RQ 172 q = 202 + 7 * q := by
  unfold RQ RR
  rw [if_neg (by omega), if_neg (by omega), if_neg (by omega)]
  exact (isSl_of0 q h).2
theorem i_Ps25 {w0 : Wd} (hP : ∀ y j, P y j → y < 50) : ∀ (r m i : Nat) (w : Wd), i + r = 30 → r < m → PO L (52 + 4 * i) (fun y j => P y j ∨ (y = 51 ∧ i ≤ j)) w → FN 52 w0 w → Wp (Ps_init_25 m 50 (i : Int) w) (fun w1 => PO L 172 P w1 ∧ FN 52 w0 w1)
  | r, 0, i, w, _, hm, _, _ => absurd hm (by omega)
  | 0, m + 1, i, w, hi, hm, h, hF => by
    have hi : i = 30 := hi
    subst hi
    rw [Ps_init_25]
    exact wp_pos (by omega) (wp_ret ⟨po_close h (fun j q => rr_big (L := L) (a := 51) (t := 24) (m := 30) rfl (by decide) (by decide) q), hF⟩)
  | r + 1, m + 1, i, w, hi, hm, h, hF => by
    have hi30 : i < 30 := by omega
    have hst := isSt_in52 hi30
    rw [Ps_init_25]
    refine wp_neg (by omega) (x_gR (h.at (a := 50) (c := 4) (m := 3) (by omega) rfl) (h.rf (b := 51) (by omega) (fun q => by
      rcases q with q | q
      · have := hP _ _ q; omega
      · omega) rfl) (by decide) ?_)
    rw [h.1]
    refine wp_call (i_St hst h (fun y j q => by
      rcases q with q | q
      · have := hP _ _ q; omega
      · omega)) (fun w2 g => ?_)
    obtain ⟨h2, f2⟩ := g
    refine q_put h2 (by omega) (t := 24) (m := 30) rfl (by omega) (sh_St L hst) (Or.inl ⟨rfl, rfl⟩) (by omega) (rq_52 hi30) (fun y j q => by have := hP _ _ q; omega) (fun w3 h3 f3 => ?_)
    rw [w32_id (by omega) (by omega), show (i : Int) + 1 = ((i + 1 : Nat) : Int) by omega]
    exact i_Ps25 hP r m (i + 1) w3 (by omega) (by omega) (by rw [show 52 + 4 * (i + 1) = 52 + 4 * i + 4 by omega]; exact h3) ((hF.tr (by omega) f2).all f3)
theorem i_Ps (h : PO L 50 P w) (hP : ∀ y j, P y j → y < 50) : Wp (Ps_init 50 (nw w 4 3)) (fun w1 => PO L 172 P w1 ∧ FN 50 w w1 ∧ (wI w1 50 0 = 0 ∧ wI w1 50 1 = 0)) := by
  have hs : SH L 50 = (4, 3) := rfl
  obtain ⟨h1, f1, -⟩ := q_new h hs
  generalize nw w 4 3 = w1 at h1 f1
  unfold Ps_init Ps_init_0
  generalize hFU : FU = fu; have hfu : 1000000 = fu := hFU
  refine x_gd (h1.at (by omega) hs) (x_tg (h1.at (by omega) hs) (x_pI (h1.at (by omega) hs) (x_pI (h1.sI.at (by omega) hs) ?_)))
  have h2 := (h1.sI (a := 50) (k := 0) (z := 0)).sI (a := 50) (k := 1) (z := 0)
  have f2 := (f1.sI (a := 50) (k := 0) (z := 0) (by omega)).sI (a := 50) (k := 1) (z := 0) (by omega)
  have v2 : wI (sI (sI w1 50 0 0) 50 1 0) 50 0 = 0 ∧ wI (sI (sI w1 50 0 0) 50 1 0) 50 1 = 0 := ⟨(wI_ne (by omega)).trans (wI_eq _ _ _ _), wI_eq _ _ _ _⟩
  generalize sI (sI w1 50 0 0) 50 1 0 = w2 at h2 f2 v2 ⊢
  clear h1 f1
  have e : nwA w2 24 30 = some (nw w2 24 30) := by unfold nwA; rw [if_pos (by decide)]; rfl
  refine wp_eq e ?_
  rw [h2.1]
  obtain ⟨h3, f3, -⟩ := q_new (t := 24) (m := 30) h2 rfl
  generalize nw w2 24 30 = w3 at h3 f3 ⊢
  have h4 : PO L 52 (fun y j => (P y j ∨ (y = 51 ∧ 0 ≤ j)) ∨ (y = 50 ∧ 0 ≤ j)) w3 := po_iff h3 (fun a j _ => by
    refine ⟨fun q => ?_, fun q => ?_⟩
    · rcases q with (q | q) | q
      · exact Or.inl (Or.inl q)
      · exact Or.inr q
      · exact Or.inl (Or.inr q)
    · rcases q with (q | q) | q
      · exact Or.inl (Or.inl q)
      · exact Or.inr q
      · exact Or.inl (Or.inr q))
  refine q_set h4 (by omega) hs (by omega) (b := 51) (c' := 24) (m' := 30) rfl (by decide) (k := 2) rfl (fun j q1 q2 => by rcases (show j = 0 ∨ j = 1 by omega) with rfl | rfl <;> rfl) (by omega) (fun y j q => by
    rcases q with q | q
    · have := hP _ _ q; omega
    · omega) (fun w5 h5 f5 => ?_)
  have h6 : PO L 52 (fun y j => P y j ∨ (y = 51 ∧ 0 ≤ j)) w5 := po_close h5 (fun j q => rr_big (L := L) hs (by decide) (by decide) q)
  refine wp_use (i_Ps25 hP 30 fu 0 w5 rfl (by omega) h6 (FN.rf 52 w5)) (fun w6 g => ?_)
  obtain ⟨h7, f7⟩ := g
  have fz : FN 50 w w6 := ((f2.tr (by omega) f3).all f5).tr (by omega) f7
  have v : ∀ j, wI w6 50 j = wI w2 50 j := fun j => (f7 50 j (by omega)).1.trans ((f5 50 j).1.trans (f3 50 j (by omega)).1)
  exact ⟨h7, fz, (v 0).trans v2.1, (v 1).trans v2.2⟩
theorem i_Pa (h : PO L 173 P w) (hP : ∀ y j, P y j → y < 173) : Wp (Pa_init 173 (nw w 3 3)) (fun w1 => PO L 176 P w1 ∧ FN 173 w w1 ∧ wI w1 173 0 = 0) := by
  have hs : SH L 173 = (3, 3) := rfl
  obtain ⟨h1, f1, -⟩ := q_new h hs
  generalize nw w 3 3 = w1 at h1 f1
  unfold Pa_init Pa_init_0
  refine x_gd (h1.at (by omega) hs) (x_tg (h1.at (by omega) hs) (x_pI (h1.at (by omega) hs) ?_))
  have h2 := h1.sI (a := 173) (k := 0) (z := 0)
  have f2 := f1.sI (a := 173) (k := 0) (z := 0) (by omega)
  have v2 : wI (sI w1 173 0 0) 173 0 = 0 := wI_eq _ _ _ _
  generalize sI w1 173 0 0 = w2 at h2 f2 v2 ⊢
  have hP' : ∀ y j, P y j → y ≠ 173 := fun y j q => by have := hP y j q; omega
  refine q_row h2 (by omega) hs (m := 20) rfl (by decide) (by decide) hP' (k := 1) rfl (fun j q1 q2 => by rw [show j = 0 by omega]; rfl) (by omega) (fun w3 h3 f3 _ => ?_)
  refine q_row h3 (by omega) hs (m := 20) rfl (by decide) (by decide) hP' (k := 2) rfl (fun j q1 q2 => by omega) (by omega) (fun w4 h4 f4 _ => ?_)
  exact wp_ret ⟨po_close h4 (fun j q => rr_big (L := L) hs (by decide) (by decide) q), (f2.tr (by omega) f3).tr (by omega) f4, (f4 173 0 (by omega)).1.trans ((f3 173 0 (by omega)).1.trans v2)⟩
theorem sz_rows {k : Nat} (hn : 6 ≤ n) : ∀ r, (∀ q, q < r → SH L (n + 1 + q) = (20, k)) → sz (n + 1 + r) = sz (n + 1) + r * k
  | 0, _ => by rw [Nat.zero_mul]; rfl
  | r + 1, h => by
    have ih := sz_rows hn r (fun q hq => h q (by omega))
    have e := sz_s (h r (by omega)) (by omega)
    rw [show n + 1 + (r + 1) = n + 1 + r + 1 by omega, e, ih, Nat.add_mul, Nat.one_mul]
    omega
theorem po_nw2 {r k : Nat} (h : PO L n P w) (hP : ∀ y j, P y j → y < n) (hs : SH L n = (26, r)) (hq : ∀ q, q < r → SH L (n + 1 + q) = (20, k)) (hr : ∀ j, RQ n j = if j < r then n + 1 + j else 0) : PO L (n + 1 + r) P (nw2 w r k) := by
  obtain ⟨rfl, h1, h2, h3, h4, h5, h6, h7⟩ := h
  have e1 := sz_s hs (by omega)
  have e2 := sz_rows h6 r hq
  refine ⟨rfl, fun a ha => ?_, fun a ha => ?_, fun a j ha hn => ?_, fun a j ha hp => ?_, fun a j ha => ?_, by omega, by show wz w + r + r * k + sz 6 = sz (wn w + 1 + r); omega⟩
  · show (if a = wn w then (26, r) else if wn w < a ∧ a < wn w + 1 + r then (20, k) else wsh w a) = SH L a
    by_cases e : a = wn w
    · rw [if_pos e, e, hs]
    · rw [if_neg e]
      by_cases e2 : wn w < a ∧ a < wn w + 1 + r
      · rw [if_pos e2]
        have := hq (a - wn w - 1) (by omega)
        rw [show wn w + 1 + (a - wn w - 1) = a by omega] at this
        exact this.symm
      · rw [if_neg e2]; exact h1 a (by omega)
  · show (if a = wn w then (26, r) else if wn w < a ∧ a < wn w + 1 + r then (20, k) else wsh w a) = (99, 0)
    rw [if_neg (by omega), if_neg (by omega)]; exact h2 a (by omega)
  · show (if a = wn w then (if j < r then wn w + 1 + j else 0) else if wn w < a ∧ a < wn w + 1 + r then 0 else wR w a j) = RQ a j
    by_cases e : a = wn w
    · rw [if_pos e, e, hr]
    · rw [if_neg e]
      by_cases e2 : wn w < a ∧ a < wn w + 1 + r
      · rw [if_pos e2]
        have := hq (a - wn w - 1) (by omega)
        rw [show wn w + 1 + (a - wn w - 1) = a by omega] at this
        exact (rr_row this (by omega) j).symm
      · rw [if_neg e2]; exact h3 a j (by omega) hn
  · have := hP a j hp
    show (if a = wn w then (if j < r then wn w + 1 + j else 0) else if wn w < a ∧ a < wn w + 1 + r then 0 else wR w a j) = 0
    rw [if_neg (by omega), if_neg (by omega)]
    exact h4 a j (by omega) hp
  · show (if a = wn w then (if j < r then wn w + 1 + j else 0) else if wn w < a ∧ a < wn w + 1 + r then 0 else wR w a j) = 0
    rw [if_neg (by omega), if_neg (by omega)]; exact h5 a j (by omega)
theorem fn_nw2 {r k : Nat} (hn : wn w = n) : FN n w (nw2 w r k) := fun a j ha => by
  show (if wn w ≤ a ∧ a < wn w + 1 + r then 0 else wI w a j) = _ ∧ (if wn w ≤ a ∧ a < wn w + 1 + r then 0 else wL w a j) = _
  rw [if_neg (by omega), if_neg (by omega)]
  exact ⟨rfl, rfl⟩
theorem rq_nw2 {a : Nat} (ha : a ≠ 6 ∧ a ≠ 8 ∧ a ≠ 21 ∧ a ≠ 1) (hs : SH L a = (26, 6)) (h : ∀ q, q < 6 → RR0 a q = a + 1 + q) (j : Nat) : RQ a j = if j < 6 then a + 1 + j else 0 := by
  by_cases c : j < 6
  · rw [if_pos c, ← h j c]
    unfold RQ RR
    rw [if_neg (by omega), if_neg (by omega), if_neg (by omega)]
  · rw [if_neg c]
    exact rr_big hs (by omega) (by decide) (by omega)
/-- a row of rows is made, and told -/
theorem q_rows {x f k c m' m : Nat} {z : Int} {F : Wd → Option β} {Q : β → Prop} (h : PO L n (fun y j => P y j ∨ (y = x ∧ f ≤ j)) w) (hx : x < n) (hc : SH L x = (c, m')) (hs : SH L n = (26, 6)) (hq : ∀ q, q < 6 → SH L (n + 1 + q) = (20, m)) (hr : ∀ j, RQ n j = if j < 6 then n + 1 + j else 0) (hz : z.toNat = m ∧ 0 ≤ z ∧ z ≤ 1000) (hP : ∀ y j, P y j → y < n ∧ y ≠ x) (hk : RQ x k = n) (hj : ∀ j, f ≤ j → j < k → RQ x j = 0) (hf : f ≤ k) (kk : ∀ w1, PO L (n + 7) (fun y j => P y j ∨ (y = x ∧ k + 1 ≤ j)) w1 → FN n w w1 → Wp (F w1) Q) : Wp ((nwM w 6 z).bind fun w8 => (fpR w8 x c k (wn w)).bind F) Q := by
  have e : nwM w 6 z = some (nw2 w 6 m) := by unfold nwM; rw [if_pos ⟨by decide, hz.2.1, by decide, hz.2.2⟩, hz.1]; rfl
  have hn := h.1
  have h1 := po_nw2 h (fun y j q => by
    rcases q with q | q
    · exact (hP y j q).1
    · omega) hs hq hr
  refine wp_eq e ?_
  rw [hn]
  exact q_set h1 (by omega) hc (by omega) hs (by decide) hk hj hf (fun y j q => (hP y j q).2) (fun w1 g1 g2 => kk w1 g1 ((fn_nw2 hn).all g2))
theorem i_Ct (h : PO L 176 P w) (hP : ∀ y j, P y j → y < 176) : Wp (Ct_init 176 (nw w 1 3)) (fun w1 => PO L 186 P w1 ∧ FN 176 w w1) := by
  have hs : SH L 176 = (1, 3) := rfl
  obtain ⟨h1, f1, -⟩ := q_new h hs
  generalize nw w 1 3 = w1 at h1 f1
  unfold Ct_init Ct_init_0
  refine x_gd (h1.at (by omega) hs) (x_tg (h1.at (by omega) hs) ?_)
  have hP' : ∀ y j, P y j → y ≠ 176 := fun y j q => by have := hP y j q; omega
  refine q_rows h1 (by omega) hs rfl (fun q hq => sh_in178 L hq) (rq_nw2 (L := L) (by decide) rfl (fun q hq => (in178 q hq).2)) (by decide) (fun y j q => by have := hP y j q; omega) (k := 0) rfl (fun j q1 q2 => by omega) (by omega) (fun w3 h3 f3 => ?_)
  refine q_row h3 (by omega) hs (m := 3) rfl (by decide) (by decide) hP' (k := 1) rfl (fun j q1 q2 => by omega) (by omega) (fun w4 h4 f4 _ => ?_)
  refine q_row h4 (by omega) hs (m := 6) rfl (by decide) (by decide) hP' (k := 2) rfl (fun j q1 q2 => by omega) (by omega) (fun w5 h5 f5 _ => ?_)
  exact wp_ret ⟨po_close h5 (fun j q => rr_big (L := L) hs (by decide) (by decide) q), ((f1.tr (by omega) f3).tr (by omega) f4).tr (by omega) f5⟩
theorem i_Pl (h : PO L 186 P w) (hP : ∀ y j, P y j → y < 186) : Wp (Pl_init 186 (nw w 5 3)) (fun w1 => PO L 202 P w1 ∧ FN 186 w w1) := by
  have hs : SH L 186 = (5, 3) := rfl
  obtain ⟨h1, f1, -⟩ := q_new h hs
  generalize nw w 5 3 = w1 at h1 f1
  unfold Pl_init Pl_init_0
  refine x_gd (h1.at (by omega) hs) (x_tg (h1.at (by omega) hs) ?_)
  have hP' : ∀ y j, P y j → y ≠ 186 := fun y j q => by have := hP y j q; omega
  refine q_row h1 (by omega) hs (m := 6) rfl (by decide) (by decide) hP' (k := 0) rfl (fun j q1 q2 => by omega) (by omega) (fun w3 h3 f3 _ => ?_)
  refine q_rows h3 (by omega) hs rfl (fun q hq => sh_in189 L hq) (rq_nw2 (L := L) (by decide) rfl (fun q hq => (in189 q hq).2)) (by decide) (fun y j q => by have := hP y j q; omega) (k := 1) rfl (fun j q1 q2 => by omega) (by omega) (fun w4 h4 f4 => ?_)
  refine q_rows h4 (by omega) hs rfl (fun q hq => sh_in196 L hq) (rq_nw2 (L := L) (by decide) rfl (fun q hq => (in196 q hq).2)) (by decide) (fun y j q => by have := hP y j q; omega) (k := 2) rfl (fun j q1 q2 => by omega) (by omega) (fun w5 h5 f5 => ?_)
  exact wp_ret ⟨po_close h5 (fun j q => rr_big (L := L) hs (by decide) (by decide) q), ((f1.tr (by omega) f3).tr (by omega) f4).tr (by omega) f5⟩
theorem i_Sl (hb : isSl n) (h : PO L n P w) (hP : ∀ y j, P y j → y < n) : Wp (Sl_init n (nw w 8 3)) (fun w1 => PO L (n + 7) P w1 ∧ FN n w w1 ∧ wI w1 n 0 = 0) := by
  have hs := sh_Sl L hb
  have z : n ≠ 1 ∧ RQ n 0 = 0 := by rcases hb with rfl | rfl | rfl <;> exact ⟨by decide, rfl⟩
  obtain ⟨h1, f1, -⟩ := q_new h hs
  generalize nw w 8 3 = w1 at h1 f1
  unfold Sl_init Sl_init_0
  refine x_gd (h1.at (by omega) hs) (x_tg (h1.at (by omega) hs) (x_pZ (h1.at (by omega) hs) (Or.inl rfl) ?_))
  have h2 := h1.sI (a := n) (k := 0) (z := 0)
  have f2 := f1.sI (a := n) (k := 0) (z := 0) (by omega)
  have v2 : wI (sI w1 n 0 0) n 0 = 0 := wI_eq _ _ _ _
  generalize sI w1 n 0 0 = w2 at h2 f2 v2 ⊢
  clear h1 f1
  have hP' : ∀ y j, P y j → y ≠ n := fun y j q => by have := hP y j q; omega
  rw [h2.1]
  refine wp_call (i_St (isSt_sl hb) h2 (fun y j q => by
    rcases q with q | q
    · have := hP y j q; omega
    · omega)) (fun w3 g => ?_)
  obtain ⟨h3, f3⟩ := g
  refine q_set h3 (by omega) hs (by omega) (sh_St L (isSt_sl hb)) (by decide) (k := 1) (rf_Sl_1 28 9 26 hb) (fun j q1 q2 => by rw [show j = 0 by omega]; exact z.2) (by omega) hP' (fun w4 h4 f4 => ?_)
  have h4 : PO L (n + 5) (fun y j => P y j ∨ (y = n ∧ 1 + 1 ≤ j)) w4 := h4
  rw [h4.1]
  refine wp_call (i_Bk (isBk_sl hb) h4 (fun y j q => by
    rcases q with q | q
    · have := hP y j q; omega
    · omega)) (fun w5 g => ?_)
  obtain ⟨h5, f5⟩ := g
  refine q_set h5 (by omega) hs (by omega) (sh_Bk L (isBk_sl hb)) (by decide) (k := 2) (rf_Sl_2 28 9 26 hb) (fun j q1 q2 => by omega) (by omega) hP' (fun w6 h6 f6 => wp_ret ?_)
  refine ⟨po_close h6 (fun j q => rr_big (L := L) hs z.1 (by decide) q), (((f2.tr (by omega) f3).all f4).tr (by omega) f5).all f6, ?_⟩
  exact (f6 n 0).1.trans ((f5 n 0 (by omega)).1.trans ((f4 n 0).1.trans ((f3 n 0 (by omega)).1.trans v2)))
end MR
