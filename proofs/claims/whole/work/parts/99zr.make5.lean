/-! Level 3, the start: the class is made. -/
def ACC (b w : Wd) (c : Nat) : Prop := FN 6 b w ∧ wI w 6 1 = 0 ∧ (28 ≤ c → wI w 8 0 = -1 ∧ ∀ j, j < 17 → wL w 25 j = ky j) ∧ (40 ≤ c → WIF 28 w) ∧ (172 ≤ c → wI w 50 0 = 0 ∧ wI w 50 1 = 0) ∧ (176 ≤ c → wI w 173 0 = 0) ∧ ∀ i, i < 3 → 202 + 7 * i < c → wI w (202 + 7 * i) 0 = 0
section MH
variable {L n : Nat} {P P' : Nat → Nat → Prop} {w w1 b : Wd} {β : Type}
theorem ACC.fn {c : Nat} (h : ACC b w c) (f : FN c w w1) (hc : 8 ≤ c) : ACC b w1 c := by
  obtain ⟨h1, h2, h3, h4, h5, h6, h7⟩ := h
  refine ⟨h1.tr (by omega) f, (f 6 1 (by omega)).1.trans h2, fun q => ⟨(f 8 0 (by omega)).1.trans (h3 q).1, fun j hj => (f 25 j (by omega)).2.trans ((h3 q).2 j hj)⟩, fun q => ?_, fun q => ⟨(f _ _ (by omega)).1.trans (h5 q).1, (f _ _ (by omega)).1.trans (h5 q).2⟩, fun q => (f _ _ (by omega)).1.trans (h6 q), fun i hi q => (f _ _ (by omega)).1.trans (h7 i hi q)⟩
  obtain ⟨⟨a0, a1, a2, a3⟩, a4, a5, a6, a7, a8⟩ := h4 q
  exact ⟨⟨(f _ _ (by omega)).1.trans a0, (f _ _ (by omega)).1.trans a1, (f _ _ (by omega)).1.trans a2, (f _ _ (by omega)).1.trans a3⟩, (f _ _ (by omega)).1.trans a4, (f _ _ (by omega)).1.trans a5, (f _ _ (by omega)).1.trans a6, (f _ _ (by omega)).1.trans a7, fun l hl => (f _ _ (by omega)).1.trans (a8 l hl)⟩
theorem ACC.all {c : Nat} (h : ACC b w c) (f : ∀ a j, wI w1 a j = wI w a j ∧ wL w1 a j = wL w a j) (hc : 8 ≤ c) : ACC b w1 c := h.fn (fun a j _ => f a j) hc
/-- no new fact between c and c' -/
theorem ACC.up {c c' : Nat} (h : ACC b w c) (hc : c ≤ c') (h28 : 28 ≤ c) (h40 : 40 ≤ c' → 40 ≤ c) (h173 : 172 ≤ c' → 172 ≤ c) (h177 : 176 ≤ c' → 176 ≤ c) (h203 : c' ≤ 202) : ACC b w c' :=
  ⟨h.1, h.2.1, fun q => h.2.2.1 h28, fun q => h.2.2.2.1 (h40 q), fun q => h.2.2.2.2.1 (h173 q), fun q => h.2.2.2.2.2.1 (h177 q), fun i hi q => absurd q (by omega)⟩
theorem i_begin48 {w0 : Wd} (hA : wsh w0 40 = (9, 6)) (h43 : wsh w0 43 = (20, 6)) (r5 : wR w0 40 5 = 43) : ∀ (r m k : Nat) (w : Wd), k + r = 6 → r < m → Fr P43 w0 w → Wp (St_begin_48 m 40 (k : Int) w) (fun q => Fr P43 w0 q)
  | _, 0, _, _, _, hm, _ => absurd hm (by omega)
  | 0, m + 1, k, w, hk, _, hF => by
    rw [St_begin_48]
    exact wp_pos (by omega) (wp_ret hF)
  | r + 1, m + 1, k, w, hk, hm, hF => by
    have s1 : wsh w 40 = (9, 6) := by rw [hF.1.1]; exact hA
    have s4 : wsh w 43 = (20, 6) := by rw [hF.1.1]; exact h43
    have sr : wR w 40 5 = 43 := by rw [hF.1.2]; exact r5
    rw [St_begin_48]
    refine wp_neg (by omega) (x_gR s1 sr (by decide) (x_wI s4 (by omega) ?_))
    rw [Int.toNat_natCast, w32_id (by omega) (by omega), show (k : Int) + 1 = ((k + 1 : Nat) : Int) by omega]
    exact i_begin48 hA h43 r5 r m (k + 1) _ (by omega) (by omega) (hF.sI rfl)
theorem i_begin (h : PO L n P w) (hn : 44 ≤ n) (hP : ∀ y j, P y j → 44 ≤ y) : Wp (St_begin 40 28 w) (fun w1 => Fr (PB 40) w w1 ∧ (wI w1 40 0 = 0 ∧ wI w1 40 1 = 0 ∧ wI w1 40 2 = -2 ∧ ∀ l, l < 6 → wI w1 41 l = wI w 29 l)) := by
  unfold St_begin St_begin_0
  generalize hFU : FU = fu; have hfu : 1000000 = fu := hFU
  have np : ∀ a j, a < 44 → ¬ P a j := fun a j ha q => by have := hP a j q; omega
  have s40 : SH L 40 = (9, 6) := rfl
  have s28 : SH L 28 = (10, 14) := rfl
  refine x_gd (h.at (by omega) s40) (x_pI (h.at (by omega) s40) (x_pI (h.sI.at (by omega) s40) (x_pI (h.sI.sI.at (by omega) s40) ?_)))
  generalize hw1 : sI (sI (sI w 40 0 0) 40 1 0) 40 2 (-2) = w1
  have f1 : Fr (PB 40) w w1 := by rw [← hw1]; exact ((fr_sI (by unfold PB; omega)).sI (by unfold PB; omega)).sI (by unfold PB; omega)
  have v1 : wI w1 40 0 = 0 ∧ wI w1 40 1 = 0 ∧ wI w1 40 2 = -2 := by rw [← hw1]; exact ⟨((wI_ne (by omega)).trans (wI_ne (by omega))).trans (wI_eq _ _ _ _), (wI_ne (by omega)).trans (wI_eq _ _ _ _), wI_eq _ _ _ _⟩
  clear hw1
  have h1 : PO L n P w1 := po_sm h f1.1 f1.2.1 f1.2.2.1
  refine x_gR (h1.at (by omega) s28) (h1.rf (b := 29) (by omega) (np _ _ (by omega)) rfl) (by decide) (x_gR (h1.at (by omega) s40) (h1.rf (b := 41) (by omega) (np _ _ (by omega)) rfl) (by decide) (x_cp (h1.at (a := 29) (c := 20) (m := 6) (by omega) rfl) (h1.at (a := 41) (c := 20) (m := 6) (by omega) rfl) (by decide) ?_))
  generalize hw2 : cpI w1 29 (0 : Int).toNat 41 (0 : Int).toNat (6 : Int).toNat = w2
  have f2 : Fr (PB 40) w w2 := by rw [← hw2]; exact f1.cpI (fun k _ _ => by unfold PB; omega)
  have o2 : ∀ k, wI w2 40 k = wI w1 40 k := fun k => by rw [← hw2]; exact wI_cp (by omega)
  have y2 : ∀ l, l < 6 → wI w2 41 l = wI w 29 l := fun l hl => by
    rw [← hw2]
    show wI (cpI w1 29 0 41 0 6) 41 l = wI w 29 l
    rw [wI_cpe (by omega) (by omega), show 0 + (l - 0) = l by omega]
    exact f1.at _ _ (by unfold PB; omega)
  clear hw2
  have h2 : PO L n P w2 := po_sm h f2.1 f2.2.1 f2.2.2.1
  refine x_gR (h2.at (by omega) s28) (h2.rf (b := 32) (by omega) (np _ _ (by omega)) rfl) (by decide) (x_gR (h2.at (by omega) s40) (h2.rf (b := 42) (by omega) (np _ _ (by omega)) rfl) (by decide) (x_cp (h2.at (a := 32) (c := 20) (m := 36) (by omega) rfl) (h2.at (a := 42) (c := 20) (m := 36) (by omega) rfl) (by decide) ?_))
  generalize hw3 : cpI w2 32 (0 : Int).toNat 42 (0 : Int).toNat (36 : Int).toNat = w3
  have f3 : Fr (PB 40) w w3 := by rw [← hw3]; exact f2.cpI (fun k _ _ => by unfold PB; omega)
  have o3 : ∀ k, wI w3 40 k = wI w1 40 k := fun k => by rw [← hw3]; exact (wI_cp (by omega)).trans (o2 k)
  have y3 : ∀ k, wI w3 41 k = wI w2 41 k := fun k => by rw [← hw3]; exact wI_cp (by omega)
  clear hw3
  have h3 : PO L n P w3 := po_sm h f3.1 f3.2.1 f3.2.2.1
  refine wp_use (i_begin48 (h3.at (by omega) s40) (h3.at (a := 43) (c := 20) (m := 6) (by omega) rfl) (h3.rf (by omega) (np _ _ (by omega)) rfl) 6 fu 0 w3 rfl (by omega) (Fr.rf w3)) (fun w4 f4 => ?_)
  have o4 : ∀ k, wI w4 40 k = wI w1 40 k := fun k => (f4.at 40 k (by unfold P43; omega)).trans (o3 k)
  exact ⟨f3.tr (f4.mono (fun a k q => by unfold P43 at q; unfold PB; omega)), (o4 0).trans v1.1, (o4 1).trans v1.2.1, (o4 2).trans v1.2.2, fun l hl => (f4.at 41 l (by unfold P43; omega)).trans ((y3 l).trans (y2 l hl))⟩
theorem i_Hh127 (hP : ∀ y j, ¬ P y j) : ∀ (r m i : Nat) (w : Wd), i + r = 3 → r < m → PO L (202 + 7 * i) (fun y j => P y j ∨ (y = 172 ∧ i ≤ j)) w → ACC b w (202 + 7 * i) → Wp (Hh_init_127 m 6 (i : Int) w) (fun w1 => PO L 223 P w1 ∧ ACC b w1 223 ∧ (wI w1 40 0 = 0 ∧ wI w1 40 1 = 0 ∧ wI w1 40 2 = -2 ∧ ∀ l, l < 6 → wI w1 41 l = 0))
  | r, 0, i, w, _, hm, _, _ => absurd hm (by omega)
  | 0, m + 1, i, w, hi, hm, h, hA => by
    have hi : i = 3 := hi
    subst hi
    have h : PO L 223 P w := po_close h (fun j q => rr_big (L := L) (a := 172) (t := 25) (m := 3) rfl (by decide) (by decide) q)
    have hA : ACC b w 223 := hA
    rw [Hh_init_127]
    unfold Hh_init_151
    refine wp_pos (by omega) (x_gR (h.at (a := 6) (c := 11) (m := 12) (by omega) rfl) (h.rf (b := 40) (by omega) (hP _ _) rfl) (by decide) (x_gR (h.at (a := 6) (c := 11) (m := 12) (by omega) rfl) (h.rf (b := 28) (by omega) (hP _ _) rfl) (by decide) (wp_call (i_begin h (by omega) (fun y j q => absurd q (hP y j))) (fun w1 g => wp_ret ?_))))
    obtain ⟨g1, g2⟩ := g
    have n1 : ∀ a j, ¬ (40 ≤ a ∧ a ≤ 43) → wI w1 a j = wI w a j := fun a j q => g1.at a j q
    obtain ⟨h1, h2, h3, h4, h5, h6, h7⟩ := hA
    refine ⟨po_sm h g1.1 g1.2.1 g1.2.2.1, ⟨h1.tr (by omega) (FN.of g1 (n := 6) (fun a k q => by unfold PB at q; omega)), (n1 _ _ (by omega)).trans h2, fun q => ⟨(n1 _ _ (by omega)).trans (h3 q).1, fun j hj => by rw [g1.2.2.2.1]; exact (h3 q).2 j hj⟩, fun q => ?_, fun q => ⟨(n1 _ _ (by omega)).trans (h5 q).1, (n1 _ _ (by omega)).trans (h5 q).2⟩, fun q => (n1 _ _ (by omega)).trans (h6 q), fun i hi q => (n1 _ _ (by omega)).trans (h7 i hi q)⟩, g2.1, g2.2.1, g2.2.2.1, fun l hl => (g2.2.2.2 l hl).trans ((h4 (by omega)).2.2.2.2.2 l hl)⟩
    obtain ⟨⟨a0, a1, a2, a3⟩, a4, a5, a6, a7, a8⟩ := h4 q
    exact ⟨⟨(n1 _ _ (by omega)).trans a0, (n1 _ _ (by omega)).trans a1, (n1 _ _ (by omega)).trans a2, (n1 _ _ (by omega)).trans a3⟩, (n1 _ _ (by omega)).trans a4, (n1 _ _ (by omega)).trans a5, (n1 _ _ (by omega)).trans a6, (n1 _ _ (by omega)).trans a7, fun l hl => (n1 _ _ (by omega)).trans (a8 l hl)⟩
  | r + 1, m + 1, i, w, hi, hm, h, hA => by
    have hi3 : i < 3 := by omega
    have hsl := isSl_in173 hi3
    rw [Hh_init_127]
    refine wp_neg (by omega) (x_gR (h.at (a := 6) (c := 11) (m := 12) (by omega) rfl) (h.rf (b := 172) (by omega) (fun q => by
      rcases q with q | q
      · exact hP _ _ q
      · omega) rfl) (by decide) ?_)
    rw [h.1]
    refine wp_call (i_Sl hsl h (fun y j q => by
      rcases q with q | q
      · exact absurd q (hP _ _)
      · omega)) (fun w2 g => ?_)
    obtain ⟨h2, f2, v2⟩ := g
    refine q_put h2 (by omega) (t := 25) (m := 3) rfl (by omega) (sh_Sl L hsl) (Or.inr ⟨rfl, rfl⟩) (by omega) (rq_173 hi3) (fun y j q => absurd q (hP _ _)) (fun w3 h3 f3 => ?_)
    rw [w32_id (by omega) (by omega), show (i : Int) + 1 = ((i + 1 : Nat) : Int) by omega]
    have hA2 := (hA.fn f2 (by omega)).all f3 (by omega)
    have v3 : wI w3 (202 + 7 * i) 0 = 0 := (f3 _ _).1.trans v2
    have e8 : 202 + 7 * (i + 1) = 202 + 7 * i + 7 := by omega
    refine i_Hh127 hP r m (i + 1) w3 (by omega) (by omega) (by rw [e8]; exact h3) ⟨hA2.1, hA2.2.1, fun q => hA2.2.2.1 (by omega), fun q => hA2.2.2.2.1 (by omega), fun q => hA2.2.2.2.2.1 (by omega), fun q => hA2.2.2.2.2.2.1 (by omega), fun k hk q => ?_⟩
    by_cases e : k = i
    · rw [e]; exact v3
    · exact hA2.2.2.2.2.2.2 k hk (by omega)
end MH
