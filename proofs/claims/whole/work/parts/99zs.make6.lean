/-! Level 3, the start: the class is made, at large. -/
section MI
variable {L : Nat} {w b : Wd}
def P6 (f y j : Nat) : Prop := False ∨ (y = 6 ∧ f ≤ j)
def P7 (f y j : Nat) : Prop := (False ∨ (y = 172 ∧ 0 ≤ j)) ∨ (y = 6 ∧ f ≤ j)
theorem p6_lt {f n : Nat} (hn : 6 < n) : ∀ y j, P6 f y j → y < n := fun y j q => by
  rcases q with q | q
  · exact q.elim
  · omega
theorem p7_lt {f n : Nat} (hn : 172 < n) : ∀ y j, P7 f y j → y < n := fun y j q => by
  rcases q with (q | q) | q
  · exact q.elim
  · omega
  · omega
theorem i_Hh9 (h : PO L 173 (P7 9) w) (hA : ACC b w 173) : Wp ((Pa_init (wn w) (nw w 3 3)).bind fun r97 => (fpR r97 6 11 9 (wn w)).bind fun w100 => (Ct_init (wn w100) (nw w100 1 3)).bind fun r108 => (fpR r108 6 11 10 (wn w100)).bind fun w111 => (Pl_init (wn w111) (nw w111 5 3)).bind fun r119 => (fpR r119 6 11 11 (wn w111)).bind fun w122 => Hh_init_127 FU 6 0 w122) (fun w1 => PO L 223 (fun _ _ => False) w1 ∧ ACC b w1 223 ∧ (wI w1 40 0 = 0 ∧ wI w1 40 1 = 0 ∧ wI w1 40 2 = -2 ∧ ∀ l, l < 6 → wI w1 41 l = 0)) := by
  generalize hFU : FU = fu; have hfu : 1000000 = fu := hFU
  have hs : SH L 6 = (11, 12) := rfl
  have F : ∀ y j : Nat, (False ∨ (y = 172 ∧ 0 ≤ j)) → y ≠ 6 := fun y j q => by
    rcases q with q | q
    · exact q.elim
    · omega
  rw [h.1]
  refine wp_call (i_Pa h (p7_lt (by omega))) (fun w2 g => ?_)
  obtain ⟨h2, f2, v2⟩ := g
  have h2 : PO L 176 (fun y j => (False ∨ (y = 172 ∧ 0 ≤ j)) ∨ (y = 6 ∧ 9 ≤ j)) w2 := h2
  refine q_set (P := fun y j => False ∨ (y = 172 ∧ 0 ≤ j)) h2 (by omega) hs (by omega) (b := 173) (c' := 3) (m' := 3) rfl (by decide) (k := 9) rfl (fun j q1 q2 => by omega) (by omega) F (fun w3 h3 f3 => ?_)
  have A2 := hA.fn f2 (by omega)
  have A3 : ACC b w3 176 := ACC.all (w := w2) ⟨A2.1, A2.2.1, fun _ => A2.2.2.1 (by omega), fun _ => A2.2.2.2.1 (by omega), fun _ => A2.2.2.2.2.1 (by omega), fun _ => v2, fun i hi q => absurd q (by omega)⟩ f3 (by omega)
  clear A2 f2 f3 h2 hA h v2
  have h3 : PO L 176 (P7 10) w3 := h3
  rw [h3.1]
  refine wp_call (i_Ct h3 (p7_lt (by omega))) (fun w4 g => ?_)
  obtain ⟨h4, f4⟩ := g
  have h4 : PO L 186 (fun y j => (False ∨ (y = 172 ∧ 0 ≤ j)) ∨ (y = 6 ∧ 10 ≤ j)) w4 := h4
  refine q_set (P := fun y j => False ∨ (y = 172 ∧ 0 ≤ j)) h4 (by omega) hs (by omega) (b := 176) (c' := 1) (m' := 3) rfl (by decide) (k := 10) rfl (fun j q1 q2 => by omega) (by omega) F (fun w5 h5 f5 => ?_)
  have A5 : ACC b w5 186 := ACC.all ((A3.fn f4 (by omega)).up (c' := 186) (by omega) (by omega) (by omega) (by omega) (by omega) (by omega)) f5 (by omega)
  clear f4 f5 h4 A3 h3
  have h5 : PO L 186 (P7 11) w5 := h5
  rw [h5.1]
  refine wp_call (i_Pl h5 (p7_lt (by omega))) (fun w6 g => ?_)
  obtain ⟨h6, f6⟩ := g
  have h6 : PO L 202 (fun y j => (False ∨ (y = 172 ∧ 0 ≤ j)) ∨ (y = 6 ∧ 11 ≤ j)) w6 := h6
  refine q_set (P := fun y j => False ∨ (y = 172 ∧ 0 ≤ j)) h6 (by omega) hs (by omega) (b := 186) (c' := 5) (m' := 3) rfl (by decide) (k := 11) rfl (fun j q1 q2 => by omega) (by omega) F (fun w7 h7 f7 => ?_)
  have A7 : ACC b w7 202 := ACC.all ((A5.fn f6 (by omega)).up (c' := 202) (by omega) (by omega) (by omega) (by omega) (by omega) (by omega)) f7 (by omega)
  clear f6 f7 h6 A5 h5
  have h8 : PO L 202 (fun y j => False ∨ (y = 172 ∧ 0 ≤ j)) w7 := po_close h7 (fun j q => rr_big (L := L) hs (by decide) (by decide) q)
  exact i_Hh127 (P := fun _ _ => False) (fun _ _ q => q) 3 fu 0 w7 rfl (by omega) h8 A7
theorem i_Hh (h : PO L 6 (fun _ _ => False) w) (hT : TX2 w) : Wp (Hh_init 6 (nw w 11 12)) (fun w1 => PO L 223 (fun _ _ => False) w1 ∧ ACC w w1 223 ∧ (wI w1 40 0 = 0 ∧ wI w1 40 1 = 0 ∧ wI w1 40 2 = -2 ∧ ∀ l, l < 6 → wI w1 41 l = 0)) := by
  have hs : SH L 6 = (11, 12) := rfl
  have F : ∀ y j : Nat, (fun (_ _ : Nat) => False) y j → y ≠ 6 := fun y j q => q.elim
  obtain ⟨h1, f1, -⟩ := q_new h hs
  generalize nw w 11 12 = w1 at h1 f1
  unfold Hh_init Hh_init_0
  refine x_gd (h1.at (by omega) hs) (x_tg (h1.at (by omega) hs) ?_)
  refine q_row h1 (by omega) hs (m := 2000) rfl (by decide) (by decide) F (k := 0) rfl (fun j q1 q2 => by omega) (by omega) (fun w2 h2 f2 _ => ?_)
  refine x_pI (h2.at (by omega) hs) ?_
  have h3 := h2.sI (a := 6) (k := 1) (z := 0)
  have f3 : FN 6 w (sI w2 6 1 0) := (f1.tr (by omega) f2).sI (by omega)
  have v3 : wI (sI w2 6 1 0) 6 1 = 0 := wI_eq _ _ _ _
  generalize sI w2 6 1 0 = w3 at h3 f3 v3 ⊢
  clear f1 f2 h1 h2
  have h3 : PO L 8 (P6 1) w3 := h3
  have hT3 : TX2 w3 := ⟨h3.at (by omega) rfl, h3.at (by omega) rfl, h3.rf (by omega) (fun q => by
    rcases q with q | q
    · exact q
    · omega) rfl, (f3 2 1 (by omega)).1.trans hT.2.2.2.1, fun i hi => (f3 3 i (by omega)).1.trans (hT.2.2.2.2 i hi)⟩
  rw [h3.1]
  refine wp_call (i_Rd h3 (p6_lt (by omega)) (fun y j q => by
    rcases q with q | q
    · exact q.elim
    · omega) hT3) (fun w4 g => ?_)
  obtain ⟨h4, f4, v4, l4⟩ := g
  have h4 : PO L 28 (fun y j => (fun (_ _ : Nat) => False) y j ∨ (y = 6 ∧ 1 ≤ j)) w4 := h4
  refine q_set h4 (by omega) hs (by omega) (b := 8) (c' := 6) (m' := 10) rfl (by decide) (k := 2) rfl (fun j q1 q2 => by rw [show j = 1 by omega]; rfl) (by omega) F (fun w5 h5 f5 => ?_)
  have A5 : ACC w w5 28 := ACC.all (w := w4) ⟨f3.tr (by omega) f4, (f4 6 1 (by omega)).1.trans v3, fun _ => ⟨v4, l4⟩, fun q => absurd q (by omega), fun q => absurd q (by omega), fun q => absurd q (by omega), fun i hi q => absurd q (by omega)⟩ f5 (by omega)
  clear f3 f4 f5 h3 h4 v3 v4 l4 hT3
  have h5 : PO L 28 (P6 3) w5 := h5
  rw [h5.1]
  refine wp_call (i_Wi (Or.inr rfl) h5 (p6_lt (by omega))) (fun w6 g => ?_)
  obtain ⟨h6, f6, v6⟩ := g
  have h6 : PO L 40 (fun y j => (fun (_ _ : Nat) => False) y j ∨ (y = 6 ∧ 3 ≤ j)) w6 := h6
  refine q_set h6 (by omega) hs (by omega) (b := 28) (c' := 10) (m' := 14) rfl (by decide) (k := 3) rfl (fun j q1 q2 => by omega) (by omega) F (fun w7 h7 f7 => ?_)
  have A6 := A5.fn f6 (by omega)
  have A7 : ACC w w7 40 := ACC.all (w := w6) ⟨A6.1, A6.2.1, fun _ => A6.2.2.1 (by omega), fun _ => v6, fun q => absurd q (by omega), fun q => absurd q (by omega), fun i hi q => absurd q (by omega)⟩ f7 (by omega)
  clear A5 A6 f6 f7 h5 h6 v6
  have h7 : PO L 40 (P6 4) w7 := h7
  rw [h7.1]
  refine wp_call (i_St isSt_40 h7 (p6_lt (by omega))) (fun w8 g => ?_)
  obtain ⟨h8, f8⟩ := g
  have h8 : PO L 44 (fun y j => (fun (_ _ : Nat) => False) y j ∨ (y = 6 ∧ 4 ≤ j)) w8 := h8
  refine q_set h8 (by omega) hs (by omega) (b := 40) (c' := 9) (m' := 6) rfl (by decide) (k := 4) rfl (fun j q1 q2 => by omega) (by omega) F (fun w9 h9 f9 => ?_)
  have A9 : ACC w w9 44 := ACC.all ((A7.fn f8 (by omega)).up (c' := 44) (by omega) (by omega) (by omega) (by omega) (by omega) (by omega)) f9 (by omega)
  clear A7 f8 f9 h7 h8
  have h9 : PO L 44 (P6 5) w9 := h9
  rw [h9.1]
  refine wp_call (i_St isSt_44 h9 (p6_lt (by omega))) (fun w10 g => ?_)
  obtain ⟨h10, f10⟩ := g
  have h10 : PO L 48 (fun y j => (fun (_ _ : Nat) => False) y j ∨ (y = 6 ∧ 5 ≤ j)) w10 := h10
  refine q_set h10 (by omega) hs (by omega) (b := 44) (c' := 9) (m' := 6) rfl (by decide) (k := 5) rfl (fun j q1 q2 => by omega) (by omega) F (fun w11 h11 f11 => ?_)
  have A11 : ACC w w11 48 := ACC.all ((A9.fn f10 (by omega)).up (c' := 48) (by omega) (by omega) (by omega) (by omega) (by omega) (by omega)) f11 (by omega)
  clear A9 f10 f11 h9 h10
  have h11 : PO L 48 (P6 6) w11 := h11
  rw [h11.1]
  refine wp_call (i_Bk isBk_48 h11 (p6_lt (by omega))) (fun w12 g => ?_)
  obtain ⟨h12, f12⟩ := g
  have h12 : PO L 50 (fun y j => (fun (_ _ : Nat) => False) y j ∨ (y = 6 ∧ 6 ≤ j)) w12 := h12
  refine q_set h12 (by omega) hs (by omega) (b := 48) (c' := 0) (m' := 1) rfl (by decide) (k := 6) rfl (fun j q1 q2 => by omega) (by omega) F (fun w13 h13 f13 => ?_)
  have A13 : ACC w w13 50 := ACC.all ((A11.fn f12 (by omega)).up (c' := 50) (by omega) (by omega) (by omega) (by omega) (by omega) (by omega)) f13 (by omega)
  clear A11 f12 f13 h11 h12
  have h13 : PO L 50 (P6 7) w13 := h13
  rw [h13.1]
  refine wp_call (i_Ps h13 (p6_lt (by omega))) (fun w14 g => ?_)
  obtain ⟨h14, f14, v14⟩ := g
  have h14 : PO L 172 (fun y j => (fun (_ _ : Nat) => False) y j ∨ (y = 6 ∧ 7 ≤ j)) w14 := h14
  refine q_set h14 (by omega) hs (by omega) (b := 50) (c' := 4) (m' := 3) rfl (by decide) (k := 7) rfl (fun j q1 q2 => by omega) (by omega) F (fun w15 h15 f15 => ?_)
  have A14 := A13.fn f14 (by omega)
  have A15 : ACC w w15 172 := ACC.all (w := w14) ⟨A14.1, A14.2.1, fun _ => A14.2.2.1 (by omega), fun _ => A14.2.2.2.1 (by omega), fun _ => v14, fun q => absurd q (by omega), fun i hi q => absurd q (by omega)⟩ f15 (by omega)
  clear A13 A14 f14 f15 h13 h14 v14
  have e : nwA w15 25 3 = some (nw w15 25 3) := by unfold nwA; rw [if_pos (by decide)]; rfl
  refine wp_eq e ?_
  rw [h15.1]
  obtain ⟨h16, f16, -⟩ := q_new (t := 25) (m := 3) h15 rfl
  generalize nw w15 25 3 = w16 at h16 f16 ⊢
  clear e h15
  have h17 : PO L 173 (fun y j => (False ∨ (y = 172 ∧ 0 ≤ j)) ∨ (y = 6 ∧ 8 ≤ j)) w16 := po_iff h16 (fun a j _ => by
    refine ⟨fun q => ?_, fun q => ?_⟩
    · rcases q with (q | q) | q
      · exact q.elim
      · exact Or.inr q
      · exact Or.inl (Or.inr q)
    · rcases q with (q | q) | q
      · exact q.elim
      · exact Or.inr q
      · exact Or.inl (Or.inr q))
  refine q_set (P := fun y j => False ∨ (y = 172 ∧ 0 ≤ j)) h17 (by omega) hs (by omega) (b := 172) (c' := 25) (m' := 3) rfl (by decide) (k := 8) rfl (fun j q1 q2 => by omega) (by omega) (fun y j q => by
    rcases q with q | q
    · exact q.elim
    · omega) (fun w17 h18 f17 => ?_)
  have A17 : ACC w w17 173 := ACC.all ((A15.fn f16 (by omega)).up (c' := 173) (by omega) (by omega) (by omega) (by omega) (by omega) (by omega)) f17 (by omega)
  exact i_Hh9 h18 A17
end MI
