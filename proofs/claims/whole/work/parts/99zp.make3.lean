/-! Level 3, the start: the scanner and its words. -/
def sts : Nat → Nat × (Nat → Int)
  | 0 => (0, fun _ => 0)
  | i + 1 => if bytW.getD i 0 = 32 then ((sts i).1 + 1, (sts i).2) else ((sts i).1, fun j => if j = (sts i).1 then w64 (w64 ((sts i).2 (sts i).1 * 27) + w32 (w32 (bytW.getD i 0 - 97) + 1)) else (sts i).2 j)
theorem sts_lt : ∀ i, i < 86 → (sts i).1 < 17 := by decide +kernel
theorem sts_ky : ∀ j, j < 17 → (sts 86).2 j = ky j := by decide +kernel
theorem byt_ok : ∀ i, i < 86 → 0 ≤ bytW.getD i 0 ∧ bytW.getD i 0 ≤ 127 := by decide +kernel
/-- the text of the words -/
def TX2 (w : Wd) : Prop := wsh w 2 = (13, 2) ∧ wsh w 3 = (31, 86) ∧ wR w 2 0 = 3 ∧ wI w 2 1 = 0 ∧ ∀ i, i < 86 → wI w 3 i = bytW.getD i 0
section MS
variable {L n : Nat} {P P' : Nat → Nat → Prop} {w w1 : Wd} {β : Type}
theorem t_len (h : TX2 w) : Js_length 2 w = some (86, w) := by
  obtain ⟨h1, h2, h3, h4, h5⟩ := h
  have cod : Js_coder 2 w = some (0, w) := by
    refine wp_out ?_
    unfold Js_coder Js_coder_0 Js_coder_14
    refine x_gd h1 (wp_neg (by decide) (x_gI h1 ?_))
    rw [h4]
    exact wp_ret rfl
  refine wp_out ?_
  unfold Js_length Js_length_0
  refine x_gd h1 (x_gR h1 h3 (by decide) (x_al h2 (by decide) (wp_eq cod (wp_ret ?_))))
  rw [show oshr ((86 : Nat) : Int) 0 = 86 by decide +kernel]
theorem t_char {i : Nat} (hi : i < 86) (h : TX2 w) : Js_charAt 2 (i : Int) w = some (bytW.getD i 0, w) := by
  obtain ⟨h1, h2, h3, h4, h5⟩ := h
  have lat : Js_isLatin1 2 w = some (1, w) := by
    refine wp_out ?_
    unfold Js_isLatin1 Js_isLatin1_0 Js_isLatin1_18
    refine x_gd h1 (wp_neg (by decide) (x_gI h1 ?_))
    rw [h4]
    exact wp_pos rfl (wp_rZr (by decide) rfl)
  have b := byt_ok i hi
  have e := ub_and (b := bytW.getD i 0) (by omega)
  have eu : ub (bytW.getD i 0) = bytW.getD i 0 := by unfold ub; rw [if_neg (by omega)]
  have rc : rC (bytW.getD i 0) w = some (bytW.getD i 0, w) := by unfold rC; rw [if_pos (by omega)]
  refine wp_out ?_
  unfold Js_charAt Js_charAt_0 Jl_charAt Jl_charAt_0
  refine x_gd h1 (wp_eq lat (wp_neg (show ¬ (1 : Int) = 0 by decide) (x_gR h1 h3 (by decide) ?_)))
  refine wp_call (P := fun q => q = (bytW.getD i 0, w)) (x_al h2 (by decide) ?_) (fun q hq => ?_)
  · have chk : Js_checkIndex (i : Int) ((86 : Nat) : Int) w = some w := by
      unfold Js_checkIndex Js_checkIndex_0 Jp_checkIndex Jp_checkIndex_0
      rw [if_neg (show ¬ ((i : Int) < 0) by omega), if_pos (show (i : Int) < ((86 : Nat) : Int) by omega)]
      rfl
    refine wp_eq chk (x_rB h2 (by omega) ?_)
    rw [Int.toNat_natCast, h5 i hi, e.1, eu, show o2c (bytW.getD i 0) = bytW.getD i 0 by rw [← eu]; exact e.2.1]
    exact ⟨_, rc, rfl⟩
  · subst hq
    exact ⟨_, rc, rfl⟩
theorem i_Sc60 {w0 : Wd} (hT : TX2 w0) (h21 : wsh w0 21 = (7, 7)) (h25 : wsh w0 25 = (22, 17)) (r3 : wR w0 21 3 = 25) : ∀ (r m i : Nat) (w : Wd), i + r = 86 → r < m → FL (fun _ _ => False) (fun a _ => a = 25) w0 w → (∀ j, wL w 25 j = (sts i).2 j) → Wp (Sc_init_60 m 21 ((sts i).1 : Int) (i : Int) w) (fun w1 => FL (fun _ _ => False) (fun a _ => a = 25) w0 w1 ∧ ∀ j, wL w1 25 j = (sts 86).2 j)
  | r, 0, i, w, _, hm, _, _ => absurd hm (by omega)
  | 0, m + 1, i, w, hi, hm, hF, hL => by
    have hi : i = 86 := hi
    subst hi
    have hT1 : TX2 w := ⟨by rw [hF.2.1.1]; exact hT.1, by rw [hF.2.1.1]; exact hT.2.1, by rw [hF.2.1.2]; exact hT.2.2.1, (hF.i _ _ id).trans hT.2.2.2.1, fun i hi => (hF.i _ _ id).trans (hT.2.2.2.2 i hi)⟩
    rw [Sc_init_60]
    refine wp_eq (t_len hT1) ?_
    unfold Sc_init_119
    exact wp_pos (show (86 : Int) ≤ ((86 : Nat) : Int) by omega) (wp_ret ⟨hF, hL⟩)
  | r + 1, m + 1, i, w, hi, hm, hF, hL => by
    have hT1 : TX2 w := ⟨by rw [hF.2.1.1]; exact hT.1, by rw [hF.2.1.1]; exact hT.2.1, by rw [hF.2.1.2]; exact hT.2.2.1, (hF.i _ _ id).trans hT.2.2.2.1, fun i hi => (hF.i _ _ id).trans (hT.2.2.2.2 i hi)⟩
    have s21 : wsh w 21 = (7, 7) := by rw [hF.2.1.1]; exact h21
    have s25 : wsh w 25 = (22, 17) := by rw [hF.2.1.1]; exact h25
    have sr : wR w 21 3 = 25 := by rw [hF.2.1.2]; exact r3
    have hi86 : i < 86 := by omega
    have k17 := sts_lt i hi86
    rw [Sc_init_60]
    refine wp_eq (t_len hT1) (wp_neg (show ¬ (86 : Int) ≤ (i : Int) by omega) (wp_neg (by omega) (wp_eq (t_char hi86 hT1) ?_)))
    unfold Sc_init_113
    show Wp (if bytW.getD i 0 = 32 then Sc_init_60 m 21 (w32 (((sts i).1 : Int) + 1)) (w32 ((i : Int) + 1)) w else _) _
    have ei : w32 ((i : Int) + 1) = ((i + 1 : Nat) : Int) := by rw [w32_id (by omega) (by omega)]; omega
    have es : sts (i + 1) = if bytW.getD i 0 = 32 then ((sts i).1 + 1, (sts i).2) else ((sts i).1, fun j => if j = (sts i).1 then w64 (w64 ((sts i).2 (sts i).1 * 27) + w32 (w32 (bytW.getD i 0 - 97) + 1)) else (sts i).2 j) := rfl
    rw [ei]
    by_cases c : bytW.getD i 0 = 32
    · rw [if_pos c] at es
      refine wp_pos c ?_
      have e1 : w32 (((sts i).1 : Int) + 1) = ((sts (i + 1)).1 : Int) := by rw [es, w32_id (by omega) (by omega)]; show _ = (((sts i).1 + 1 : Nat) : Int); omega
      rw [e1]
      exact i_Sc60 hT h21 h25 r3 r m (i + 1) w (by omega) (by omega) hF (fun j => by rw [es]; exact hL j)
    · rw [if_neg c] at es
      refine wp_neg c (x_gR s21 sr (by decide) (x_gR s21 sr (by decide) (x_rL s25 (by omega) ?_)))
      rw [Int.toNat_natCast, hL]
      refine wp_eq (t_char hi86 hT1) ?_
      unfold Sc_joined Sc_joined_0
      refine wp_eq rfl ?_
      show Wp ((wrL w 25 ((sts i).1 : Int) (w64 (w64 ((sts i).2 (sts i).1 * 27) + w32 (w32 (bytW.getD i 0 - 97) + 1)))).bind fun w112 => Sc_init_60 m 21 ((sts i).1 : Int) ((i + 1 : Nat) : Int) w112) _
      refine x_wL s25 (by omega) ?_
      rw [Int.toNat_natCast]
      generalize hv : w64 (w64 ((sts i).2 (sts i).1 * 27) + w32 (w32 (bytW.getD i 0 - 97) + 1)) = v at es
      have e1 : (sts i).1 = (sts (i + 1)).1 := by rw [es]
      have key := i_Sc60 hT h21 h25 r3 r m (i + 1) (sL w 25 (sts i).1 v) (by omega) (by omega) (hF.sL rfl) (fun j => by
        rw [es]
        show _ = if j = (sts i).1 then v else (sts i).2 j
        by_cases q : j = (sts i).1
        · rw [if_pos q, q, wL_eq]
        · rw [if_neg q, wL_ne (by omega)]; exact hL j)
      rw [← e1] at key
      exact key
theorem i_Sc (h : PO L 21 P w) (hP : ∀ y j, P y j → y < 21) (hP6 : ∀ y j, P y j → 6 ≤ y) (hT : TX2 w) : Wp (Sc_init 21 (nw w 7 7)) (fun w1 => PO L 27 P w1 ∧ FN 21 w w1 ∧ ∀ j, j < 17 → wL w1 25 j = ky j) := by
  have hs : SH L 21 = (7, 7) := rfl
  obtain ⟨h1, f1, -⟩ := q_new h hs
  generalize nw w 7 7 = w1 at h1 f1
  unfold Sc_init Sc_init_0
  generalize hFU : FU = fu; have hfu : 1000000 = fu := hFU
  refine x_gd (h1.at (by omega) hs) (x_tg (h1.at (by omega) hs) ?_)
  have hP' : ∀ y j, P y j → y ≠ 21 := fun y j q => by have := hP y j q; omega
  refine q_row h1 (by omega) hs (m := 401) rfl (by decide) (by decide) hP' (k := 0) rfl (fun j q1 q2 => by omega) (by omega) (fun w3 h3 f3 _ => ?_)
  refine q_row h3 (by omega) hs (m := 401) rfl (by decide) (by decide) hP' (k := 1) rfl (fun j q1 q2 => by omega) (by omega) (fun w4 h4 f4 _ => ?_)
  refine q_row h4 (by omega) hs (m := 401) rfl (by decide) (by decide) hP' (k := 2) rfl (fun j q1 q2 => by omega) (by omega) (fun w5 h5 f5 _ => ?_)
  refine q_row h5 (by omega) hs (m := 17) rfl (by decide) (by decide) hP' (k := 3) rfl (fun j q1 q2 => by omega) (by omega) (fun w6 h6 f6 z6 => ?_)
  refine q_row h6 (by omega) hs (m := 0) rfl (by decide) (by decide) hP' (k := 4) rfl (fun j q1 q2 => by omega) (by omega) (fun w7 h7 f7 _ => ?_)
  have g7 := ((((f1.tr (by omega) f3).tr (by omega) f4).tr (by omega) f5).tr (by omega) f6).tr (by omega) f7
  have z7 : ∀ j, wL w7 25 j = 0 := fun j => (f7 25 j (by omega)).2.trans (z6 j).2
  clear f1 f3 f4 f5 f6 f7 z6 h1 h3 h4 h5 h6
  have h8 : PO L 27 P w7 := po_close h7 (fun j q => by
    by_cases e : j < 7
    · rcases (show j = 5 ∨ j = 6 by omega) with rfl | rfl <;> rfl
    · exact rr_big (L := L) hs (by decide) (by decide) (by omega))
  clear h7
  refine x_pI (h8.at (by omega) hs) (x_pI (h8.sI.at (by omega) hs) ?_)
  have h9 := (h8.sI (a := 21) (k := 5) (z := 0)).sI (a := 21) (k := 6) (z := 0)
  have g9 := (g7.sI (a := 21) (k := 5) (z := 0) (by omega)).sI (a := 21) (k := 6) (z := 0) (by omega)
  have z9 : ∀ j, wL (sI (sI w7 21 5 0) 21 6 0) 25 j = 0 := z7
  generalize sI (sI w7 21 5 0) 21 6 0 = w9 at h9 g9 z9 ⊢
  have hT9 : TX2 w9 := ⟨h9.at (by omega) rfl, h9.at (by omega) rfl, h9.rf (by omega) (fun q => by have := hP6 _ _ q; omega) rfl, (g9 2 1 (by omega)).1.trans hT.2.2.2.1, fun i hi => (g9 3 i (by omega)).1.trans (hT.2.2.2.2 i hi)⟩
  refine wp_use (i_Sc60 hT9 (h9.at (by omega) rfl) (h9.at (by omega) rfl) (h9.rf (by omega) (fun q => by have := hP _ _ q; omega) rfl) 86 fu 0 w9 rfl (by omega) (FL.rf w9) (fun j => z9 j)) (fun w10 g => ?_)
  obtain ⟨f10, l10⟩ := g
  exact ⟨po_sm h9 f10.2.1 f10.1.1 f10.1.2, fun a j ha => ⟨(f10.i a j id).trans (g9 a j ha).1, (f10.l a j (by omega)).trans (g9 a j ha).2⟩, fun j hj => (l10 j).trans (sts_ky j hj)⟩
end MS
