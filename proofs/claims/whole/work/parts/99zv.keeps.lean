/-! printed by genK.py: no method of the class that takes numbers writes into the script (cell 1) -/
def K0 (b w : Wd) : Prop := (wsh w 1).1 = 30 ∧ wsh w 1 = wsh b 1 ∧ wI w 1 = wI b 1
def GkW (b : Wd) (o : Option Wd) : Prop := ∀ r, o = some r → K0 b r
def GkP (b : Wd) (o : Option (Int × Wd)) : Prop := ∀ r, o = some r → K0 b r.2
section GK
variable {b w : Wd} {α : Type}
theorem bind_some {α β : Type} {o : Option α} {f : α → Option β} {r : β} (h : o.bind f = some r) : ∃ x, o = some x ∧ f x = some r := by
  cases o with
  | none => cases h
  | some x => exact ⟨x, rfl, h⟩
theorem bWW {o : Option Wd} {f : Wd → Option Wd} (h : GkW b o) (k : ∀ x, K0 b x → GkW b (f x)) : GkW b (o.bind f) := fun r e => by
  obtain ⟨x, e1, e2⟩ := bind_some e
  exact k x (h x e1) r e2
theorem bWP {o : Option Wd} {f : Wd → Option (Int × Wd)} (h : GkW b o) (k : ∀ x, K0 b x → GkP b (f x)) : GkP b (o.bind f) := fun r e => by
  obtain ⟨x, e1, e2⟩ := bind_some e
  exact k x (h x e1) r e2
theorem bPW {o : Option (Int × Wd)} {f : Int × Wd → Option Wd} (h : GkP b o) (k : ∀ x, K0 b x.2 → GkW b (f x)) : GkW b (o.bind f) := fun r e => by
  obtain ⟨x, e1, e2⟩ := bind_some e
  exact k x (h x e1) r e2
theorem bPP {o : Option (Int × Wd)} {f : Int × Wd → Option (Int × Wd)} (h : GkP b o) (k : ∀ x, K0 b x.2 → GkP b (f x)) : GkP b (o.bind f) := fun r e => by
  obtain ⟨x, e1, e2⟩ := bind_some e
  exact k x (h x e1) r e2
theorem vW {o : Option α} {f : α → Option Wd} (k : ∀ x, GkW b (f x)) : GkW b (o.bind f) := fun r e => by
  obtain ⟨x, e1, e2⟩ := bind_some e
  exact k x r e2
theorem vP {o : Option α} {f : α → Option (Int × Wd)} (k : ∀ x, GkP b (f x)) : GkP b (o.bind f) := fun r e => by
  obtain ⟨x, e1, e2⟩ := bind_some e
  exact k x r e2
theorem iW {c : Prop} [Decidable c] {A B : Option Wd} (h1 : GkW b A) (h2 : GkW b B) : GkW b (if c then A else B) := by split; exact h1; exact h2
theorem iP {c : Prop} [Decidable c] {A B : Option (Int × Wd)} (h1 : GkP b A) (h2 : GkP b B) : GkP b (if c then A else B) := by split; exact h1; exact h2
theorem nW : GkW b none := fun r e => by cases e
theorem nP : GkP b none := fun r e => by cases e
theorem s_W (h : K0 b w) : GkW b (some w) := fun r e => by cases e; exact h
theorem s_P {v : Int} (h : K0 b w) : GkP b (some (v, w)) := fun r e => by cases e; exact h
theorem z_rZ {v : Int} (h : K0 b w) : GkP b (rZ v w) := fun r e => by obtain ⟨-, e⟩ := ite_some e; rw [← e]; exact h
theorem z_rB {v : Int} (h : K0 b w) : GkP b (rB v w) := fun r e => by obtain ⟨-, e⟩ := ite_some e; rw [← e]; exact h
theorem z_rC {v : Int} (h : K0 b w) : GkP b (rC v w) := fun r e => by obtain ⟨-, e⟩ := ite_some e; rw [← e]; exact h
theorem dW {c a : Nat} {x : Option Wd} (h : GkW b x) : GkW b (gd c w a x) := by unfold gd; split; exact h; exact nW
theorem dP {c a : Nat} {x : Option (Int × Wd)} (h : GkP b x) : GkP b (gd c w a x) := by unfold gd; split; exact h; exact nP
theorem k0_sI {a k : Nat} {z : Int} (h : K0 b w) (ha : a ≠ 1) : K0 b (sI w a k z) := ⟨h.1, h.2.1, (funext (fun j => wI_ne (by omega))).trans h.2.2⟩
theorem k0_ne {a : Nat} {c : Nat} (h : K0 b w) (e : (wsh w a).1 = c) (hc : c ≠ 30) : a ≠ 1 := fun q => by
  subst q
  exact hc (e.symm.trans h.1)
theorem p_fpI {a c k : Nat} {z : Int} (hc : c ≠ 30) (h : K0 b w) : GkW b (fpI w a c k z) := fun r e => by
  obtain ⟨e1, rfl⟩ := ite_some e
  exact k0_sI h (k0_ne h e1 hc)
theorem p_fpZ {a c k : Nat} {z : Int} (hc : c ≠ 30) (h : K0 b w) : GkW b (fpZ w a c k z) := fun r e => by
  obtain ⟨e1, rfl⟩ := ite_some e
  exact k0_sI h (k0_ne h e1.1 hc)
theorem p_wrI {a : Nat} {j z : Int} (h : K0 b w) : GkW b (wrI w a j z) := fun r e => by
  obtain ⟨e1, rfl⟩ := ite_some e
  exact k0_sI h (k0_ne h e1.1 (by decide))
theorem p_wrB {a : Nat} {j z : Int} (h : K0 b w) : GkW b (wrB w a j z) := fun r e => by
  unfold wrB at e
  split at e
  · rename_i q
    cases e
    exact k0_sI h (k0_ne h q.1 (by decide))
  · obtain ⟨e1, rfl⟩ := ite_some e
    exact k0_sI h (k0_ne h e1.1 (by decide))
theorem p_cpyI {a c : Nat} {i j m : Int} (h : K0 b w) : GkW b (cpyI w a i c j m) := fun r e => by
  obtain ⟨e1, rfl⟩ := ite_some e
  have hc := k0_ne h e1.2.1 (by decide)
  exact ⟨h.1, h.2.1, (funext (fun k => wI_cp (by omega))).trans h.2.2⟩
theorem p_wrL {a : Nat} {j z : Int} (h : K0 b w) : GkW b (wrL w a j z) := fun r e => by
  obtain ⟨-, rfl⟩ := ite_some e
  exact h
theorem p_cpyL {a c : Nat} {i j m : Int} (h : K0 b w) : GkW b (cpyL w a i c j m) := fun r e => by
  obtain ⟨-, rfl⟩ := ite_some e
  exact h
end GK
theorem g_Bk_lead_64 {b : Wd}  {w : Wd} (h_w : K0 b w) : GkW b (Bk_lead_64 w) := by
  unfold Bk_lead_64
  exact (s_W h_w)
theorem g_Bk_lead_54 {b : Wd} {a0 : Nat} {a1 : Nat} {x2 : Int} {w : Wd} (h_w : K0 b w) : GkW b (Bk_lead_54 a0 a1 x2 w) := by
  unfold Bk_lead_54
  exact (vW (fun v55 => (vW (fun v59 => (bWW (p_wrL h_w) (fun w63 h_w63 => (g_Bk_lead_64 h_w63)))))))
theorem g_Bk_lead_29 {b : Wd}  : ∀ (q0 : Nat) (q1 : Nat) (q2 : Nat) (q3 : Int) (q4 : Int) (w : Wd), K0 b w → GkW b (Bk_lead_29  q0 q1 q2 q3 q4 w)
  | 0, _, _, _, _, w, _ => by rw [Bk_lead_29]; exact nW
  | n + 1, a0, a1, x2, x4, w, h_w => by
    rw [Bk_lead_29]
    exact (iW (g_Bk_lead_54 h_w) (vW (fun v39 => (vW (fun v44 => (g_Bk_lead_29 _ _ _ _ _ _ h_w))))))
theorem g_Bk_lead_0 {b : Wd} {a0 : Nat} {a1 : Nat} {w : Wd} (h_w : K0 b w) : GkW b (Bk_lead_0 a0 a1 w) := by
  unfold Bk_lead_0
  exact (vW (fun v1 => (iW (g_Bk_lead_64 h_w) (vW (fun v8 => (iW (g_Bk_lead_64 h_w) (vW (fun v18 => (g_Bk_lead_29 _ _ _ _ _ _ h_w)))))))))
theorem g_Bk_lead {b : Wd} {a0 : Nat} {a1 : Nat} {w : Wd} (h_w : K0 b w) : GkW b (Bk_lead a0 a1 w) := by
  unfold Bk_lead
  exact (dW (g_Bk_lead_0 h_w))
theorem g_Bk_copy_0 {b : Wd} {a0 : Nat} {a1 : Nat} {x2 : Int} {w : Wd} (h_w : K0 b w) : GkW b (Bk_copy_0 a0 a1 x2 w) := by
  unfold Bk_copy_0
  exact (vW (fun v1 => (vW (fun v6 => (bWW (p_cpyL h_w) (fun w11 h_w11 => (s_W h_w11)))))))
theorem g_Bk_copy {b : Wd} {a0 : Nat} {a1 : Nat} {x2 : Int} {w : Wd} (h_w : K0 b w) : GkW b (Bk_copy a0 a1 x2 w) := by
  unfold Bk_copy
  exact (dW (g_Bk_copy_0 h_w))
theorem g_Bk_handOf_0 {b : Wd} {a0 : Nat} {x1 : Int} {x2 : Int} {w : Wd} (h_w : K0 b w) : GkP b (Bk_handOf_0 a0 x1 x2 w) := by
  unfold Bk_handOf_0
  exact (vP (fun v1 => (vP (fun v5 => (s_P h_w)))))
theorem g_Bk_handOf {b : Wd} {a0 : Nat} {x1 : Int} {x2 : Int} {w : Wd} (h_w : K0 b w) : GkP b (Bk_handOf a0 x1 x2 w) := by
  unfold Bk_handOf
  exact (dP (g_Bk_handOf_0 h_w))
theorem g_Bk_givenIn_0 {b : Wd} {a0 : Nat} {x1 : Int} {w : Wd} (h_w : K0 b w) : GkP b (Bk_givenIn_0 a0 x1 w) := by
  unfold Bk_givenIn_0
  exact (vP (fun v1 => (vP (fun v5 => (s_P h_w)))))
theorem g_Bk_givenIn {b : Wd} {a0 : Nat} {x1 : Int} {w : Wd} (h_w : K0 b w) : GkP b (Bk_givenIn a0 x1 w) := by
  unfold Bk_givenIn
  exact (dP (g_Bk_givenIn_0 h_w))
theorem g_Bk_reignFrom_26 {b : Wd} {x1 : Int} {x3 : Int} {w : Wd} (h_w : K0 b w) : GkP b (Bk_reignFrom_26 x1 x3 w) := by
  unfold Bk_reignFrom_26
  exact (s_P h_w)
theorem g_Bk_reignFrom_2 {b : Wd}  : ∀ (q0 : Nat) (q1 : Nat) (q2 : Int) (q3 : Int) (q4 : Int) (w : Wd), K0 b w → GkP b (Bk_reignFrom_2  q0 q1 q2 q3 q4 w)
  | 0, _, _, _, _, w, _ => by rw [Bk_reignFrom_2]; exact nP
  | n + 1, a0, x1, x2, x3, w, h_w => by
    rw [Bk_reignFrom_2]
    exact (iP (g_Bk_reignFrom_26 h_w) (bPP (g_Bk_givenIn h_w) (fun r9 h_r9 => (bPP (g_Bk_givenIn h_r9) (fun r14 h_r14 => (iP (g_Bk_reignFrom_2 _ _ _ _ _ _ h_r14) (g_Bk_reignFrom_26 h_r14)))))))
theorem g_Bk_reignFrom_0 {b : Wd} {a0 : Nat} {x1 : Int} {x2 : Int} {w : Wd} (h_w : K0 b w) : GkP b (Bk_reignFrom_0 a0 x1 x2 w) := by
  unfold Bk_reignFrom_0
  exact (g_Bk_reignFrom_2 _ _ _ _ _ _ h_w)
theorem g_Bk_reignFrom {b : Wd} {a0 : Nat} {x1 : Int} {x2 : Int} {w : Wd} (h_w : K0 b w) : GkP b (Bk_reignFrom a0 x1 x2 w) := by
  unfold Bk_reignFrom
  exact (dP (g_Bk_reignFrom_0 h_w))
theorem g_Bk_longestReign_47 {b : Wd} {k7 : Nat → Int → Int → Int → Int → Wd → Option (Int × Wd)} {a0 : Nat} {x1 : Int} {x2 : Int} {x3 : Int} {x4 : Int} {x5 : Int} {w : Wd} (g_k7 : ∀ x0 x1 x2 x3 x4 z, K0 b z → GkP b (k7 x0 x1 x2 x3 x4 z)) (h_w : K0 b w) : GkP b (Bk_longestReign_47 k7 a0 x1 x2 x3 x4 x5 w) := by
  unfold Bk_longestReign_47
  exact (g_k7 _ _ _ _ _ _ h_w)
theorem g_Bk_longestReign_7 {b : Wd}  : ∀ (q0 : Nat) (q1 : Nat) (q2 : Int) (q3 : Int) (q4 : Int) (q5 : Int) (w : Wd), K0 b w → GkP b (Bk_longestReign_7  q0 q1 q2 q3 q4 q5 w)
  | 0, _, _, _, _, _, w, _ => by rw [Bk_longestReign_7]; exact nP
  | n + 1, a0, x1, x2, x3, x4, w, h_w => by
    rw [Bk_longestReign_7]
    exact (iP (s_P h_w) (bPP (g_Bk_reignFrom h_w) (fun r18 h_r18 => (bPP (g_Bk_givenIn h_r18) (fun r29 h_r29 => (iP (g_Bk_longestReign_47 (fun y0 y1 y2 y3 y4 z hz => g_Bk_longestReign_7 _ y0 y1 y2 y3 y4 z hz) h_r29) (iP (g_Bk_longestReign_47 (fun y0 y1 y2 y3 y4 z hz => g_Bk_longestReign_7 _ y0 y1 y2 y3 y4 z hz) h_r29) (g_Bk_longestReign_47 (fun y0 y1 y2 y3 y4 z hz => g_Bk_longestReign_7 _ y0 y1 y2 y3 y4 z hz) h_r29))))))))
theorem g_Bk_longestReign_0 {b : Wd} {a0 : Nat} {x1 : Int} {w : Wd} (h_w : K0 b w) : GkP b (Bk_longestReign_0 a0 x1 w) := by
  unfold Bk_longestReign_0
  exact (g_Bk_longestReign_7 _ _ _ _ _ _ _ h_w)
theorem g_Bk_longestReign {b : Wd} {a0 : Nat} {x1 : Int} {w : Wd} (h_w : K0 b w) : GkP b (Bk_longestReign a0 x1 w) := by
  unfold Bk_longestReign
  exact (dP (g_Bk_longestReign_0 h_w))
theorem g_Ct_stirred_0 {b : Wd} {x0 : Int} {x1 : Int} {w : Wd} (h_w : K0 b w) : GkP b (Ct_stirred_0 x0 x1 w) := by
  unfold Ct_stirred_0
  exact (s_P h_w)
theorem g_Ct_stirred {b : Wd} {x0 : Int} {x1 : Int} {w : Wd} (h_w : K0 b w) : GkP b (Ct_stirred x0 x1 w) := by
  unfold Ct_stirred
  exact (g_Ct_stirred_0 h_w)
theorem g_Ct_lot_24 {b : Wd} {s0 : Int} {w : Wd} (h_w : K0 b w) : GkP b (Ct_lot_24 s0 w) := by
  unfold Ct_lot_24
  exact (s_P h_w)
theorem g_Ct_lot_0 {b : Wd} {x0 : Int} {x1 : Int} {x2 : Int} {w : Wd} (h_w : K0 b w) : GkP b (Ct_lot_0 x0 x1 x2 w) := by
  unfold Ct_lot_0
  exact (bPP (g_Ct_stirred h_w) (fun r3 h_r3 => (bPP (g_Ct_stirred h_r3) (fun r7 h_r7 => (iP (g_Ct_lot_24 h_r7) (vP (fun v19 => (g_Ct_lot_24 h_r7))))))))
theorem g_Ct_lot {b : Wd} {x0 : Int} {x1 : Int} {x2 : Int} {w : Wd} (h_w : K0 b w) : GkP b (Ct_lot x0 x1 x2 w) := by
  unfold Ct_lot
  exact (g_Ct_lot_0 h_w)
theorem g_St_own_0 {b : Wd} {a0 : Nat} {x1 : Int} {x2 : Int} {w : Wd} (h_w : K0 b w) : GkP b (St_own_0 a0 x1 x2 w) := by
  unfold St_own_0
  exact (vP (fun v1 => (vP (fun v10 => (s_P h_w)))))
theorem g_St_own {b : Wd} {a0 : Nat} {x1 : Int} {x2 : Int} {w : Wd} (h_w : K0 b w) : GkP b (St_own a0 x1 x2 w) := by
  unfold St_own
  exact (dP (g_St_own_0 h_w))
theorem g_Hh_held_0 {b : Wd} {x0 : Int} {x1 : Int} {x2 : Int} {w : Wd} (h_w : K0 b w) : GkP b (Hh_held_0 x0 x1 x2 w) := by
  unfold Hh_held_0
  exact (s_P h_w)
theorem g_Hh_held {b : Wd} {x0 : Int} {x1 : Int} {x2 : Int} {w : Wd} (h_w : K0 b w) : GkP b (Hh_held x0 x1 x2 w) := by
  unfold Hh_held
  exact (g_Hh_held_0 h_w)
theorem g_Ct_written_0 {b : Wd} {a0 : Nat} {a1 : Nat} {x2 : Int} {x3 : Int} {x4 : Int} {w : Wd} (h_w : K0 b w) : GkP b (Ct_written_0 a0 a1 x2 x3 x4 w) := by
  unfold Ct_written_0
  exact (vP (fun v1 => (vP (fun v5 => (vP (fun v11 => (bPP (g_St_own h_w) (fun r29 h_r29 => (bPP (g_Ct_lot h_r29) (fun r41 h_r41 => (bPP (g_Hh_held h_r41) (fun r51 h_r51 => (s_P h_r51)))))))))))))
theorem g_Ct_written {b : Wd} {a0 : Nat} {a1 : Nat} {x2 : Int} {x3 : Int} {x4 : Int} {w : Wd} (h_w : K0 b w) : GkP b (Ct_written a0 a1 x2 x3 x4 w) := by
  unfold Ct_written
  exact (g_Ct_written_0 h_w)
theorem g_Lw_lookAt_0 {b : Wd} {a0 : Nat} {x1 : Int} {x2 : Int} {x3 : Int} {x4 : Int} {x5 : Int} {x6 : Int} {x7 : Int} {w : Wd} (h_w : K0 b w) : GkW b (Lw_lookAt_0 a0 x1 x2 x3 x4 x5 x6 x7 w) := by
  unfold Lw_lookAt_0
  exact (vW (fun v1 => (bWW (p_wrI h_w) (fun w6 h_w6 => (vW (fun v8 => (bWW (p_wrI h_w6) (fun w14 h_w14 => (vW (fun v16 => (bWW (p_wrI h_w14) (fun w21 h_w21 => (vW (fun v23 => (bWW (p_wrI h_w21) (fun w29 h_w29 => (vW (fun v31 => (bWW (p_wrI h_w29) (fun w37 h_w37 => (vW (fun v39 => (bWW (p_wrI h_w37) (fun w45 h_w45 => (vW (fun v47 => (bWW (p_wrI h_w45) (fun w53 h_w53 => (s_W h_w53)))))))))))))))))))))))))))))
theorem g_Lw_lookAt {b : Wd} {a0 : Nat} {x1 : Int} {x2 : Int} {x3 : Int} {x4 : Int} {x5 : Int} {x6 : Int} {x7 : Int} {w : Wd} (h_w : K0 b w) : GkW b (Lw_lookAt a0 x1 x2 x3 x4 x5 x6 x7 w) := by
  unfold Lw_lookAt
  exact (dW (g_Lw_lookAt_0 h_w))
theorem g_Wi_showMasters_0 {b : Wd} {a0 : Nat} {a1 : Nat} {x2 : Int} {x3 : Int} {w : Wd} (h_w : K0 b w) : GkW b (Wi_showMasters_0 a0 a1 x2 x3 w) := by
  unfold Wi_showMasters_0
  exact (vW (fun v1 => (vW (fun v5 => (vW (fun v9 => (vW (fun v21 => (vW (fun v25 => (bWW (g_Lw_lookAt h_w) (fun r32 h_r32 => (s_W h_r32)))))))))))))
theorem g_Wi_showMasters {b : Wd} {a0 : Nat} {a1 : Nat} {x2 : Int} {x3 : Int} {w : Wd} (h_w : K0 b w) : GkW b (Wi_showMasters a0 a1 x2 x3 w) := by
  unfold Wi_showMasters
  exact (dW (g_Wi_showMasters_0 h_w))
theorem g_Lw_variable_20 {b : Wd} {s0 : Int} {w : Wd} (h_w : K0 b w) : GkP b (Lw_variable_20 s0 w) := by
  unfold Lw_variable_20
  exact (s_P h_w)
theorem g_Lw_variable_19 {b : Wd}  {w : Wd} (h_w : K0 b w) : GkP b (Lw_variable_19 w) := by
  unfold Lw_variable_19
  exact (g_Lw_variable_20 h_w)
theorem g_Lw_variable_0 {b : Wd} {a0 : Nat} {x1 : Int} {w : Wd} (h_w : K0 b w) : GkP b (Lw_variable_0 a0 x1 w) := by
  unfold Lw_variable_0
  exact (iP (g_Lw_variable_19 h_w) (iP (g_Lw_variable_19 h_w) (vP (fun v11 => (vP (fun v15 => (g_Lw_variable_20 h_w)))))))
theorem g_Lw_variable {b : Wd} {a0 : Nat} {x1 : Int} {w : Wd} (h_w : K0 b w) : GkP b (Lw_variable a0 x1 w) := by
  unfold Lw_variable
  exact (dP (g_Lw_variable_0 h_w))
theorem g_Lw_reckoned_55 {b : Wd} {s0 : Int} {w : Wd} (h_w : K0 b w) : GkP b (Lw_reckoned_55 s0 w) := by
  unfold Lw_reckoned_55
  exact (s_P h_w)
theorem g_Lw_reckoned_44 {b : Wd} {x1 : Int} {x2 : Int} {w : Wd} (h_w : K0 b w) : GkP b (Lw_reckoned_44 x1 x2 w) := by
  unfold Lw_reckoned_44
  exact (iP (g_Lw_reckoned_55 h_w) (vP (fun v54 => (g_Lw_reckoned_55 h_w))))
theorem g_Lw_reckoned_0 {b : Wd} {x0 : Int} {x1 : Int} {x2 : Int} {w : Wd} (h_w : K0 b w) : GkP b (Lw_reckoned_0 x0 x1 x2 w) := by
  unfold Lw_reckoned_0
  exact (iP (s_P h_w) (iP (s_P h_w) (iP (g_Lw_reckoned_44 h_w) (iP (s_P h_w) (g_Lw_reckoned_44 h_w)))))
theorem g_Lw_reckoned {b : Wd} {x0 : Int} {x1 : Int} {x2 : Int} {w : Wd} (h_w : K0 b w) : GkP b (Lw_reckoned x0 x1 x2 w) := by
  unfold Lw_reckoned
  exact (g_Lw_reckoned_0 h_w)
theorem g_Lw_answer_46 {b : Wd} {s0 : Int} {w : Wd} (h_w : K0 b w) : GkP b (Lw_answer_46 s0 w) := by
  unfold Lw_answer_46
  exact (s_P h_w)
theorem g_Lw_answer_30 {b : Wd} {a0 : Nat} {x2 : Int} {w : Wd} (h_w : K0 b w) : GkP b (Lw_answer_30 a0 x2 w) := by
  unfold Lw_answer_30
  exact (iP (g_Lw_answer_46 h_w) (vP (fun v35 => (vP (fun v41 => (g_Lw_answer_46 h_w))))))
theorem g_Lw_answer_199 {b : Wd} {k8 : Nat → Int → Int → Wd → Option (Int × Wd)} {a0 : Nat} {x2 : Int} {x3 : Int} {w : Wd} (g_k8 : ∀ x0 x1 x2 z, K0 b z → GkP b (k8 x0 x1 x2 z)) (h_w : K0 b w) : GkP b (Lw_answer_199 k8 a0 x2 x3 w) := by
  unfold Lw_answer_199
  exact (g_k8 _ _ _ _ h_w)
theorem g_Lw_answer_97 {b : Wd} {k8 : Nat → Int → Int → Wd → Option (Int × Wd)} {a0 : Nat} {x2 : Int} {x3 : Int} {s0 : Int} {s1 : Int} {s2 : Nat} {w : Wd} (g_k8 : ∀ x0 x1 x2 z, K0 b z → GkP b (k8 x0 x1 x2 z)) (h_w : K0 b w) : GkP b (Lw_answer_97 k8 a0 x2 x3 s0 s1 s2 w) := by
  unfold Lw_answer_97
  exact (bWP (p_wrI h_w) (fun w97 h_w97 => (g_Lw_answer_199 g_k8 h_w97)))
theorem g_Lw_answer_59 {b : Wd} {k8 : Nat → Int → Int → Wd → Option (Int × Wd)} {a0 : Nat} {x2 : Int} {x3 : Int} {x4 : Int} {w : Wd} (g_k8 : ∀ x0 x1 x2 z, K0 b z → GkP b (k8 x0 x1 x2 z)) (h_w : K0 b w) : GkP b (Lw_answer_59 k8 a0 x2 x3 x4 w) := by
  unfold Lw_answer_59
  exact (iP (vP (fun v68 => (iP (vP (fun v79 => (vP (fun v83 => (g_Lw_answer_97 g_k8 h_w))))) (vP (fun v89 => (vP (fun v93 => (bPP (g_Lw_variable h_w) (fun r94 h_r94 => (g_Lw_answer_97 g_k8 h_r94)))))))))) (s_P h_w))
theorem g_Lw_answer_163 {b : Wd} {k8 : Nat → Int → Int → Wd → Option (Int × Wd)} {a0 : Nat} {x2 : Int} {s0 : Int} {w : Wd} (g_k8 : ∀ x0 x1 x2 z, K0 b z → GkP b (k8 x0 x1 x2 z)) (h_w : K0 b w) : GkP b (Lw_answer_163 k8 a0 x2 s0 w) := by
  unfold Lw_answer_163
  exact (g_Lw_answer_199 g_k8 h_w)
theorem g_Lw_answer_181 {b : Wd} {k8 : Nat → Int → Int → Wd → Option (Int × Wd)} {a0 : Nat} {x2 : Int} {x3 : Int} {x4 : Int} {x5 : Int} {x6 : Int} {w : Wd} (g_k8 : ∀ x0 x1 x2 z, K0 b z → GkP b (k8 x0 x1 x2 z)) (h_w : K0 b w) : GkP b (Lw_answer_181 k8 a0 x2 x3 x4 x5 x6 w) := by
  unfold Lw_answer_181
  exact (vP (fun v182 => (bPP (g_Lw_reckoned h_w) (fun r192 h_r192 => (bWP (p_wrI h_r192) (fun w195 h_w195 => (g_Lw_answer_199 g_k8 h_w195)))))))
theorem g_Lw_answer_8 {b : Wd}  : ∀ (q0 : Nat) (q1 : Nat) (q2 : Int) (q3 : Int) (w : Wd), K0 b w → GkP b (Lw_answer_8  q0 q1 q2 q3 w)
  | 0, _, _, _, w, _ => by rw [Lw_answer_8]; exact nP
  | n + 1, a0, x2, x3, w, h_w => by
    rw [Lw_answer_8]
    exact (vP (fun v10 => (iP (s_P h_w) (vP (fun v17 => (vP (fun v21 => (iP (g_Lw_answer_30 h_w) (iP (g_Lw_answer_59 (fun y0 y1 y2 z hz => g_Lw_answer_8 _ y0 y1 y2 z hz) h_w) (iP (g_Lw_answer_59 (fun y0 y1 y2 z hz => g_Lw_answer_8 _ y0 y1 y2 z hz) h_w) (iP (vP (fun v112 => (vP (fun v118 => (vP (fun v122 => (vP (fun v128 => (iP (iP (vP (fun v153 => (vP (fun v157 => (g_Lw_answer_163 (fun y0 y1 y2 z hz => g_Lw_answer_8 _ y0 y1 y2 z hz) h_w))))) (g_Lw_answer_163 (fun y0 y1 y2 z hz => g_Lw_answer_8 _ y0 y1 y2 z hz) h_w)) (iP (iP (s_P h_w) (g_Lw_answer_181 (fun y0 y1 y2 z hz => g_Lw_answer_8 _ y0 y1 y2 z hz) h_w)) (g_Lw_answer_181 (fun y0 y1 y2 z hz => g_Lw_answer_8 _ y0 y1 y2 z hz) h_w))))))))))) (s_P h_w))))))))))))
theorem g_Lw_answer_0 {b : Wd} {a0 : Nat} {x1 : Int} {w : Wd} (h_w : K0 b w) : GkP b (Lw_answer_0 a0 x1 w) := by
  unfold Lw_answer_0
  exact (g_Lw_answer_8 _ _ _ _ _ h_w)
theorem g_Lw_answer {b : Wd} {a0 : Nat} {x1 : Int} {w : Wd} (h_w : K0 b w) : GkP b (Lw_answer a0 x1 w) := by
  unfold Lw_answer
  exact (dP (g_Lw_answer_0 h_w))
theorem g_Wi_toldBy_0 {b : Wd} {a0 : Nat} {x1 : Int} {w : Wd} (h_w : K0 b w) : GkP b (Wi_toldBy_0 a0 x1 w) := by
  unfold Wi_toldBy_0
  exact (vP (fun v1 => (vP (fun v5 => (vP (fun v9 => (bPP (g_Lw_answer h_w) (fun r10 h_r10 => (bPP (g_Hh_held h_r10) (fun r17 h_r17 => (s_P h_r17)))))))))))
theorem g_Wi_toldBy {b : Wd} {a0 : Nat} {x1 : Int} {w : Wd} (h_w : K0 b w) : GkP b (Wi_toldBy a0 x1 w) := by
  unfold Wi_toldBy
  exact (dP (g_Wi_toldBy_0 h_w))
theorem g_Ct_compare_104 {b : Wd} {k3 : Nat → Nat → Nat → Int → Int → Wd → Option (Wd)} {k41 : Nat → Nat → Nat → Int → Int → Int → Wd → Option (Wd)} {a0 : Nat} {a1 : Nat} {a2 : Nat} {x3 : Int} {x4 : Int} {x5 : Int} {w : Wd} (g_k3 : ∀ x0 x1 x2 x3 x4 z, K0 b z → GkW b (k3 x0 x1 x2 x3 x4 z)) (g_k41 : ∀ x0 x1 x2 x3 x4 x5 z, K0 b z → GkW b (k41 x0 x1 x2 x3 x4 x5 z)) (h_w : K0 b w) : GkW b (Ct_compare_104 k3 k41 a0 a1 a2 x3 x4 x5 w) := by
  unfold Ct_compare_104
  exact (g_k41 _ _ _ _ _ _ _ h_w)
theorem g_Ct_compare_70 {b : Wd} {k3 : Nat → Nat → Nat → Int → Int → Wd → Option (Wd)} {k41 : Nat → Nat → Nat → Int → Int → Int → Wd → Option (Wd)} (g_k3 : ∀ x0 x1 x2 x3 x4 z, K0 b z → GkW b (k3 x0 x1 x2 x3 x4 z)) (g_k41 : ∀ x0 x1 x2 x3 x4 x5 z, K0 b z → GkW b (k41 x0 x1 x2 x3 x4 x5 z)) : ∀ (q0 : Nat) (q1 : Nat) (q2 : Nat) (q3 : Nat) (q4 : Int) (q5 : Int) (q6 : Int) (q7 : Int) (w : Wd), K0 b w → GkW b (Ct_compare_70 k3 k41 q0 q1 q2 q3 q4 q5 q6 q7 w)
  | 0, _, _, _, _, _, _, _, w, _ => by rw [Ct_compare_70]; exact nW
  | n + 1, a0, a1, a2, x3, x4, x5, x6, w, h_w => by
    rw [Ct_compare_70]
    exact (vW (fun v73 => (iW (g_Ct_compare_104 g_k3 g_k41 h_w) (vW (fun v80 => (vW (fun v85 => (vW (fun v89 => (bPW (g_Wi_toldBy h_w) (fun r93 h_r93 => (bWW (p_wrI h_r93) (fun w97 h_w97 => (g_Ct_compare_70 g_k3 g_k41 _ _ _ _ _ _ _ _ _ h_w97))))))))))))))
theorem g_Ct_compare_110 {b : Wd} {k3 : Nat → Nat → Nat → Int → Int → Wd → Option (Wd)} {a0 : Nat} {a1 : Nat} {a2 : Nat} {x3 : Int} {x4 : Int} {w : Wd} (g_k3 : ∀ x0 x1 x2 x3 x4 z, K0 b z → GkW b (k3 x0 x1 x2 x3 x4 z)) (h_w : K0 b w) : GkW b (Ct_compare_110 k3 a0 a1 a2 x3 x4 w) := by
  unfold Ct_compare_110
  exact (g_k3 _ _ _ _ _ _ h_w)
theorem g_Ct_compare_41 {b : Wd} {k3 : Nat → Nat → Nat → Int → Int → Wd → Option (Wd)} (g_k3 : ∀ x0 x1 x2 x3 x4 z, K0 b z → GkW b (k3 x0 x1 x2 x3 x4 z)) : ∀ (q0 : Nat) (q1 : Nat) (q2 : Nat) (q3 : Nat) (q4 : Int) (q5 : Int) (q6 : Int) (w : Wd), K0 b w → GkW b (Ct_compare_41 k3 q0 q1 q2 q3 q4 q5 q6 w)
  | 0, _, _, _, _, _, _, w, _ => by rw [Ct_compare_41]; exact nW
  | n + 1, a0, a1, a2, x3, x4, x5, w, h_w => by
    rw [Ct_compare_41]
    exact (vW (fun v44 => (iW (g_Ct_compare_110 g_k3 h_w) (bPW (g_Ct_written h_w) (fun r61 h_r61 => (bWW (g_Wi_showMasters h_r61) (fun r64 h_r64 => (g_Ct_compare_70 g_k3 (fun y0 y1 y2 y3 y4 y5 z hz => g_Ct_compare_41 g_k3 _ y0 y1 y2 y3 y4 y5 z hz) _ _ _ _ _ _ _ _ _ h_r64))))))))
theorem g_Ct_compare_38 {b : Wd} {k3 : Nat → Nat → Nat → Int → Int → Wd → Option (Wd)} {a0 : Nat} {a1 : Nat} {a2 : Nat} {x3 : Int} {x4 : Int} {w : Wd} (g_k3 : ∀ x0 x1 x2 x3 x4 z, K0 b z → GkW b (k3 x0 x1 x2 x3 x4 z)) (h_w : K0 b w) : GkW b (Ct_compare_38 k3 a0 a1 a2 x3 x4 w) := by
  unfold Ct_compare_38
  exact (g_Ct_compare_41 g_k3 _ _ _ _ _ _ _ _ h_w)
theorem g_Ct_compare_15 {b : Wd} {k3 : Nat → Nat → Nat → Int → Int → Wd → Option (Wd)} (g_k3 : ∀ x0 x1 x2 x3 x4 z, K0 b z → GkW b (k3 x0 x1 x2 x3 x4 z)) : ∀ (q0 : Nat) (q1 : Nat) (q2 : Nat) (q3 : Nat) (q4 : Int) (q5 : Int) (q6 : Int) (w : Wd), K0 b w → GkW b (Ct_compare_15 k3 q0 q1 q2 q3 q4 q5 q6 w)
  | 0, _, _, _, _, _, _, w, _ => by rw [Ct_compare_15]; exact nW
  | n + 1, a0, a1, a2, x3, x4, x5, w, h_w => by
    rw [Ct_compare_15]
    exact (iW (g_Ct_compare_38 g_k3 h_w) (vW (fun v22 => (vW (fun v27 => (bWW (p_wrI h_w) (fun w31 h_w31 => (g_Ct_compare_15 g_k3 _ _ _ _ _ _ _ _ h_w31))))))))
theorem g_Ct_compare_3 {b : Wd}  : ∀ (q0 : Nat) (q1 : Nat) (q2 : Nat) (q3 : Nat) (q4 : Int) (q5 : Int) (w : Wd), K0 b w → GkW b (Ct_compare_3  q0 q1 q2 q3 q4 q5 w)
  | 0, _, _, _, _, _, w, _ => by rw [Ct_compare_3]; exact nW
  | n + 1, a0, a1, a2, x3, x4, w, h_w => by
    rw [Ct_compare_3]
    exact (vW (fun v6 => (iW (s_W h_w) (g_Ct_compare_15 (fun y0 y1 y2 y3 y4 z hz => g_Ct_compare_3 _ y0 y1 y2 y3 y4 z hz) _ _ _ _ _ _ _ _ h_w))))
theorem g_Ct_compare_0 {b : Wd} {a0 : Nat} {a1 : Nat} {a2 : Nat} {x3 : Int} {w : Wd} (h_w : K0 b w) : GkW b (Ct_compare_0 a0 a1 a2 x3 w) := by
  unfold Ct_compare_0
  exact (g_Ct_compare_3 _ _ _ _ _ _ _ h_w)
theorem g_Ct_compare {b : Wd} {a0 : Nat} {a1 : Nat} {a2 : Nat} {x3 : Int} {w : Wd} (h_w : K0 b w) : GkW b (Ct_compare a0 a1 a2 x3 w) := by
  unfold Ct_compare
  exact (dW (g_Ct_compare_0 h_w))
theorem g_Ct_sum_35 {b : Wd} {k6 : Nat → Nat → Int → Int → Int → Int → Wd → Option (Int × Wd)} {a0 : Nat} {a1 : Nat} {x2 : Int} {x3 : Int} {x4 : Int} {x5 : Int} {w : Wd} (g_k6 : ∀ x0 x1 x2 x3 x4 x5 z, K0 b z → GkP b (k6 x0 x1 x2 x3 x4 x5 z)) (h_w : K0 b w) : GkP b (Ct_sum_35 k6 a0 a1 x2 x3 x4 x5 w) := by
  unfold Ct_sum_35
  exact (g_k6 _ _ _ _ _ _ _ h_w)
theorem g_Ct_sum_6 {b : Wd}  : ∀ (q0 : Nat) (q1 : Nat) (q2 : Nat) (q3 : Int) (q4 : Int) (q5 : Int) (q6 : Int) (w : Wd), K0 b w → GkP b (Ct_sum_6  q0 q1 q2 q3 q4 q5 q6 w)
  | 0, _, _, _, _, _, _, w, _ => by rw [Ct_sum_6]; exact nP
  | n + 1, a0, a1, x2, x3, x4, x5, w, h_w => by
    rw [Ct_sum_6]
    exact (vP (fun v9 => (iP (s_P h_w) (iP (g_Ct_sum_35 (fun y0 y1 y2 y3 y4 y5 z hz => g_Ct_sum_6 _ y0 y1 y2 y3 y4 y5 z hz) h_w) (vP (fun v24 => (vP (fun v28 => (vP (fun v31 => (g_Ct_sum_35 (fun y0 y1 y2 y3 y4 y5 z hz => g_Ct_sum_6 _ y0 y1 y2 y3 y4 y5 z hz) h_w)))))))))))
theorem g_Ct_sum_0 {b : Wd} {a0 : Nat} {a1 : Nat} {x2 : Int} {x3 : Int} {w : Wd} (h_w : K0 b w) : GkP b (Ct_sum_0 a0 a1 x2 x3 w) := by
  unfold Ct_sum_0
  exact (g_Ct_sum_6 _ _ _ _ _ _ _ _ h_w)
theorem g_Ct_sum {b : Wd} {a0 : Nat} {a1 : Nat} {x2 : Int} {x3 : Int} {w : Wd} (h_w : K0 b w) : GkP b (Ct_sum a0 a1 x2 x3 w) := by
  unfold Ct_sum
  exact (dP (g_Ct_sum_0 h_w))
theorem g_Ct_choice_52 {b : Wd} {k7 : Nat → Nat → Int → Int → Int → Int → Wd → Option (Int × Wd)} {a0 : Nat} {a1 : Nat} {x2 : Int} {x3 : Int} {x4 : Int} {x5 : Int} {w : Wd} (g_k7 : ∀ x0 x1 x2 x3 x4 x5 z, K0 b z → GkP b (k7 x0 x1 x2 x3 x4 x5 z)) (h_w : K0 b w) : GkP b (Ct_choice_52 k7 a0 a1 x2 x3 x4 x5 w) := by
  unfold Ct_choice_52
  exact (g_k7 _ _ _ _ _ _ _ h_w)
theorem g_Ct_choice_48 {b : Wd} {k7 : Nat → Nat → Int → Int → Int → Int → Wd → Option (Int × Wd)} {a0 : Nat} {a1 : Nat} {x2 : Int} {x3 : Int} {x5 : Int} {w : Wd} (g_k7 : ∀ x0 x1 x2 x3 x4 x5 z, K0 b z → GkP b (k7 x0 x1 x2 x3 x4 x5 z)) (h_w : K0 b w) : GkP b (Ct_choice_48 k7 a0 a1 x2 x3 x5 w) := by
  unfold Ct_choice_48
  exact (g_Ct_choice_52 g_k7 h_w)
theorem g_Ct_choice_7 {b : Wd}  : ∀ (q0 : Nat) (q1 : Nat) (q2 : Nat) (q3 : Int) (q4 : Int) (q5 : Int) (q6 : Int) (w : Wd), K0 b w → GkP b (Ct_choice_7  q0 q1 q2 q3 q4 q5 q6 w)
  | 0, _, _, _, _, _, _, w, _ => by rw [Ct_choice_7]; exact nP
  | n + 1, a0, a1, x2, x3, x4, x5, w, h_w => by
    rw [Ct_choice_7]
    exact (vP (fun v10 => (iP (s_P h_w) (iP (g_Ct_choice_52 (fun y0 y1 y2 y3 y4 y5 z hz => g_Ct_choice_7 _ y0 y1 y2 y3 y4 y5 z hz) h_w) (iP (g_Ct_choice_48 (fun y0 y1 y2 y3 y4 y5 z hz => g_Ct_choice_7 _ y0 y1 y2 y3 y4 y5 z hz) h_w) (vP (fun v28 => (vP (fun v33 => (vP (fun v35 => (vP (fun v37 => (vP (fun v42 => (vP (fun v44 => (iP (g_Ct_choice_52 (fun y0 y1 y2 y3 y4 y5 z hz => g_Ct_choice_7 _ y0 y1 y2 y3 y4 y5 z hz) h_w) (g_Ct_choice_48 (fun y0 y1 y2 y3 y4 y5 z hz => g_Ct_choice_7 _ y0 y1 y2 y3 y4 y5 z hz) h_w)))))))))))))))))))
theorem g_Ct_choice_0 {b : Wd} {a0 : Nat} {a1 : Nat} {x2 : Int} {x3 : Int} {w : Wd} (h_w : K0 b w) : GkP b (Ct_choice_0 a0 a1 x2 x3 w) := by
  unfold Ct_choice_0
  exact (g_Ct_choice_7 _ _ _ _ _ _ _ _ h_w)
theorem g_Ct_choice {b : Wd} {a0 : Nat} {a1 : Nat} {x2 : Int} {x3 : Int} {w : Wd} (h_w : K0 b w) : GkP b (Ct_choice a0 a1 x2 x3 w) := by
  unfold Ct_choice
  exact (dP (g_Ct_choice_0 h_w))
theorem g_Ct_isAhead_35 {b : Wd} {s0 : Int} {w : Wd} (h_w : K0 b w) : GkP b (Ct_isAhead_35 s0 w) := by
  unfold Ct_isAhead_35
  exact (z_rZ h_w)
theorem g_Ct_isAhead_60 {b : Wd} {s0 : Int} {w : Wd} (h_w : K0 b w) : GkP b (Ct_isAhead_60 s0 w) := by
  unfold Ct_isAhead_60
  exact (z_rZ h_w)
theorem g_Ct_isAhead_0 {b : Wd} {a0 : Nat} {a1 : Nat} {x2 : Int} {x3 : Int} {x4 : Int} {w : Wd} (h_w : K0 b w) : GkP b (Ct_isAhead_0 a0 a1 x2 x3 x4 w) := by
  unfold Ct_isAhead_0
  exact (vP (fun v1 => (vP (fun v5 => (vP (fun v7 => (vP (fun v11 => (iP (bPP (g_Ct_sum h_w) (fun r41 h_r41 => (bPP (g_Ct_sum h_r41) (fun r49 h_r49 => (iP (g_Ct_isAhead_60 h_r49) (g_Ct_isAhead_60 h_r49)))))) (vP (fun v16 => (vP (fun v20 => (vP (fun v22 => (vP (fun v26 => (iP (g_Ct_isAhead_35 h_w) (g_Ct_isAhead_35 h_w)))))))))))))))))))
theorem g_Ct_isAhead {b : Wd} {a0 : Nat} {a1 : Nat} {x2 : Int} {x3 : Int} {x4 : Int} {w : Wd} (h_w : K0 b w) : GkP b (Ct_isAhead a0 a1 x2 x3 x4 w) := by
  unfold Ct_isAhead
  exact (dP (g_Ct_isAhead_0 h_w))
theorem g_Ct_award_83 {b : Wd} {k27 : Nat → Nat → Int → Int → Int → Wd → Option (Int × Wd)} {a0 : Nat} {a1 : Nat} {x2 : Int} {x3 : Int} {x4 : Int} {w : Wd} (g_k27 : ∀ x0 x1 x2 x3 x4 z, K0 b z → GkP b (k27 x0 x1 x2 x3 x4 z)) (h_w : K0 b w) : GkP b (Ct_award_83 k27 a0 a1 x2 x3 x4 w) := by
  unfold Ct_award_83
  exact (g_k27 _ _ _ _ _ _ h_w)
theorem g_Ct_award_137 {b : Wd} {k96 : Nat → Nat → Int → Int → Int → Wd → Option (Int × Wd)} {a0 : Nat} {a1 : Nat} {x3 : Int} {x4 : Int} {x5 : Int} {w : Wd} (g_k96 : ∀ x0 x1 x2 x3 x4 z, K0 b z → GkP b (k96 x0 x1 x2 x3 x4 z)) (h_w : K0 b w) : GkP b (Ct_award_137 k96 a0 a1 x3 x4 x5 w) := by
  unfold Ct_award_137
  exact (g_k96 _ _ _ _ _ _ h_w)
theorem g_Ct_award_133 {b : Wd} {k96 : Nat → Nat → Int → Int → Int → Wd → Option (Int × Wd)} {a0 : Nat} {a1 : Nat} {x3 : Int} {x5 : Int} {w : Wd} (g_k96 : ∀ x0 x1 x2 x3 x4 z, K0 b z → GkP b (k96 x0 x1 x2 x3 x4 z)) (h_w : K0 b w) : GkP b (Ct_award_133 k96 a0 a1 x3 x5 w) := by
  unfold Ct_award_133
  exact (g_Ct_award_137 g_k96 h_w)
theorem g_Ct_award_170 {b : Wd} {s0 : Int} {w : Wd} (h_w : K0 b w) : GkP b (Ct_award_170 s0 w) := by
  unfold Ct_award_170
  exact (s_P h_w)
theorem g_Ct_award_168 {b : Wd} {x4 : Int} {w : Wd} (h_w : K0 b w) : GkP b (Ct_award_168 x4 w) := by
  unfold Ct_award_168
  exact (g_Ct_award_170 h_w)
theorem g_Ct_award_143 {b : Wd} {a0 : Nat} {a1 : Nat} {x3 : Int} {x4 : Int} {w : Wd} (h_w : K0 b w) : GkP b (Ct_award_143 a0 a1 x3 x4 w) := by
  unfold Ct_award_143
  exact (iP (g_Ct_award_168 h_w) (bPP (g_Ct_sum h_w) (fun r153 h_r153 => (vP (fun v157 => (iP (g_Ct_award_168 h_r153) (g_Ct_award_170 h_r153)))))))
theorem g_Ct_award_96 {b : Wd}  : ∀ (q0 : Nat) (q1 : Nat) (q2 : Nat) (q3 : Int) (q4 : Int) (q5 : Int) (w : Wd), K0 b w → GkP b (Ct_award_96  q0 q1 q2 q3 q4 q5 w)
  | 0, _, _, _, _, _, w, _ => by rw [Ct_award_96]; exact nP
  | n + 1, a0, a1, x3, x4, x5, w, h_w => by
    rw [Ct_award_96]
    exact (vP (fun v99 => (iP (g_Ct_award_143 h_w) (vP (fun v106 => (vP (fun v111 => (iP (g_Ct_award_137 (fun y0 y1 y2 y3 y4 z hz => g_Ct_award_96 _ y0 y1 y2 y3 y4 z hz) h_w) (iP (g_Ct_award_133 (fun y0 y1 y2 y3 y4 z hz => g_Ct_award_96 _ y0 y1 y2 y3 y4 z hz) h_w) (bPP (g_Ct_isAhead h_w) (fun r127 h_r127 => (iP (g_Ct_award_137 (fun y0 y1 y2 y3 y4 z hz => g_Ct_award_96 _ y0 y1 y2 y3 y4 z hz) h_r127) (g_Ct_award_133 (fun y0 y1 y2 y3 y4 z hz => g_Ct_award_96 _ y0 y1 y2 y3 y4 z hz) h_r127)))))))))))))
theorem g_Ct_award_89 {b : Wd} {a0 : Nat} {a1 : Nat} {x3 : Int} {w : Wd} (h_w : K0 b w) : GkP b (Ct_award_89 a0 a1 x3 w) := by
  unfold Ct_award_89
  exact (g_Ct_award_96 _ _ _ _ _ _ _ h_w)
theorem g_Ct_award_27 {b : Wd}  : ∀ (q0 : Nat) (q1 : Nat) (q2 : Nat) (q3 : Int) (q4 : Int) (q5 : Int) (w : Wd), K0 b w → GkP b (Ct_award_27  q0 q1 q2 q3 q4 q5 w)
  | 0, _, _, _, _, _, w, _ => by rw [Ct_award_27]; exact nP
  | n + 1, a0, a1, x2, x3, x4, w, h_w => by
    rw [Ct_award_27]
    exact (vP (fun v30 => (iP (g_Ct_award_89 h_w) (vP (fun v37 => (bPP (g_Ct_choice h_w) (fun r47 h_r47 => (bWP (p_wrI h_r47) (fun w50 h_w50 => (iP (g_Ct_award_83 (fun y0 y1 y2 y3 y4 z hz => g_Ct_award_27 _ y0 y1 y2 y3 y4 z hz) h_w50) (vP (fun v58 => (vP (fun v63 => (iP (g_Ct_award_83 (fun y0 y1 y2 y3 y4 z hz => g_Ct_award_27 _ y0 y1 y2 y3 y4 z hz) h_w50) (vP (fun v68 => (vP (fun v72 => (vP (fun v77 => (vP (fun v79 => (bWP (p_wrI h_w50) (fun w82 h_w82 => (g_Ct_award_83 (fun y0 y1 y2 y3 y4 z hz => g_Ct_award_27 _ y0 y1 y2 y3 y4 z hz) h_w82))))))))))))))))))))))))))
theorem g_Ct_award_24 {b : Wd} {a0 : Nat} {a1 : Nat} {x2 : Int} {x3 : Int} {w : Wd} (h_w : K0 b w) : GkP b (Ct_award_24 a0 a1 x2 x3 w) := by
  unfold Ct_award_24
  exact (g_Ct_award_27 _ _ _ _ _ _ _ h_w)
theorem g_Ct_award_3 {b : Wd}  : ∀ (q0 : Nat) (q1 : Nat) (q2 : Nat) (q3 : Int) (q4 : Int) (q5 : Int) (w : Wd), K0 b w → GkP b (Ct_award_3  q0 q1 q2 q3 q4 q5 w)
  | 0, _, _, _, _, _, w, _ => by rw [Ct_award_3]; exact nP
  | n + 1, a0, a1, x2, x3, x4, w, h_w => by
    rw [Ct_award_3]
    exact (iP (g_Ct_award_24 h_w) (vP (fun v11 => (bWP (p_wrI h_w) (fun w17 h_w17 => (g_Ct_award_3 _ _ _ _ _ _ _ h_w17))))))
theorem g_Ct_award_0 {b : Wd} {a0 : Nat} {a1 : Nat} {x2 : Int} {x3 : Int} {w : Wd} (h_w : K0 b w) : GkP b (Ct_award_0 a0 a1 x2 x3 w) := by
  unfold Ct_award_0
  exact (g_Ct_award_3 _ _ _ _ _ _ _ h_w)
theorem g_Ct_award {b : Wd} {a0 : Nat} {a1 : Nat} {x2 : Int} {x3 : Int} {w : Wd} (h_w : K0 b w) : GkP b (Ct_award a0 a1 x2 x3 w) := by
  unfold Ct_award
  exact (dP (g_Ct_award_0 h_w))
theorem g_Ct_given_0 {b : Wd} {a0 : Nat} {a1 : Nat} {a2 : Nat} {x3 : Int} {w : Wd} (h_w : K0 b w) : GkP b (Ct_given_0 a0 a1 a2 x3 w) := by
  unfold Ct_given_0
  exact (bWP (g_Ct_compare h_w) (fun r4 h_r4 => (bPP (g_Ct_award h_r4) (fun r11 h_r11 => (s_P h_r11)))))
theorem g_Ct_given {b : Wd} {a0 : Nat} {a1 : Nat} {a2 : Nat} {x3 : Int} {w : Wd} (h_w : K0 b w) : GkP b (Ct_given a0 a1 a2 x3 w) := by
  unfold Ct_given
  exact (dP (g_Ct_given_0 h_w))
theorem g_St_off_0 {b : Wd} {a0 : Nat} {x1 : Int} {x2 : Int} {w : Wd} (h_w : K0 b w) : GkP b (St_off_0 a0 x1 x2 w) := by
  unfold St_off_0
  exact (bPP (g_St_own h_w) (fun r3 h_r3 => (vP (fun v7 => (vP (fun v11 => (s_P h_r3)))))))
theorem g_St_off {b : Wd} {a0 : Nat} {x1 : Int} {x2 : Int} {w : Wd} (h_w : K0 b w) : GkP b (St_off a0 x1 x2 w) := by
  unfold St_off
  exact (dP (g_St_off_0 h_w))
theorem g_St_nearer_44 {b : Wd} {s0 : Int} {w : Wd} (h_w : K0 b w) : GkP b (St_nearer_44 s0 w) := by
  unfold St_nearer_44
  exact (s_P h_w)
theorem g_St_nearer_0 {b : Wd} {a0 : Nat} {x1 : Int} {x2 : Int} {x3 : Int} {w : Wd} (h_w : K0 b w) : GkP b (St_nearer_0 a0 x1 x2 x3 w) := by
  unfold St_nearer_0
  exact (bPP (g_St_own h_w) (fun r3 h_r3 => (bPP (g_St_off h_r3) (fun r12 h_r12 => (vP (fun v23 => (vP (fun v27 => (iP (g_St_nearer_44 h_r12) (g_St_nearer_44 h_r12))))))))))
theorem g_St_nearer {b : Wd} {a0 : Nat} {x1 : Int} {x2 : Int} {x3 : Int} {w : Wd} (h_w : K0 b w) : GkP b (St_nearer a0 x1 x2 x3 w) := by
  unfold St_nearer
  exact (dP (g_St_nearer_0 h_w))
theorem g_St_teach_0 {b : Wd} {a0 : Nat} {x1 : Int} {x2 : Int} {x3 : Int} {w : Wd} (h_w : K0 b w) : GkW b (St_teach_0 a0 x1 x2 x3 w) := by
  unfold St_teach_0
  exact (vW (fun v1 => (bPW (g_St_nearer h_w) (fun r14 h_r14 => (bWW (p_wrI h_r14) (fun w17 h_w17 => (s_W h_w17)))))))
theorem g_St_teach {b : Wd} {a0 : Nat} {x1 : Int} {x2 : Int} {x3 : Int} {w : Wd} (h_w : K0 b w) : GkW b (St_teach a0 x1 x2 x3 w) := by
  unfold St_teach
  exact (dW (g_St_teach_0 h_w))
theorem g_Wi_mostOff_45 {b : Wd} {k13 : Nat → Nat → Int → Int → Int → Int → Wd → Option (Int × Wd)} {a0 : Nat} {a1 : Nat} {x2 : Int} {x3 : Int} {x4 : Int} {x5 : Int} {w : Wd} (g_k13 : ∀ x0 x1 x2 x3 x4 x5 z, K0 b z → GkP b (k13 x0 x1 x2 x3 x4 x5 z)) (h_w : K0 b w) : GkP b (Wi_mostOff_45 k13 a0 a1 x2 x3 x4 x5 w) := by
  unfold Wi_mostOff_45
  exact (g_k13 _ _ _ _ _ _ _ h_w)
theorem g_Wi_mostOff_13 {b : Wd}  : ∀ (q0 : Nat) (q1 : Nat) (q2 : Nat) (q3 : Int) (q4 : Int) (q5 : Int) (q6 : Int) (w : Wd), K0 b w → GkP b (Wi_mostOff_13  q0 q1 q2 q3 q4 q5 q6 w)
  | 0, _, _, _, _, _, _, w, _ => by rw [Wi_mostOff_13]; exact nP
  | n + 1, a0, a1, x2, x3, x4, x5, w, h_w => by
    rw [Wi_mostOff_13]
    exact (vP (fun v16 => (iP (s_P h_w) (bPP (g_St_off h_w) (fun r26 h_r26 => (iP (g_Wi_mostOff_45 (fun y0 y1 y2 y3 y4 y5 z hz => g_Wi_mostOff_13 _ y0 y1 y2 y3 y4 y5 z hz) h_r26) (g_Wi_mostOff_45 (fun y0 y1 y2 y3 y4 y5 z hz => g_Wi_mostOff_13 _ y0 y1 y2 y3 y4 y5 z hz) h_r26)))))))
theorem g_Wi_mostOff_0 {b : Wd} {a0 : Nat} {a1 : Nat} {x2 : Int} {w : Wd} (h_w : K0 b w) : GkP b (Wi_mostOff_0 a0 a1 x2 w) := by
  unfold Wi_mostOff_0
  exact (bPP (g_St_off h_w) (fun r5 h_r5 => (g_Wi_mostOff_13 _ _ _ _ _ _ _ _ h_r5)))
theorem g_Wi_mostOff {b : Wd} {a0 : Nat} {a1 : Nat} {x2 : Int} {w : Wd} (h_w : K0 b w) : GkP b (Wi_mostOff a0 a1 x2 w) := by
  unfold Wi_mostOff
  exact (dP (g_Wi_mostOff_0 h_w))
theorem g_Wi_learned_76 {b : Wd} {s0 : Int} {w : Wd} (h_w : K0 b w) : GkP b (Wi_learned_76 s0 w) := by
  unfold Wi_learned_76
  exact (s_P h_w)
theorem g_Wi_learned_0 {b : Wd} {a0 : Nat} {a1 : Nat} {x2 : Int} {x3 : Int} {w : Wd} (h_w : K0 b w) : GkP b (Wi_learned_0 a0 a1 x2 x3 w) := by
  unfold Wi_learned_0
  exact (vP (fun v1 => (iP (vP (fun v11 => (vP (fun v15 => (iP (bPP (g_Wi_mostOff h_w) (fun r23 h_r23 => (s_P h_r23))) (vP (fun v28 => (vP (fun v34 => (bWP (g_Lw_lookAt h_w) (fun r41 h_r41 => (vP (fun v45 => (vP (fun v49 => (vP (fun v53 => (bPP (g_Lw_answer h_r41) (fun r54 h_r54 => (iP (vP (fun v72 => (vP (fun v75 => (g_Wi_learned_76 h_r54))))) (g_Wi_learned_76 h_r54))))))))))))))))))))) (s_P h_w))))
theorem g_Wi_learned {b : Wd} {a0 : Nat} {a1 : Nat} {x2 : Int} {x3 : Int} {w : Wd} (h_w : K0 b w) : GkP b (Wi_learned a0 a1 x2 x3 w) := by
  unfold Wi_learned
  exact (dP (g_Wi_learned_0 h_w))
theorem g_Ct_spendDays_75 {b : Wd} {k3 : Nat → Nat → Int → Int → Int → Wd → Option (Wd)} {k15 : Nat → Nat → Int → Int → Int → Int → Wd → Option (Wd)} {a1 : Nat} {a2 : Nat} {x3 : Int} {x4 : Int} {x5 : Int} {x6 : Int} {w : Wd} (g_k3 : ∀ x0 x1 x2 x3 x4 z, K0 b z → GkW b (k3 x0 x1 x2 x3 x4 z)) (g_k15 : ∀ x0 x1 x2 x3 x4 x5 z, K0 b z → GkW b (k15 x0 x1 x2 x3 x4 x5 z)) (h_w : K0 b w) : GkW b (Ct_spendDays_75 k3 k15 a1 a2 x3 x4 x5 x6 w) := by
  unfold Ct_spendDays_75
  exact (g_k15 _ _ _ _ _ _ _ h_w)
theorem g_Ct_spendDays_44 {b : Wd} {k3 : Nat → Nat → Int → Int → Int → Wd → Option (Wd)} {k15 : Nat → Nat → Int → Int → Int → Int → Wd → Option (Wd)} {a1 : Nat} {a2 : Nat} {x3 : Int} {x4 : Int} {x5 : Int} {x6 : Int} {s0 : Int} {w : Wd} (g_k3 : ∀ x0 x1 x2 x3 x4 z, K0 b z → GkW b (k3 x0 x1 x2 x3 x4 z)) (g_k15 : ∀ x0 x1 x2 x3 x4 x5 z, K0 b z → GkW b (k15 x0 x1 x2 x3 x4 x5 z)) (h_w : K0 b w) : GkW b (Ct_spendDays_44 k3 k15 a1 a2 x3 x4 x5 x6 s0 w) := by
  unfold Ct_spendDays_44
  exact (iW (g_Ct_spendDays_75 g_k3 g_k15 h_w) (vW (fun v54 => (iW (g_Ct_spendDays_75 g_k3 g_k15 h_w) (vW (fun v66 => (vW (fun v71 => (bWW (g_St_teach h_w) (fun r72 h_r72 => (g_Ct_spendDays_75 g_k3 g_k15 h_r72)))))))))))
theorem g_Ct_spendDays_81 {b : Wd} {k3 : Nat → Nat → Int → Int → Int → Wd → Option (Wd)} {a1 : Nat} {a2 : Nat} {x3 : Int} {x4 : Int} {x5 : Int} {w : Wd} (g_k3 : ∀ x0 x1 x2 x3 x4 z, K0 b z → GkW b (k3 x0 x1 x2 x3 x4 z)) (h_w : K0 b w) : GkW b (Ct_spendDays_81 k3 a1 a2 x3 x4 x5 w) := by
  unfold Ct_spendDays_81
  exact (g_k3 _ _ _ _ _ _ h_w)
theorem g_Ct_spendDays_15 {b : Wd} {k3 : Nat → Nat → Int → Int → Int → Wd → Option (Wd)} (g_k3 : ∀ x0 x1 x2 x3 x4 z, K0 b z → GkW b (k3 x0 x1 x2 x3 x4 z)) : ∀ (q0 : Nat) (q1 : Nat) (q2 : Nat) (q3 : Int) (q4 : Int) (q5 : Int) (q6 : Int) (w : Wd), K0 b w → GkW b (Ct_spendDays_15 k3 q0 q1 q2 q3 q4 q5 q6 w)
  | 0, _, _, _, _, _, _, w, _ => by rw [Ct_spendDays_15]; exact nW
  | n + 1, a1, a2, x3, x4, x5, x6, w, h_w => by
    rw [Ct_spendDays_15]
    exact (vW (fun v18 => (iW (g_Ct_spendDays_81 g_k3 h_w) (iW (g_Ct_spendDays_44 g_k3 (fun y0 y1 y2 y3 y4 y5 z hz => g_Ct_spendDays_15 g_k3 _ y0 y1 y2 y3 y4 y5 z hz) h_w) (bPW (g_Wi_learned h_w) (fun r41 h_r41 => (g_Ct_spendDays_44 g_k3 (fun y0 y1 y2 y3 y4 y5 z hz => g_Ct_spendDays_15 g_k3 _ y0 y1 y2 y3 y4 y5 z hz) h_r41)))))))
theorem g_Ct_spendDays_3 {b : Wd}  : ∀ (q0 : Nat) (q1 : Nat) (q2 : Nat) (q3 : Int) (q4 : Int) (q5 : Int) (w : Wd), K0 b w → GkW b (Ct_spendDays_3  q0 q1 q2 q3 q4 q5 w)
  | 0, _, _, _, _, _, w, _ => by rw [Ct_spendDays_3]; exact nW
  | n + 1, a1, a2, x3, x4, x5, w, h_w => by
    rw [Ct_spendDays_3]
    exact (vW (fun v6 => (iW (s_W h_w) (g_Ct_spendDays_15 (fun y0 y1 y2 y3 y4 z hz => g_Ct_spendDays_3 _ y0 y1 y2 y3 y4 z hz) _ _ _ _ _ _ _ _ h_w))))
theorem g_Ct_spendDays_0 {b : Wd} {a1 : Nat} {a2 : Nat} {x3 : Int} {x4 : Int} {w : Wd} (h_w : K0 b w) : GkW b (Ct_spendDays_0 a1 a2 x3 x4 w) := by
  unfold Ct_spendDays_0
  exact (g_Ct_spendDays_3 _ _ _ _ _ _ _ h_w)
theorem g_Ct_spendDays {b : Wd} {a0 : Nat} {a1 : Nat} {a2 : Nat} {x3 : Int} {x4 : Int} {w : Wd} (h_w : K0 b w) : GkW b (Ct_spendDays a0 a1 a2 x3 x4 w) := by
  unfold Ct_spendDays
  exact (dW (g_Ct_spendDays_0 h_w))
theorem g_Ct_settle_41 {b : Wd}  {w : Wd} (h_w : K0 b w) : GkW b (Ct_settle_41 w) := by
  unfold Ct_settle_41
  exact (s_W h_w)
theorem g_Ct_settle_0 {b : Wd} {a0 : Nat} {a1 : Nat} {a2 : Nat} {w : Wd} (h_w : K0 b w) : GkW b (Ct_settle_0 a0 a1 a2 w) := by
  unfold Ct_settle_0
  exact (vW (fun v4 => (bWW (g_Ct_compare h_w) (fun r7 h_r7 => (bPW (g_Ct_award h_r7) (fun r15 h_r15 => (bWW (p_fpI (by decide) h_r15) (fun w18 h_w18 => (vW (fun v22 => (iW (g_Ct_settle_41 h_w18) (vW (fun v29 => (vW (fun v33 => (vW (fun v37 => (bWW (p_wrI h_w18) (fun w40 h_w40 => (g_Ct_settle_41 h_w40))))))))))))))))))))
theorem g_Ct_settle {b : Wd} {a0 : Nat} {a1 : Nat} {a2 : Nat} {w : Wd} (h_w : K0 b w) : GkW b (Ct_settle a0 a1 a2 w) := by
  unfold Ct_settle
  exact (dW (g_Ct_settle_0 h_w))
theorem g_Wi_drift_0 {b : Wd} {a0 : Nat} {a1 : Nat} {x2 : Int} {w : Wd} (h_w : K0 b w) : GkP b (Wi_drift_0 a0 a1 x2 w) := by
  unfold Wi_drift_0
  exact (vP (fun v1 => (iP (s_P h_w) (vP (fun v11 => (vP (fun v16 => (bPP (g_St_off h_w) (fun r22 h_r22 => (vP (fun v27 => (bPP (g_St_own h_r22) (fun r34 h_r34 => (vP (fun v38 => (vP (fun v42 => (bWP (g_Lw_lookAt h_r34) (fun r44 h_r44 => (vP (fun v48 => (vP (fun v52 => (bPP (g_Lw_answer h_r44) (fun r55 h_r55 => (bPP (g_Hh_held h_r55) (fun r62 h_r62 => (s_P h_r62))))))))))))))))))))))))))))
theorem g_Wi_drift {b : Wd} {a0 : Nat} {a1 : Nat} {x2 : Int} {w : Wd} (h_w : K0 b w) : GkP b (Wi_drift a0 a1 x2 w) := by
  unfold Wi_drift
  exact (dP (g_Wi_drift_0 h_w))
theorem g_Ct_endYear_58 {b : Wd} {a2 : Nat} {w : Wd} (h_w : K0 b w) : GkW b (Ct_endYear_58 a2 w) := by
  unfold Ct_endYear_58
  exact (vW (fun v60 => (bWW (p_fpI (by decide) h_w) (fun w65 h_w65 => (s_W h_w65)))))
theorem g_Ct_endYear_19 {b : Wd}  : ∀ (q0 : Nat) (q1 : Nat) (q2 : Nat) (q3 : Int) (w : Wd), K0 b w → GkW b (Ct_endYear_19  q0 q1 q2 q3 w)
  | 0, _, _, _, w, _ => by rw [Ct_endYear_19]; exact nW
  | n + 1, a1, a2, x3, w, h_w => by
    rw [Ct_endYear_19]
    exact (vW (fun v21 => (iW (g_Ct_endYear_58 h_w) (vW (fun v28 => (vW (fun v33 => (vW (fun v37 => (bPW (g_Wi_drift h_w) (fun r41 h_r41 => (bPW (g_Hh_held h_r41) (fun r48 h_r48 => (bWW (p_wrI h_r48) (fun w51 h_w51 => (g_Ct_endYear_19 _ _ _ _ _ h_w51))))))))))))))))
theorem g_Ct_endYear_0 {b : Wd} {a1 : Nat} {a2 : Nat} {w : Wd} (h_w : K0 b w) : GkW b (Ct_endYear_0 a1 a2 w) := by
  unfold Ct_endYear_0
  exact (vW (fun v2 => (bWW (p_fpI (by decide) h_w) (fun w7 h_w7 => (vW (fun v11 => (iW (g_Ct_endYear_58 h_w7) (g_Ct_endYear_19 _ _ _ _ _ h_w7))))))))
theorem g_Ct_endYear {b : Wd} {a0 : Nat} {a1 : Nat} {a2 : Nat} {w : Wd} (h_w : K0 b w) : GkW b (Ct_endYear a0 a1 a2 w) := by
  unfold Ct_endYear
  exact (dW (g_Ct_endYear_0 h_w))
theorem g_Ct_goThroughYear_0 {b : Wd} {a0 : Nat} {a1 : Nat} {a2 : Nat} {x3 : Int} {x4 : Int} {w : Wd} (h_w : K0 b w) : GkP b (Ct_goThroughYear_0 a0 a1 a2 x3 x4 w) := by
  unfold Ct_goThroughYear_0
  exact (bWP (g_Ct_spendDays h_w) (fun r6 h_r6 => (bWP (g_Ct_settle h_r6) (fun r12 h_r12 => (bWP (g_Ct_endYear h_r12) (fun r18 h_r18 => (vP (fun v22 => (s_P h_r18)))))))))
theorem g_Ct_goThroughYear {b : Wd} {a0 : Nat} {a1 : Nat} {a2 : Nat} {x3 : Int} {x4 : Int} {w : Wd} (h_w : K0 b w) : GkP b (Ct_goThroughYear a0 a1 a2 x3 x4 w) := by
  unfold Ct_goThroughYear
  exact (dP (g_Ct_goThroughYear_0 h_w))
theorem g_Pa_add_0 {b : Wd} {a0 : Nat} {x1 : Int} {x2 : Int} {w : Wd} (h_w : K0 b w) : GkP b (Pa_add_0 a0 x1 x2 w) := by
  unfold Pa_add_0
  exact (vP (fun v1 => (iP (vP (fun v12 => (vP (fun v16 => (bWP (p_wrI h_w) (fun w20 h_w20 => (vP (fun v22 => (vP (fun v26 => (bWP (p_wrI h_w20) (fun w30 h_w30 => (vP (fun v33 => (bWP (p_fpI (by decide) h_w30) (fun w38 h_w38 => (vP (fun v42 => (s_P h_w38))))))))))))))))))) (s_P h_w))))
theorem g_Pa_add {b : Wd} {a0 : Nat} {x1 : Int} {x2 : Int} {w : Wd} (h_w : K0 b w) : GkP b (Pa_add a0 x1 x2 w) := by
  unfold Pa_add
  exact (dP (g_Pa_add_0 h_w))
theorem g_Ps_clear_0 {b : Wd} {a0 : Nat} {w : Wd} (h_w : K0 b w) : GkW b (Ps_clear_0 a0 w) := by
  unfold Ps_clear_0
  exact (bWW (p_fpI (by decide) h_w) (fun w2 h_w2 => (bWW (p_fpI (by decide) h_w2) (fun w7 h_w7 => (s_W h_w7)))))
theorem g_Ps_clear {b : Wd} {a0 : Nat} {w : Wd} (h_w : K0 b w) : GkW b (Ps_clear a0 w) := by
  unfold Ps_clear
  exact (dW (g_Ps_clear_0 h_w))
theorem g_St_copy_0 {b : Wd} {a0 : Nat} {a1 : Nat} {w : Wd} (h_w : K0 b w) : GkW b (St_copy_0 a0 a1 w) := by
  unfold St_copy_0
  exact (vW (fun v2 => (bWW (p_fpI (by decide) h_w) (fun w5 h_w5 => (vW (fun v10 => (bWW (p_fpI (by decide) h_w5) (fun w13 h_w13 => (vW (fun v18 => (bWW (p_fpI (by decide) h_w13) (fun w21 h_w21 => (vW (fun v25 => (vW (fun v30 => (bWW (p_cpyI h_w21) (fun w36 h_w36 => (vW (fun v40 => (vW (fun v45 => (bWW (p_cpyI h_w36) (fun w51 h_w51 => (vW (fun v55 => (vW (fun v60 => (bWW (p_cpyI h_w51) (fun w66 h_w66 => (s_W h_w66)))))))))))))))))))))))))))))))
theorem g_St_copy {b : Wd} {a0 : Nat} {a1 : Nat} {w : Wd} (h_w : K0 b w) : GkW b (St_copy a0 a1 w) := by
  unfold St_copy
  exact (dW (g_St_copy_0 h_w))
theorem g_Ps_keep_0 {b : Wd} {a0 : Nat} {a1 : Nat} {w : Wd} (h_w : K0 b w) : GkW b (Ps_keep_0 a0 a1 w) := by
  unfold Ps_keep_0
  exact (vW (fun v1 => (vW (fun v5 => (vW (fun v8 => (bWW (g_St_copy h_w) (fun r10 h_r10 => (vW (fun v15 => (vW (fun v22 => (bWW (p_fpI (by decide) h_r10) (fun w23 h_w23 => (vW (fun v28 => (bWW (p_fpI (by decide) h_w23) (fun w38 h_w38 => (s_W h_w38)))))))))))))))))))
theorem g_Ps_keep {b : Wd} {a0 : Nat} {a1 : Nat} {w : Wd} (h_w : K0 b w) : GkW b (Ps_keep a0 a1 w) := by
  unfold Ps_keep
  exact (dW (g_Ps_keep_0 h_w))
theorem g_Pl_cost_22 {b : Wd}  : ∀ (q0 : Nat) (q1 : Nat) (q2 : Int) (q3 : Int) (w : Wd), K0 b w → GkP b (Pl_cost_22  q0 q1 q2 q3 w)
  | 0, _, _, _, w, _ => by rw [Pl_cost_22]; exact nP
  | n + 1, a1, x6, x7, w, h_w => by
    rw [Pl_cost_22]
    exact (vP (fun v25 => (iP (s_P h_w) (bPP (g_Wi_toldBy h_w) (fun r36 h_r36 => (g_Pl_cost_22 _ _ _ _ _ h_r36))))))
theorem g_Pl_cost_0 {b : Wd} {a1 : Nat} {a2 : Nat} {x3 : Int} {x4 : Int} {x5 : Int} {w : Wd} (h_w : K0 b w) : GkP b (Pl_cost_0 a1 a2 x3 x4 x5 w) := by
  unfold Pl_cost_0
  exact (bPP (g_St_nearer h_w) (fun r10 h_r10 => (bWP (g_Wi_showMasters h_r10) (fun r13 h_r13 => (g_Pl_cost_22 _ _ _ _ _ h_r13)))))
theorem g_Pl_cost {b : Wd} {a0 : Nat} {a1 : Nat} {a2 : Nat} {x3 : Int} {x4 : Int} {x5 : Int} {w : Wd} (h_w : K0 b w) : GkP b (Pl_cost a0 a1 a2 x3 x4 x5 w) := by
  unfold Pl_cost
  exact (dP (g_Pl_cost_0 h_w))
theorem g_Pl_shareWith_33 {b : Wd} {s0 : Int} {s1 : Int} {w : Wd} (h_w : K0 b w) : GkP b (Pl_shareWith_33 s0 s1 w) := by
  unfold Pl_shareWith_33
  exact (s_P h_w)
theorem g_Pl_shareWith_0 {b : Wd} {a0 : Nat} {x1 : Int} {x2 : Int} {x3 : Int} {x4 : Int} {w : Wd} (h_w : K0 b w) : GkP b (Pl_shareWith_0 a0 x1 x2 x3 x4 w) := by
  unfold Pl_shareWith_0
  exact (vP (fun v1 => (vP (fun v5 => (vP (fun v8 => (iP (g_Pl_shareWith_33 h_w) (vP (fun v17 => (vP (fun v23 => (vP (fun v28 => (g_Pl_shareWith_33 h_w))))))))))))))
theorem g_Pl_shareWith {b : Wd} {a0 : Nat} {x1 : Int} {x2 : Int} {x3 : Int} {x4 : Int} {w : Wd} (h_w : K0 b w) : GkP b (Pl_shareWith a0 x1 x2 x3 x4 w) := by
  unfold Pl_shareWith
  exact (dP (g_Pl_shareWith_0 h_w))
theorem g_Pl_mostDays_47 {b : Wd} {k17 : Nat → Int → Int → Int → Int → Int → Wd → Option (Int × Wd)} {a0 : Nat} {x1 : Int} {x2 : Int} {x3 : Int} {x4 : Int} {x5 : Int} {w : Wd} (g_k17 : ∀ x0 x1 x2 x3 x4 x5 z, K0 b z → GkP b (k17 x0 x1 x2 x3 x4 x5 z)) (h_w : K0 b w) : GkP b (Pl_mostDays_47 k17 a0 x1 x2 x3 x4 x5 w) := by
  unfold Pl_mostDays_47
  exact (g_k17 _ _ _ _ _ _ _ h_w)
theorem g_Pl_mostDays_17 {b : Wd}  : ∀ (q0 : Nat) (q1 : Nat) (q2 : Int) (q3 : Int) (q4 : Int) (q5 : Int) (q6 : Int) (w : Wd), K0 b w → GkP b (Pl_mostDays_17  q0 q1 q2 q3 q4 q5 q6 w)
  | 0, _, _, _, _, _, _, w, _ => by rw [Pl_mostDays_17]; exact nP
  | n + 1, a0, x1, x2, x3, x4, x5, w, h_w => by
    rw [Pl_mostDays_17]
    exact (iP (s_P h_w) (bPP (g_Pl_shareWith h_w) (fun r28 h_r28 => (bPP (g_Pl_shareWith h_r28) (fun r37 h_r37 => (iP (g_Pl_mostDays_47 (fun y0 y1 y2 y3 y4 y5 z hz => g_Pl_mostDays_17 _ y0 y1 y2 y3 y4 y5 z hz) h_r37) (g_Pl_mostDays_47 (fun y0 y1 y2 y3 y4 y5 z hz => g_Pl_mostDays_17 _ y0 y1 y2 y3 y4 y5 z hz) h_r37)))))))
theorem g_Pl_mostDays_0 {b : Wd} {a0 : Nat} {x1 : Int} {x2 : Int} {x3 : Int} {w : Wd} (h_w : K0 b w) : GkP b (Pl_mostDays_0 a0 x1 x2 x3 w) := by
  unfold Pl_mostDays_0
  exact (iP (g_Pl_mostDays_17 _ _ _ _ _ _ _ _ h_w) (s_P h_w))
theorem g_Pl_mostDays {b : Wd} {a0 : Nat} {x1 : Int} {x2 : Int} {x3 : Int} {w : Wd} (h_w : K0 b w) : GkP b (Pl_mostDays a0 x1 x2 x3 w) := by
  unfold Pl_mostDays
  exact (dP (g_Pl_mostDays_0 h_w))
theorem g_Pl_lay_116 {b : Wd} {k17 : Nat → Nat → Nat → Int → Int → Int → Wd → Option (Int × Wd)} {a0 : Nat} {a1 : Nat} {a2 : Nat} {x3 : Int} {x4 : Int} {x5 : Int} {w : Wd} (g_k17 : ∀ x0 x1 x2 x3 x4 x5 z, K0 b z → GkP b (k17 x0 x1 x2 x3 x4 x5 z)) (h_w : K0 b w) : GkP b (Pl_lay_116 k17 a0 a1 a2 x3 x4 x5 w) := by
  unfold Pl_lay_116
  exact (g_k17 _ _ _ _ _ _ _ h_w)
theorem g_Pl_lay_69 {b : Wd} {k17 : Nat → Nat → Nat → Int → Int → Int → Wd → Option (Int × Wd)} (g_k17 : ∀ x0 x1 x2 x3 x4 x5 z, K0 b z → GkP b (k17 x0 x1 x2 x3 x4 x5 z)) : ∀ (q0 : Nat) (q1 : Nat) (q2 : Nat) (q3 : Nat) (q4 : Int) (q5 : Int) (q6 : Int) (q7 : Int) (w : Wd), K0 b w → GkP b (Pl_lay_69 k17 q0 q1 q2 q3 q4 q5 q6 q7 w)
  | 0, _, _, _, _, _, _, _, w, _ => by rw [Pl_lay_69]; exact nP
  | n + 1, a0, a1, a2, x3, x4, x5, x6, w, h_w => by
    rw [Pl_lay_69]
    exact (iP (g_Pl_lay_116 g_k17 h_w) (vP (fun v77 => (vP (fun v82 => (vP (fun v89 => (vP (fun v98 => (bPP (g_Pl_mostDays h_w) (fun r103 h_r103 => (bPP (g_Pl_shareWith h_r103) (fun r106 h_r106 => (bWP (p_wrI h_r106) (fun w109 h_w109 => (g_Pl_lay_69 g_k17 _ _ _ _ _ _ _ _ _ h_w109))))))))))))))))
theorem g_Pl_lay_66 {b : Wd} {k17 : Nat → Nat → Nat → Int → Int → Int → Wd → Option (Int × Wd)} {a0 : Nat} {a1 : Nat} {a2 : Nat} {x3 : Int} {x4 : Int} {x5 : Int} {w : Wd} (g_k17 : ∀ x0 x1 x2 x3 x4 x5 z, K0 b z → GkP b (k17 x0 x1 x2 x3 x4 x5 z)) (h_w : K0 b w) : GkP b (Pl_lay_66 k17 a0 a1 a2 x3 x4 x5 w) := by
  unfold Pl_lay_66
  exact (g_Pl_lay_69 g_k17 _ _ _ _ _ _ _ _ _ h_w)
theorem g_Pl_lay_25 {b : Wd} {k17 : Nat → Nat → Nat → Int → Int → Int → Wd → Option (Int × Wd)} (g_k17 : ∀ x0 x1 x2 x3 x4 x5 z, K0 b z → GkP b (k17 x0 x1 x2 x3 x4 x5 z)) : ∀ (q0 : Nat) (q1 : Nat) (q2 : Nat) (q3 : Nat) (q4 : Int) (q5 : Int) (q6 : Int) (q7 : Int) (w : Wd), K0 b w → GkP b (Pl_lay_25 k17 q0 q1 q2 q3 q4 q5 q6 q7 w)
  | 0, _, _, _, _, _, _, _, w, _ => by rw [Pl_lay_25]; exact nP
  | n + 1, a0, a1, a2, x3, x4, x5, x6, w, h_w => by
    rw [Pl_lay_25]
    exact (iP (g_Pl_lay_66 g_k17 h_w) (vP (fun v33 => (vP (fun v38 => (vP (fun v50 => (vP (fun v54 => (bPP (g_Pl_cost h_w) (fun r56 h_r56 => (bWP (p_wrI h_r56) (fun w59 h_w59 => (g_Pl_lay_25 g_k17 _ _ _ _ _ _ _ _ _ h_w59))))))))))))))
theorem g_Pl_lay_175 {b : Wd} {a0 : Nat} {x4 : Int} {w : Wd} (h_w : K0 b w) : GkP b (Pl_lay_175 a0 x4 w) := by
  unfold Pl_lay_175
  exact (vP (fun v176 => (vP (fun v180 => (vP (fun v183 => (s_P h_w)))))))
theorem g_Pl_lay_129 {b : Wd}  : ∀ (q0 : Nat) (q1 : Nat) (q2 : Nat) (q3 : Int) (q4 : Int) (q5 : Int) (w : Wd), K0 b w → GkP b (Pl_lay_129  q0 q1 q2 q3 q4 q5 w)
  | 0, _, _, _, _, _, w, _ => by rw [Pl_lay_129]; exact nP
  | n + 1, a0, a1, x4, x5, x6, w, h_w => by
    rw [Pl_lay_129]
    exact (vP (fun v132 => (iP (g_Pl_lay_175 h_w) (vP (fun v139 => (vP (fun v148 => (bPP (g_Pl_mostDays h_w) (fun r153 h_r153 => (bWP (p_wrI h_r153) (fun w156 h_w156 => (vP (fun v160 => (vP (fun v165 => (g_Pl_lay_129 _ _ _ _ _ _ _ h_w156))))))))))))))))
theorem g_Pl_lay_122 {b : Wd} {a0 : Nat} {a1 : Nat} {x4 : Int} {w : Wd} (h_w : K0 b w) : GkP b (Pl_lay_122 a0 a1 x4 w) := by
  unfold Pl_lay_122
  exact (g_Pl_lay_129 _ _ _ _ _ _ _ h_w)
theorem g_Pl_lay_17 {b : Wd}  : ∀ (q0 : Nat) (q1 : Nat) (q2 : Nat) (q3 : Nat) (q4 : Int) (q5 : Int) (q6 : Int) (w : Wd), K0 b w → GkP b (Pl_lay_17  q0 q1 q2 q3 q4 q5 q6 w)
  | 0, _, _, _, _, _, _, w, _ => by rw [Pl_lay_17]; exact nP
  | n + 1, a0, a1, a2, x3, x4, x5, w, h_w => by
    rw [Pl_lay_17]
    exact (iP (g_Pl_lay_122 h_w) (g_Pl_lay_25 (fun y0 y1 y2 y3 y4 y5 z hz => g_Pl_lay_17 _ y0 y1 y2 y3 y4 y5 z hz) _ _ _ _ _ _ _ _ _ h_w))
theorem g_Pl_lay_0 {b : Wd} {a0 : Nat} {a1 : Nat} {a2 : Nat} {x3 : Int} {x4 : Int} {w : Wd} (h_w : K0 b w) : GkP b (Pl_lay_0 a0 a1 a2 x3 x4 w) := by
  unfold Pl_lay_0
  exact (vP (fun v1 => (iP (vP (fun v10 => (g_Pl_lay_17 _ _ _ _ _ _ _ _ h_w))) (s_P h_w))))
theorem g_Pl_lay {b : Wd} {a0 : Nat} {a1 : Nat} {a2 : Nat} {x3 : Int} {x4 : Int} {w : Wd} (h_w : K0 b w) : GkP b (Pl_lay a0 a1 a2 x3 x4 w) := by
  unfold Pl_lay
  exact (dP (g_Pl_lay_0 h_w))
theorem g_St_led_0 {b : Wd} {a0 : Nat} {w : Wd} (h_w : K0 b w) : GkP b (St_led_0 a0 w) := by
  unfold St_led_0
  exact (vP (fun v1 => (s_P h_w)))
theorem g_St_led {b : Wd} {a0 : Nat} {w : Wd} (h_w : K0 b w) : GkP b (St_led a0 w) := by
  unfold St_led
  exact (dP (g_St_led_0 h_w))
theorem g_Hh_putFour_46 {b : Wd}  {w : Wd} (h_w : K0 b w) : GkW b (Hh_putFour_46 w) := by
  unfold Hh_putFour_46
  exact (s_W h_w)
theorem g_Hh_putFour_3 {b : Wd}  : ∀ (q0 : Nat) (q1 : Nat) (q2 : Int) (q3 : Int) (w : Wd), K0 b w → GkW b (Hh_putFour_3  q0 q1 q2 q3 w)
  | 0, _, _, _, w, _ => by rw [Hh_putFour_3]; exact nW
  | n + 1, a0, x1, x2, w, h_w => by
    rw [Hh_putFour_3]
    exact (iW (g_Hh_putFour_46 h_w) (vW (fun v8 => (iW (g_Hh_putFour_46 h_w) (vW (fun v18 => (vW (fun v22 => (bWW (p_wrB h_w) (fun w29 h_w29 => (vW (fun v32 => (bWW (p_fpI (by decide) h_w29) (fun w37 h_w37 => (g_Hh_putFour_3 _ _ _ _ _ h_w37)))))))))))))))
theorem g_Hh_putFour_0 {b : Wd} {a0 : Nat} {x1 : Int} {w : Wd} (h_w : K0 b w) : GkW b (Hh_putFour_0 a0 x1 w) := by
  unfold Hh_putFour_0
  exact (g_Hh_putFour_3 _ _ _ _ _ h_w)
theorem g_Hh_putFour {b : Wd} {a0 : Nat} {x1 : Int} {w : Wd} (h_w : K0 b w) : GkW b (Hh_putFour a0 x1 w) := by
  unfold Hh_putFour
  exact (dW (g_Hh_putFour_0 h_w))
theorem g_Hh_feed_0 {b : Wd} {a0 : Nat} {x1 : Int} {x2 : Int} {x3 : Int} {x4 : Int} {x5 : Int} {w : Wd} (h_w : K0 b w) : GkP b (Hh_feed_0 a0 x1 x2 x3 x4 x5 w) := by
  unfold Hh_feed_0
  exact (vP (fun v1 => (iP (bWP (g_Hh_putFour h_w) (fun r17 h_r17 => (bWP (g_Hh_putFour h_r17) (fun r22 h_r22 => (bWP (g_Hh_putFour h_r22) (fun r27 h_r27 => (bWP (g_Hh_putFour h_r27) (fun r33 h_r33 => (bWP (g_Hh_putFour h_r33) (fun r39 h_r39 => (vP (fun v43 => (s_P h_r39))))))))))))) (s_P h_w))))
theorem g_Hh_feed {b : Wd} {a0 : Nat} {x1 : Int} {x2 : Int} {x3 : Int} {x4 : Int} {x5 : Int} {w : Wd} (h_w : K0 b w) : GkP b (Hh_feed a0 x1 x2 x3 x4 x5 w) := by
  unfold Hh_feed
  exact (dP (g_Hh_feed_0 h_w))
theorem g_Hh_back_12 {b : Wd}  {w : Wd} (h_w : K0 b w) : GkP b (Hh_back_12 w) := by
  unfold Hh_back_12
  exact (s_P h_w)
theorem g_Hh_back_0 {b : Wd} {a0 : Nat} {x1 : Int} {w : Wd} (h_w : K0 b w) : GkP b (Hh_back_0 a0 x1 w) := by
  unfold Hh_back_0
  exact (iP (g_Hh_back_12 h_w) (vP (fun v6 => (iP (vP (fun v16 => (bWP (p_fpI (by decide) h_w) (fun w21 h_w21 => (vP (fun v25 => (s_P h_w21))))))) (g_Hh_back_12 h_w)))))
theorem g_Hh_back {b : Wd} {a0 : Nat} {x1 : Int} {w : Wd} (h_w : K0 b w) : GkP b (Hh_back a0 x1 w) := by
  unfold Hh_back
  exact (dP (g_Hh_back_0 h_w))
theorem g_Hh_isLetter_20 {b : Wd} {s0 : Int} {w : Wd} (h_w : K0 b w) : GkP b (Hh_isLetter_20 s0 w) := by
  unfold Hh_isLetter_20
  exact (z_rZ h_w)
theorem g_Hh_isLetter_19 {b : Wd}  {w : Wd} (h_w : K0 b w) : GkP b (Hh_isLetter_19 w) := by
  unfold Hh_isLetter_19
  exact (g_Hh_isLetter_20 h_w)
theorem g_Hh_isLetter_0 {b : Wd} {a0 : Nat} {x1 : Int} {w : Wd} (h_w : K0 b w) : GkP b (Hh_isLetter_0 a0 x1 w) := by
  unfold Hh_isLetter_0
  exact (iP (g_Hh_isLetter_19 h_w) (vP (fun v6 => (vP (fun v9 => (iP (g_Hh_isLetter_19 h_w) (g_Hh_isLetter_20 h_w)))))))
theorem g_Hh_isLetter {b : Wd} {a0 : Nat} {x1 : Int} {w : Wd} (h_w : K0 b w) : GkP b (Hh_isLetter a0 x1 w) := by
  unfold Hh_isLetter
  exact (dP (g_Hh_isLetter_0 h_w))
theorem g_Hh_isHeir_20 {b : Wd} {s0 : Int} {w : Wd} (h_w : K0 b w) : GkP b (Hh_isHeir_20 s0 w) := by
  unfold Hh_isHeir_20
  exact (z_rZ h_w)
theorem g_Hh_isHeir_19 {b : Wd}  {w : Wd} (h_w : K0 b w) : GkP b (Hh_isHeir_19 w) := by
  unfold Hh_isHeir_19
  exact (g_Hh_isHeir_20 h_w)
theorem g_Hh_isHeir_0 {b : Wd} {a0 : Nat} {x1 : Int} {w : Wd} (h_w : K0 b w) : GkP b (Hh_isHeir_0 a0 x1 w) := by
  unfold Hh_isHeir_0
  exact (iP (g_Hh_isHeir_19 h_w) (vP (fun v6 => (vP (fun v9 => (iP (g_Hh_isHeir_19 h_w) (g_Hh_isHeir_20 h_w)))))))
theorem g_Hh_isHeir {b : Wd} {a0 : Nat} {x1 : Int} {w : Wd} (h_w : K0 b w) : GkP b (Hh_isHeir a0 x1 w) := by
  unfold Hh_isHeir
  exact (dP (g_Hh_isHeir_0 h_w))
theorem g_Hh_isMaster_20 {b : Wd} {s0 : Int} {w : Wd} (h_w : K0 b w) : GkP b (Hh_isMaster_20 s0 w) := by
  unfold Hh_isMaster_20
  exact (z_rZ h_w)
theorem g_Hh_isMaster_19 {b : Wd}  {w : Wd} (h_w : K0 b w) : GkP b (Hh_isMaster_19 w) := by
  unfold Hh_isMaster_19
  exact (g_Hh_isMaster_20 h_w)
theorem g_Hh_isMaster_0 {b : Wd} {a0 : Nat} {x1 : Int} {w : Wd} (h_w : K0 b w) : GkP b (Hh_isMaster_0 a0 x1 w) := by
  unfold Hh_isMaster_0
  exact (iP (g_Hh_isMaster_19 h_w) (vP (fun v6 => (vP (fun v9 => (iP (g_Hh_isMaster_19 h_w) (g_Hh_isMaster_20 h_w)))))))
theorem g_Hh_isMaster {b : Wd} {a0 : Nat} {x1 : Int} {w : Wd} (h_w : K0 b w) : GkP b (Hh_isMaster a0 x1 w) := by
  unfold Hh_isMaster
  exact (dP (g_Hh_isMaster_0 h_w))
theorem g_Hh_isWithin_15 {b : Wd} {s0 : Int} {w : Wd} (h_w : K0 b w) : GkP b (Hh_isWithin_15 s0 w) := by
  unfold Hh_isWithin_15
  exact (z_rZ h_w)
theorem g_Hh_isWithin_14 {b : Wd}  {w : Wd} (h_w : K0 b w) : GkP b (Hh_isWithin_14 w) := by
  unfold Hh_isWithin_14
  exact (g_Hh_isWithin_15 h_w)
theorem g_Hh_isWithin_0 {b : Wd} {x0 : Int} {x1 : Int} {x2 : Int} {w : Wd} (h_w : K0 b w) : GkP b (Hh_isWithin_0 x0 x1 x2 w) := by
  unfold Hh_isWithin_0
  exact (iP (g_Hh_isWithin_14 h_w) (iP (g_Hh_isWithin_14 h_w) (g_Hh_isWithin_15 h_w)))
theorem g_Hh_isWithin {b : Wd} {x0 : Int} {x1 : Int} {x2 : Int} {w : Wd} (h_w : K0 b w) : GkP b (Hh_isWithin x0 x1 x2 w) := by
  unfold Hh_isWithin
  exact (g_Hh_isWithin_0 h_w)
theorem g_Hh_hand_21 {b : Wd} {s0 : Int} {w : Wd} (h_w : K0 b w) : GkP b (Hh_hand_21 s0 w) := by
  unfold Hh_hand_21
  exact (s_P h_w)
theorem g_Hh_hand_0 {b : Wd} {a0 : Nat} {x1 : Int} {w : Wd} (h_w : K0 b w) : GkP b (Hh_hand_0 a0 x1 w) := by
  unfold Hh_hand_0
  exact (bPP (g_Hh_isLetter h_w) (fun r2 h_r2 => (iP (g_Hh_hand_21 h_r2) (vP (fun v9 => (vP (fun v12 => (vP (fun v16 => (g_Hh_hand_21 h_r2))))))))))
theorem g_Hh_hand {b : Wd} {a0 : Nat} {x1 : Int} {w : Wd} (h_w : K0 b w) : GkP b (Hh_hand a0 x1 w) := by
  unfold Hh_hand
  exact (dP (g_Hh_hand_0 h_w))
theorem g_Hh_shape_16 {b : Wd}  {w : Wd} (h_w : K0 b w) : GkP b (Hh_shape_16 w) := by
  unfold Hh_shape_16
  exact (s_P h_w)
theorem g_Hh_shape_0 {b : Wd} {a0 : Nat} {x1 : Int} {x2 : Int} {x3 : Int} {w : Wd} (h_w : K0 b w) : GkP b (Hh_shape_0 a0 x1 x2 x3 w) := by
  unfold Hh_shape_0
  exact (bPP (g_Hh_isHeir h_w) (fun r2 h_r2 => (iP (g_Hh_shape_16 h_r2) (bPP (g_Hh_isLetter h_r2) (fun r10 h_r10 => (iP (g_Hh_shape_16 h_r10) (iP (vP (fun v45 => (bPP (g_St_own h_r10) (fun r50 h_r50 => (s_P h_r50))))) (iP (vP (fun v55 => (vP (fun v59 => (vP (fun v63 => (vP (fun v66 => (bPP (g_Ct_written h_r10) (fun r71 h_r71 => (s_P h_r71))))))))))) (iP (vP (fun v76 => (bPP (g_St_off h_r10) (fun r81 h_r81 => (s_P h_r81))))) (s_P h_r10))))))))))
theorem g_Hh_shape {b : Wd} {a0 : Nat} {x1 : Int} {x2 : Int} {x3 : Int} {w : Wd} (h_w : K0 b w) : GkP b (Hh_shape a0 x1 x2 x3 w) := by
  unfold Hh_shape
  exact (dP (g_Hh_shape_0 h_w))
theorem g_Hh_sumNow_0 {b : Wd} {a0 : Nat} {x1 : Int} {w : Wd} (h_w : K0 b w) : GkP b (Hh_sumNow_0 a0 x1 w) := by
  unfold Hh_sumNow_0
  exact (vP (fun v1 => (vP (fun v5 => (vP (fun v9 => (vP (fun v13 => (vP (fun v16 => (bWP (g_Ct_compare h_w) (fun r19 h_r19 => (vP (fun v23 => (vP (fun v27 => (bPP (g_Ct_sum h_r19) (fun r32 h_r32 => (s_P h_r32)))))))))))))))))))
theorem g_Hh_sumNow {b : Wd} {a0 : Nat} {x1 : Int} {w : Wd} (h_w : K0 b w) : GkP b (Hh_sumNow a0 x1 w) := by
  unfold Hh_sumNow
  exact (dP (g_Hh_sumNow_0 h_w))
theorem g_Hh_heir_0 {b : Wd} {a0 : Nat} {x1 : Int} {x2 : Int} {w : Wd} (h_w : K0 b w) : GkP b (Hh_heir_0 a0 x1 x2 w) := by
  unfold Hh_heir_0
  exact (bPP (g_Hh_isHeir h_w) (fun r2 h_r2 => (iP (s_P h_r2) (iP (vP (fun v45 => (vP (fun v48 => (vP (fun v52 => (s_P h_r2))))))) (iP (vP (fun v55 => (vP (fun v58 => (vP (fun v62 => (s_P h_r2))))))) (iP (bPP (g_Hh_sumNow h_r2) (fun r66 h_r66 => (s_P h_r66))) (iP (vP (fun v71 => (vP (fun v74 => (vP (fun v78 => (s_P h_r2))))))) (iP (vP (fun v81 => (vP (fun v85 => (bPP (g_Wi_learned h_r2) (fun r90 h_r90 => (s_P h_r90))))))) (s_P h_r2)))))))))
theorem g_Hh_heir {b : Wd} {a0 : Nat} {x1 : Int} {x2 : Int} {w : Wd} (h_w : K0 b w) : GkP b (Hh_heir a0 x1 x2 w) := by
  unfold Hh_heir
  exact (dP (g_Hh_heir_0 h_w))
theorem g_Hh_unlike_16 {b : Wd}  {w : Wd} (h_w : K0 b w) : GkP b (Hh_unlike_16 w) := by
  unfold Hh_unlike_16
  exact (s_P h_w)
theorem g_Hh_unlike_0 {b : Wd} {a0 : Nat} {x1 : Int} {x2 : Int} {w : Wd} (h_w : K0 b w) : GkP b (Hh_unlike_0 a0 x1 x2 w) := by
  unfold Hh_unlike_0
  exact (bPP (g_Hh_isHeir h_w) (fun r2 h_r2 => (iP (g_Hh_unlike_16 h_r2) (bPP (g_Hh_isMaster h_r2) (fun r10 h_r10 => (iP (g_Hh_unlike_16 h_r10) (vP (fun v19 => (vP (fun v23 => (vP (fun v27 => (vP (fun v31 => (vP (fun v34 => (bWP (g_Ct_compare h_r10) (fun r37 h_r37 => (vP (fun v41 => (vP (fun v44 => (vP (fun v48 => (vP (fun v50 => (s_P h_r37)))))))))))))))))))))))))))
theorem g_Hh_unlike {b : Wd} {a0 : Nat} {x1 : Int} {x2 : Int} {w : Wd} (h_w : K0 b w) : GkP b (Hh_unlike a0 x1 x2 w) := by
  unfold Hh_unlike
  exact (dP (g_Hh_unlike_0 h_w))
theorem g_Hh_vote_0 {b : Wd} {a0 : Nat} {x1 : Int} {w : Wd} (h_w : K0 b w) : GkP b (Hh_vote_0 a0 x1 w) := by
  unfold Hh_vote_0
  exact (bPP (g_Hh_isMaster h_w) (fun r2 h_r2 => (iP (s_P h_r2) (vP (fun v11 => (vP (fun v15 => (vP (fun v19 => (vP (fun v23 => (vP (fun v26 => (bWP (g_Ct_compare h_r2) (fun r29 h_r29 => (vP (fun v33 => (vP (fun v37 => (bPP (g_Ct_choice h_r29) (fun r42 h_r42 => (s_P h_r42))))))))))))))))))))))
theorem g_Hh_vote {b : Wd} {a0 : Nat} {x1 : Int} {w : Wd} (h_w : K0 b w) : GkP b (Hh_vote a0 x1 w) := by
  unfold Hh_vote
  exact (dP (g_Hh_vote_0 h_w))
theorem g_Hh_lesson_26 {b : Wd}  {w : Wd} (h_w : K0 b w) : GkP b (Hh_lesson_26 w) := by
  unfold Hh_lesson_26
  exact (s_P h_w)
theorem g_Hh_lesson_0 {b : Wd} {a0 : Nat} {x1 : Int} {x2 : Int} {x3 : Int} {w : Wd} (h_w : K0 b w) : GkP b (Hh_lesson_0 a0 x1 x2 x3 w) := by
  unfold Hh_lesson_0
  exact (bPP (g_Hh_isHeir h_w) (fun r2 h_r2 => (iP (g_Hh_lesson_26 h_r2) (bPP (g_Hh_isLetter h_r2) (fun r10 h_r10 => (iP (g_Hh_lesson_26 h_r10) (bPP (g_Hh_isWithin h_r10) (fun r20 h_r20 => (iP (g_Hh_lesson_26 h_r20) (vP (fun v29 => (vP (fun v33 => (bWP (g_Ps_keep h_r20) (fun r36 h_r36 => (vP (fun v40 => (vP (fun v47 => (vP (fun v50 => (vP (fun v54 => (bWP (g_St_teach h_r36) (fun r56 h_r56 => (vP (fun v60 => (bPP (g_St_off h_r56) (fun r65 h_r65 => (s_P h_r65))))))))))))))))))))))))))))))
theorem g_Hh_lesson {b : Wd} {a0 : Nat} {x1 : Int} {x2 : Int} {x3 : Int} {w : Wd} (h_w : K0 b w) : GkP b (Hh_lesson a0 x1 x2 x3 w) := by
  unfold Hh_lesson
  exact (dP (g_Hh_lesson_0 h_w))
theorem g_Hh_years_98 {b : Wd} {a0 : Nat} {w : Wd} (h_w : K0 b w) : GkP b (Hh_years_98 a0 w) := by
  unfold Hh_years_98
  exact (vP (fun v99 => (vP (fun v102 => (s_P h_w)))))
theorem g_Hh_years_29 {b : Wd}  : ∀ (q0 : Nat) (q1 : Nat) (q2 : Int) (q3 : Int) (w : Wd), K0 b w → GkP b (Hh_years_29  q0 q1 q2 q3 w)
  | 0, _, _, _, w, _ => by rw [Hh_years_29]; exact nP
  | n + 1, a0, x1, x2, w, h_w => by
    rw [Hh_years_29]
    exact (iP (g_Hh_years_98 h_w) (vP (fun v35 => (vP (fun v39 => (vP (fun v43 => (bWP (g_Ct_spendDays h_w) (fun r48 h_r48 => (vP (fun v52 => (vP (fun v56 => (vP (fun v60 => (bWP (g_Ct_settle h_r48) (fun r63 h_r63 => (vP (fun v67 => (vP (fun v71 => (bWP (g_Bk_lead h_r63) (fun r74 h_r74 => (vP (fun v78 => (vP (fun v82 => (vP (fun v86 => (bWP (g_Ct_endYear h_r74) (fun r89 h_r89 => (g_Hh_years_29 _ _ _ _ _ h_r89))))))))))))))))))))))))))))))))
theorem g_Hh_years_27 {b : Wd} {a0 : Nat} {x1 : Int} {w : Wd} (h_w : K0 b w) : GkP b (Hh_years_27 a0 x1 w) := by
  unfold Hh_years_27
  exact (g_Hh_years_29 _ _ _ _ _ h_w)
theorem g_Hh_years_0 {b : Wd} {a0 : Nat} {x1 : Int} {w : Wd} (h_w : K0 b w) : GkP b (Hh_years_0 a0 x1 w) := by
  unfold Hh_years_0
  exact (bPP (g_Hh_isWithin h_w) (fun r4 h_r4 => (iP (s_P h_r4) (iP (g_Hh_years_27 h_r4) (vP (fun v17 => (vP (fun v21 => (bWP (g_Ps_keep h_r4) (fun r24 h_r24 => (g_Hh_years_27 h_r24)))))))))))
theorem g_Hh_years {b : Wd} {a0 : Nat} {x1 : Int} {w : Wd} (h_w : K0 b w) : GkP b (Hh_years a0 x1 w) := by
  unfold Hh_years
  exact (dP (g_Hh_years_0 h_w))
theorem g_Hh_book_15 {b : Wd}  {w : Wd} (h_w : K0 b w) : GkP b (Hh_book_15 w) := by
  unfold Hh_book_15
  exact (s_P h_w)
theorem g_Hh_book_52 {b : Wd} {s0 : Int} {w : Wd} (h_w : K0 b w) : GkP b (Hh_book_52 s0 w) := by
  unfold Hh_book_52
  exact (s_P h_w)
theorem g_Hh_book_0 {b : Wd} {a0 : Nat} {x1 : Int} {x2 : Int} {w : Wd} (h_w : K0 b w) : GkP b (Hh_book_0 a0 x1 x2 w) := by
  unfold Hh_book_0
  exact (iP (g_Hh_book_15 h_w) (vP (fun v6 => (bPP (g_St_led h_w) (fun r9 h_r9 => (iP (iP (vP (fun v23 => (bPP (g_Bk_givenIn h_r9) (fun r27 h_r27 => (s_P h_r27))))) (bPP (g_Hh_isLetter h_r9) (fun r33 h_r33 => (iP (g_Hh_book_52 h_r33) (vP (fun v40 => (bPP (g_Bk_handOf h_r33) (fun r45 h_r45 => (g_Hh_book_52 h_r45))))))))) (g_Hh_book_15 h_r9)))))))
theorem g_Hh_book {b : Wd} {a0 : Nat} {x1 : Int} {x2 : Int} {w : Wd} (h_w : K0 b w) : GkP b (Hh_book a0 x1 x2 w) := by
  unfold Hh_book
  exact (dP (g_Hh_book_0 h_w))
theorem g_Hh_plan_18 {b : Wd}  {w : Wd} (h_w : K0 b w) : GkP b (Hh_plan_18 w) := by
  unfold Hh_plan_18
  exact (s_P h_w)
theorem g_Hh_plan_0 {b : Wd} {a0 : Nat} {x1 : Int} {x2 : Int} {w : Wd} (h_w : K0 b w) : GkP b (Hh_plan_0 a0 x1 x2 w) := by
  unfold Hh_plan_0
  exact (bPP (g_Hh_isHeir h_w) (fun r2 h_r2 => (iP (g_Hh_plan_18 h_r2) (bPP (g_Hh_isWithin h_r2) (fun r12 h_r12 => (iP (g_Hh_plan_18 h_r12) (vP (fun v21 => (vP (fun v25 => (vP (fun v29 => (bPP (g_Pl_lay h_r12) (fun r34 h_r34 => (s_P h_r34)))))))))))))))
theorem g_Hh_plan {b : Wd} {a0 : Nat} {x1 : Int} {x2 : Int} {w : Wd} (h_w : K0 b w) : GkP b (Hh_plan a0 x1 x2 w) := by
  unfold Hh_plan
  exact (dP (g_Hh_plan_0 h_w))
theorem g_Hh_planOf_26 {b : Wd}  {w : Wd} (h_w : K0 b w) : GkP b (Hh_planOf_26 w) := by
  unfold Hh_planOf_26
  exact (s_P h_w)
theorem g_Hh_planOf_0 {b : Wd} {a0 : Nat} {x1 : Int} {x2 : Int} {x3 : Int} {w : Wd} (h_w : K0 b w) : GkP b (Hh_planOf_0 a0 x1 x2 x3 w) := by
  unfold Hh_planOf_0
  exact (bPP (g_Hh_isHeir h_w) (fun r2 h_r2 => (iP (g_Hh_planOf_26 h_r2) (bPP (g_Hh_isWithin h_r2) (fun r12 h_r12 => (iP (g_Hh_planOf_26 h_r12) (bPP (g_Hh_isLetter h_r12) (fun r20 h_r20 => (iP (g_Hh_planOf_26 h_r20) (vP (fun v29 => (vP (fun v33 => (vP (fun v37 => (bPP (g_Pl_lay h_r20) (fun r42 h_r42 => (vP (fun v47 => (vP (fun v50 => (vP (fun v54 => (s_P h_r42))))))))))))))))))))))))
theorem g_Hh_planOf {b : Wd} {a0 : Nat} {x1 : Int} {x2 : Int} {x3 : Int} {w : Wd} (h_w : K0 b w) : GkP b (Hh_planOf a0 x1 x2 x3 w) := by
  unfold Hh_planOf
  exact (dP (g_Hh_planOf_0 h_w))
theorem g_Hh_needs_94 {b : Wd} {k12 : Nat → Int → Int → Wd → Option (Int × Wd)} {a0 : Nat} {x1 : Int} {x2 : Int} {w : Wd} (g_k12 : ∀ x0 x1 x2 z, K0 b z → GkP b (k12 x0 x1 x2 z)) (h_w : K0 b w) : GkP b (Hh_needs_94 k12 a0 x1 x2 w) := by
  unfold Hh_needs_94
  exact (vP (fun v95 => (vP (fun v99 => (vP (fun v103 => (vP (fun v107 => (vP (fun v110 => (bPP (g_Ct_given h_w) (fun r113 h_r113 => (iP (s_P h_r113) (g_k12 _ _ _ _ h_r113))))))))))))))
theorem g_Hh_needs_49 {b : Wd} {k12 : Nat → Int → Int → Wd → Option (Int × Wd)} (g_k12 : ∀ x0 x1 x2 z, K0 b z → GkP b (k12 x0 x1 x2 z)) : ∀ (q0 : Nat) (q1 : Nat) (q2 : Int) (q3 : Int) (q4 : Int) (w : Wd), K0 b w → GkP b (Hh_needs_49 k12 q0 q1 q2 q3 q4 w)
  | 0, _, _, _, _, w, _ => by rw [Hh_needs_49]; exact nP
  | n + 1, a0, x1, x2, x3, w, h_w => by
    rw [Hh_needs_49]
    exact (vP (fun v51 => (vP (fun v54 => (iP (g_Hh_needs_94 g_k12 h_w) (vP (fun v61 => (vP (fun v67 => (vP (fun v70 => (vP (fun v74 => (vP (fun v76 => (vP (fun v79 => (vP (fun v83 => (bWP (g_St_teach h_w) (fun r85 h_r85 => (g_Hh_needs_49 g_k12 _ _ _ _ _ _ h_r85))))))))))))))))))))))
theorem g_Hh_needs_12 {b : Wd}  : ∀ (q0 : Nat) (q1 : Nat) (q2 : Int) (q3 : Int) (w : Wd), K0 b w → GkP b (Hh_needs_12  q0 q1 q2 q3 w)
  | 0, _, _, _, w, _ => by rw [Hh_needs_12]; exact nP
  | n + 1, a0, x1, x2, w, h_w => by
    rw [Hh_needs_12]
    exact (iP (s_P h_w) (vP (fun v19 => (vP (fun v23 => (vP (fun v27 => (bPP (g_Pl_lay h_w) (fun r32 h_r32 => (vP (fun v37 => (vP (fun v41 => (bWP (g_St_copy h_r32) (fun r44 h_r44 => (g_Hh_needs_49 (fun y0 y1 y2 z hz => g_Hh_needs_12 _ y0 y1 y2 z hz) _ _ _ _ _ _ h_r44))))))))))))))))
theorem g_Hh_needs_0 {b : Wd} {a0 : Nat} {x1 : Int} {w : Wd} (h_w : K0 b w) : GkP b (Hh_needs_0 a0 x1 w) := by
  unfold Hh_needs_0
  exact (bPP (g_Hh_isHeir h_w) (fun r2 h_r2 => (iP (s_P h_r2) (g_Hh_needs_12 _ _ _ _ _ h_r2))))
theorem g_Hh_needs {b : Wd} {a0 : Nat} {x1 : Int} {w : Wd} (h_w : K0 b w) : GkP b (Hh_needs a0 x1 w) := by
  unfold Hh_needs
  exact (dP (g_Hh_needs_0 h_w))
theorem g_Hh_swing_0 {b : Wd} {a0 : Nat} {x1 : Int} {w : Wd} (h_w : K0 b w) : GkP b (Hh_swing_0 a0 x1 w) := by
  unfold Hh_swing_0
  exact (bPP (g_Hh_isMaster h_w) (fun r2 h_r2 => (iP (s_P h_r2) (vP (fun v11 => (vP (fun v15 => (vP (fun v19 => (vP (fun v23 => (vP (fun v26 => (bWP (g_Ct_compare h_r2) (fun r29 h_r29 => (vP (fun v33 => (vP (fun v37 => (bPP (g_Ct_award h_r29) (fun r42 h_r42 => (s_P h_r42))))))))))))))))))))))
theorem g_Hh_swing {b : Wd} {a0 : Nat} {x1 : Int} {w : Wd} (h_w : K0 b w) : GkP b (Hh_swing a0 x1 w) := by
  unfold Hh_swing
  exact (dP (g_Hh_swing_0 h_w))
theorem g_Hh_chance_18 {b : Wd}  {w : Wd} (h_w : K0 b w) : GkP b (Hh_chance_18 w) := by
  unfold Hh_chance_18
  exact (s_P h_w)
theorem g_Hh_chance_55 {b : Wd} {k25 : Nat → Int → Int → Int → Int → Wd → Option (Int × Wd)} {a0 : Nat} {x1 : Int} {x2 : Int} {x3 : Int} {x4 : Int} {w : Wd} (g_k25 : ∀ x0 x1 x2 x3 x4 z, K0 b z → GkP b (k25 x0 x1 x2 x3 x4 z)) (h_w : K0 b w) : GkP b (Hh_chance_55 k25 a0 x1 x2 x3 x4 w) := by
  unfold Hh_chance_55
  exact (g_k25 _ _ _ _ _ _ h_w)
theorem g_Hh_chance_25 {b : Wd}  : ∀ (q0 : Nat) (q1 : Nat) (q2 : Int) (q3 : Int) (q4 : Int) (q5 : Int) (w : Wd), K0 b w → GkP b (Hh_chance_25  q0 q1 q2 q3 q4 q5 w)
  | 0, _, _, _, _, _, w, _ => by rw [Hh_chance_25]; exact nP
  | n + 1, a0, x1, x2, x3, x4, w, h_w => by
    rw [Hh_chance_25]
    exact (iP (s_P h_w) (vP (fun v32 => (vP (fun v36 => (vP (fun v40 => (bPP (g_Ct_given h_w) (fun r45 h_r45 => (iP (g_Hh_chance_55 (fun y0 y1 y2 y3 y4 z hz => g_Hh_chance_25 _ y0 y1 y2 y3 y4 z hz) h_r45) (g_Hh_chance_55 (fun y0 y1 y2 y3 y4 z hz => g_Hh_chance_25 _ y0 y1 y2 y3 y4 z hz) h_r45)))))))))))
theorem g_Hh_chance_0 {b : Wd} {a0 : Nat} {x1 : Int} {x2 : Int} {w : Wd} (h_w : K0 b w) : GkP b (Hh_chance_0 a0 x1 x2 w) := by
  unfold Hh_chance_0
  exact (bPP (g_Hh_isHeir h_w) (fun r2 h_r2 => (iP (g_Hh_chance_18 h_r2) (bPP (g_Hh_isWithin h_r2) (fun r12 h_r12 => (iP (g_Hh_chance_18 h_r12) (g_Hh_chance_25 _ _ _ _ _ _ _ h_r12)))))))
theorem g_Hh_chance {b : Wd} {a0 : Nat} {x1 : Int} {x2 : Int} {w : Wd} (h_w : K0 b w) : GkP b (Hh_chance a0 x1 x2 w) := by
  unfold Hh_chance
  exact (dP (g_Hh_chance_0 h_w))
theorem g_Hh_without_0 {b : Wd} {a0 : Nat} {x1 : Int} {w : Wd} (h_w : K0 b w) : GkP b (Hh_without_0 a0 x1 w) := by
  unfold Hh_without_0
  exact (bPP (g_Hh_isHeir h_w) (fun r2 h_r2 => (iP (s_P h_r2) (vP (fun v11 => (vP (fun v15 => (vP (fun v19 => (vP (fun v23 => (vP (fun v26 => (bWP (g_Ct_compare h_r2) (fun r29 h_r29 => (vP (fun v33 => (vP (fun v37 => (bPP (g_Ct_award h_r29) (fun r42 h_r42 => (s_P h_r42))))))))))))))))))))))
theorem g_Hh_without {b : Wd} {a0 : Nat} {x1 : Int} {w : Wd} (h_w : K0 b w) : GkP b (Hh_without a0 x1 w) := by
  unfold Hh_without
  exact (dP (g_Hh_without_0 h_w))
theorem g_Hh_bias_18 {b : Wd}  {w : Wd} (h_w : K0 b w) : GkP b (Hh_bias_18 w) := by
  unfold Hh_bias_18
  exact (s_P h_w)
theorem g_Hh_bias_78 {b : Wd} {k36 : Nat → Int → Int → Int → Int → Wd → Option (Int × Wd)} {a0 : Nat} {x1 : Int} {x2 : Int} {x3 : Int} {x4 : Int} {w : Wd} (g_k36 : ∀ x0 x1 x2 x3 x4 z, K0 b z → GkP b (k36 x0 x1 x2 x3 x4 z)) (h_w : K0 b w) : GkP b (Hh_bias_78 k36 a0 x1 x2 x3 x4 w) := by
  unfold Hh_bias_78
  exact (g_k36 _ _ _ _ _ _ h_w)
theorem g_Hh_bias_36 {b : Wd}  : ∀ (q0 : Nat) (q1 : Nat) (q2 : Int) (q3 : Int) (q4 : Int) (q5 : Int) (w : Wd), K0 b w → GkP b (Hh_bias_36  q0 q1 q2 q3 q4 q5 w)
  | 0, _, _, _, _, _, w, _ => by rw [Hh_bias_36]; exact nP
  | n + 1, a0, x1, x2, x3, x4, w, h_w => by
    rw [Hh_bias_36]
    exact (iP (s_P h_w) (vP (fun v43 => (vP (fun v47 => (vP (fun v51 => (bPP (g_Ct_goThroughYear h_w) (fun r56 h_r56 => (vP (fun v62 => (vP (fun v65 => (vP (fun v69 => (iP (g_Hh_bias_78 (fun y0 y1 y2 y3 y4 z hz => g_Hh_bias_36 _ y0 y1 y2 y3 y4 z hz) h_r56) (g_Hh_bias_78 (fun y0 y1 y2 y3 y4 z hz => g_Hh_bias_36 _ y0 y1 y2 y3 y4 z hz) h_r56)))))))))))))))))
theorem g_Hh_bias_0 {b : Wd} {a0 : Nat} {x1 : Int} {x2 : Int} {w : Wd} (h_w : K0 b w) : GkP b (Hh_bias_0 a0 x1 x2 w) := by
  unfold Hh_bias_0
  exact (bPP (g_Hh_isMaster h_w) (fun r2 h_r2 => (iP (g_Hh_bias_18 h_r2) (bPP (g_Hh_isWithin h_r2) (fun r12 h_r12 => (iP (g_Hh_bias_18 h_r12) (vP (fun v21 => (vP (fun v25 => (bWP (g_St_copy h_r12) (fun r28 h_r28 => (g_Hh_bias_36 _ _ _ _ _ _ _ h_r28)))))))))))))
theorem g_Hh_bias {b : Wd} {a0 : Nat} {x1 : Int} {x2 : Int} {w : Wd} (h_w : K0 b w) : GkP b (Hh_bias a0 x1 x2 w) := by
  unfold Hh_bias
  exact (dP (g_Hh_bias_0 h_w))
theorem g_Hh_bestLetter_27 {b : Wd}  {w : Wd} (h_w : K0 b w) : GkP b (Hh_bestLetter_27 w) := by
  unfold Hh_bestLetter_27
  exact (s_P h_w)
theorem g_Hh_bestLetter_100 {b : Wd} {k40 : Nat → Int → Int → Int → Int → Int → Int → Wd → Option (Int × Wd)} {k69 : Nat → Int → Int → Int → Int → Int → Int → Int → Int → Wd → Option (Int × Wd)} {a0 : Nat} {x1 : Int} {x2 : Int} {x3 : Int} {x4 : Int} {x5 : Int} {x6 : Int} {x7 : Int} {x8 : Int} {w : Wd} (g_k40 : ∀ x0 x1 x2 x3 x4 x5 x6 z, K0 b z → GkP b (k40 x0 x1 x2 x3 x4 x5 x6 z)) (g_k69 : ∀ x0 x1 x2 x3 x4 x5 x6 x7 x8 z, K0 b z → GkP b (k69 x0 x1 x2 x3 x4 x5 x6 x7 x8 z)) (h_w : K0 b w) : GkP b (Hh_bestLetter_100 k40 k69 a0 x1 x2 x3 x4 x5 x6 x7 x8 w) := by
  unfold Hh_bestLetter_100
  exact (g_k69 _ _ _ _ _ _ _ _ _ _ h_w)
theorem g_Hh_bestLetter_121 {b : Wd} {k40 : Nat → Int → Int → Int → Int → Int → Int → Wd → Option (Int × Wd)} {a0 : Nat} {x1 : Int} {x2 : Int} {x3 : Int} {x4 : Int} {x5 : Int} {x6 : Int} {w : Wd} (g_k40 : ∀ x0 x1 x2 x3 x4 x5 x6 z, K0 b z → GkP b (k40 x0 x1 x2 x3 x4 x5 x6 z)) (h_w : K0 b w) : GkP b (Hh_bestLetter_121 k40 a0 x1 x2 x3 x4 x5 x6 w) := by
  unfold Hh_bestLetter_121
  exact (g_k40 _ _ _ _ _ _ _ _ h_w)
theorem g_Hh_bestLetter_106 {b : Wd} {k40 : Nat → Int → Int → Int → Int → Int → Int → Wd → Option (Int × Wd)} {a0 : Nat} {x1 : Int} {x2 : Int} {x3 : Int} {x4 : Int} {x5 : Int} {x6 : Int} {x7 : Int} {w : Wd} (g_k40 : ∀ x0 x1 x2 x3 x4 x5 x6 z, K0 b z → GkP b (k40 x0 x1 x2 x3 x4 x5 x6 z)) (h_w : K0 b w) : GkP b (Hh_bestLetter_106 k40 a0 x1 x2 x3 x4 x5 x6 x7 w) := by
  unfold Hh_bestLetter_106
  exact (iP (g_Hh_bestLetter_121 g_k40 h_w) (g_Hh_bestLetter_121 g_k40 h_w))
theorem g_Hh_bestLetter_69 {b : Wd} {k40 : Nat → Int → Int → Int → Int → Int → Int → Wd → Option (Int × Wd)} (g_k40 : ∀ x0 x1 x2 x3 x4 x5 x6 z, K0 b z → GkP b (k40 x0 x1 x2 x3 x4 x5 x6 z)) : ∀ (q0 : Nat) (q1 : Nat) (q2 : Int) (q3 : Int) (q4 : Int) (q5 : Int) (q6 : Int) (q7 : Int) (q8 : Int) (q9 : Int) (w : Wd), K0 b w → GkP b (Hh_bestLetter_69 k40 q0 q1 q2 q3 q4 q5 q6 q7 q8 q9 w)
  | 0, _, _, _, _, _, _, _, _, _, w, _ => by rw [Hh_bestLetter_69]; exact nP
  | n + 1, a0, x1, x2, x3, x4, x5, x6, x7, x8, w, h_w => by
    rw [Hh_bestLetter_69]
    exact (iP (g_Hh_bestLetter_106 g_k40 h_w) (vP (fun v76 => (vP (fun v80 => (vP (fun v84 => (bPP (g_Ct_goThroughYear h_w) (fun r90 h_r90 => (iP (g_Hh_bestLetter_100 g_k40 (fun y0 y1 y2 y3 y4 y5 y6 y7 y8 z hz => g_Hh_bestLetter_69 g_k40 _ y0 y1 y2 y3 y4 y5 y6 y7 y8 z hz) h_r90) (g_Hh_bestLetter_100 g_k40 (fun y0 y1 y2 y3 y4 y5 y6 y7 y8 z hz => g_Hh_bestLetter_69 g_k40 _ y0 y1 y2 y3 y4 y5 y6 y7 y8 z hz) h_r90)))))))))))
theorem g_Hh_bestLetter_138 {b : Wd} {s0 : Int} {w : Wd} (h_w : K0 b w) : GkP b (Hh_bestLetter_138 s0 w) := by
  unfold Hh_bestLetter_138
  exact (s_P h_w)
theorem g_Hh_bestLetter_127 {b : Wd} {x3 : Int} {x4 : Int} {x5 : Int} {w : Wd} (h_w : K0 b w) : GkP b (Hh_bestLetter_127 x3 x4 x5 w) := by
  unfold Hh_bestLetter_127
  exact (iP (g_Hh_bestLetter_138 h_w) (g_Hh_bestLetter_138 h_w))
theorem g_Hh_bestLetter_40 {b : Wd}  : ∀ (q0 : Nat) (q1 : Nat) (q2 : Int) (q3 : Int) (q4 : Int) (q5 : Int) (q6 : Int) (q7 : Int) (w : Wd), K0 b w → GkP b (Hh_bestLetter_40  q0 q1 q2 q3 q4 q5 q6 q7 w)
  | 0, _, _, _, _, _, _, _, w, _ => by rw [Hh_bestLetter_40]; exact nP
  | n + 1, a0, x1, x2, x3, x4, x5, x6, w, h_w => by
    rw [Hh_bestLetter_40]
    exact (vP (fun v43 => (vP (fun v46 => (iP (g_Hh_bestLetter_127 h_w) (vP (fun v53 => (vP (fun v57 => (bWP (g_St_copy h_w) (fun r60 h_r60 => (g_Hh_bestLetter_69 (fun y0 y1 y2 y3 y4 y5 y6 z hz => g_Hh_bestLetter_40 _ y0 y1 y2 y3 y4 y5 y6 z hz) _ _ _ _ _ _ _ _ _ _ _ h_r60))))))))))))
theorem g_Hh_bestLetter_0 {b : Wd} {a0 : Nat} {x1 : Int} {x2 : Int} {x3 : Int} {w : Wd} (h_w : K0 b w) : GkP b (Hh_bestLetter_0 a0 x1 x2 x3 w) := by
  unfold Hh_bestLetter_0
  exact (bPP (g_Hh_isHeir h_w) (fun r2 h_r2 => (iP (g_Hh_bestLetter_27 h_r2) (bPP (g_Hh_isWithin h_r2) (fun r12 h_r12 => (iP (g_Hh_bestLetter_27 h_r12) (bPP (g_Hh_isWithin h_r12) (fun r21 h_r21 => (iP (g_Hh_bestLetter_27 h_r21) (g_Hh_bestLetter_40 _ _ _ _ _ _ _ _ _ h_r21))))))))))
theorem g_Hh_bestLetter {b : Wd} {a0 : Nat} {x1 : Int} {x2 : Int} {x3 : Int} {w : Wd} (h_w : K0 b w) : GkP b (Hh_bestLetter a0 x1 x2 x3 w) := by
  unfold Hh_bestLetter
  exact (dP (g_Hh_bestLetter_0 h_w))
theorem g_Hh_reign_0 {b : Wd} {a0 : Nat} {x1 : Int} {w : Wd} (h_w : K0 b w) : GkP b (Hh_reign_0 a0 x1 w) := by
  unfold Hh_reign_0
  exact (bPP (g_Hh_isWithin h_w) (fun r3 h_r3 => (iP (s_P h_r3) (vP (fun v12 => (vP (fun v16 => (bPP (g_St_led h_r3) (fun r19 h_r19 => (bPP (g_Bk_longestReign h_r19) (fun r22 h_r22 => (iP (iP (vP (fun v61 => (vP (fun v66 => (bPP (g_St_led h_r22) (fun r69 h_r69 => (bPP (g_Bk_reignFrom h_r69) (fun r72 h_r72 => (s_P h_r72))))))))) (iP (s_P h_r22) (vP (fun v79 => (bPP (g_Bk_givenIn h_r22) (fun r83 h_r83 => (s_P h_r83))))))) (s_P h_r22)))))))))))))
theorem g_Hh_reign {b : Wd} {a0 : Nat} {x1 : Int} {w : Wd} (h_w : K0 b w) : GkP b (Hh_reign a0 x1 w) := by
  unfold Hh_reign
  exact (dP (g_Hh_reign_0 h_w))
theorem g_Hh_handOn_32 {b : Wd} {s0 : Int} {w : Wd} (h_w : K0 b w) : GkP b (Hh_handOn_32 s0 w) := by
  unfold Hh_handOn_32
  exact (s_P h_w)
theorem g_Hh_handOn_0 {b : Wd} {a0 : Nat} {x1 : Int} {x2 : Int} {w : Wd} (h_w : K0 b w) : GkP b (Hh_handOn_0 a0 x1 x2 w) := by
  unfold Hh_handOn_0
  exact (vP (fun v2 => (bPP (g_St_led h_w) (fun r5 h_r5 => (iP (vP (fun v24 => (vP (fun v27 => (vP (fun v31 => (g_Hh_handOn_32 h_r5))))))) (vP (fun v12 => (bPP (g_Bk_handOf h_r5) (fun r17 h_r17 => (g_Hh_handOn_32 h_r17))))))))))
theorem g_Hh_handOn {b : Wd} {a0 : Nat} {x1 : Int} {x2 : Int} {w : Wd} (h_w : K0 b w) : GkP b (Hh_handOn a0 x1 x2 w) := by
  unfold Hh_handOn
  exact (dP (g_Hh_handOn_0 h_w))
theorem g_Hh_apart_5 {b : Wd}  : ∀ (q0 : Nat) (q1 : Nat) (q2 : Int) (q3 : Int) (q4 : Int) (q5 : Int) (w : Wd), K0 b w → GkP b (Hh_apart_5  q0 q1 q2 q3 q4 q5 w)
  | 0, _, _, _, _, _, w, _ => by rw [Hh_apart_5]; exact nP
  | n + 1, a0, x1, x2, x3, x4, w, h_w => by
    rw [Hh_apart_5]
    exact (vP (fun v8 => (vP (fun v11 => (iP (s_P h_w) (bPP (g_Hh_handOn h_w) (fun r22 h_r22 => (vP (fun v26 => (bPP (g_St_own h_r22) (fun r32 h_r32 => (g_Hh_apart_5 _ _ _ _ _ _ _ h_r32))))))))))))
theorem g_Hh_apart_0 {b : Wd} {a0 : Nat} {x1 : Int} {x2 : Int} {w : Wd} (h_w : K0 b w) : GkP b (Hh_apart_0 a0 x1 x2 w) := by
  unfold Hh_apart_0
  exact (g_Hh_apart_5 _ _ _ _ _ _ _ h_w)
theorem g_Hh_apart {b : Wd} {a0 : Nat} {x1 : Int} {x2 : Int} {w : Wd} (h_w : K0 b w) : GkP b (Hh_apart a0 x1 x2 w) := by
  unfold Hh_apart
  exact (dP (g_Hh_apart_0 h_w))
theorem g_Hh_yearOn_22 {b : Wd} {s0 : Int} {w : Wd} (h_w : K0 b w) : GkP b (Hh_yearOn_22 s0 w) := by
  unfold Hh_yearOn_22
  exact (s_P h_w)
theorem g_Hh_yearOn_0 {b : Wd} {a0 : Nat} {x1 : Int} {w : Wd} (h_w : K0 b w) : GkP b (Hh_yearOn_0 a0 x1 w) := by
  unfold Hh_yearOn_0
  exact (vP (fun v2 => (bPP (g_St_led h_w) (fun r5 h_r5 => (iP (vP (fun v16 => (vP (fun v19 => (g_Hh_yearOn_22 h_r5))))) (g_Hh_yearOn_22 h_r5))))))
theorem g_Hh_yearOn {b : Wd} {a0 : Nat} {x1 : Int} {w : Wd} (h_w : K0 b w) : GkP b (Hh_yearOn a0 x1 w) := by
  unfold Hh_yearOn
  exact (dP (g_Hh_yearOn_0 h_w))
theorem g_Hh_copied_17 {b : Wd}  {w : Wd} (h_w : K0 b w) : GkP b (Hh_copied_17 w) := by
  unfold Hh_copied_17
  exact (s_P h_w)
theorem g_Hh_copied_67 {b : Wd} {k32 : Nat → Int → Int → Int → Int → Int → Wd → Option (Int × Wd)} {a0 : Nat} {x1 : Int} {x2 : Int} {x3 : Int} {x4 : Int} {x5 : Int} {w : Wd} (g_k32 : ∀ x0 x1 x2 x3 x4 x5 z, K0 b z → GkP b (k32 x0 x1 x2 x3 x4 x5 z)) (h_w : K0 b w) : GkP b (Hh_copied_67 k32 a0 x1 x2 x3 x4 x5 w) := by
  unfold Hh_copied_67
  exact (g_k32 _ _ _ _ _ _ _ h_w)
theorem g_Hh_copied_87 {b : Wd} {s0 : Int} {w : Wd} (h_w : K0 b w) : GkP b (Hh_copied_87 s0 w) := by
  unfold Hh_copied_87
  exact (s_P h_w)
theorem g_Hh_copied_73 {b : Wd} {a0 : Nat} {x2 : Int} {x3 : Int} {x4 : Int} {w : Wd} (h_w : K0 b w) : GkP b (Hh_copied_73 a0 x2 x3 x4 w) := by
  unfold Hh_copied_73
  exact (iP (bPP (g_Hh_yearOn h_w) (fun r79 h_r79 => (g_Hh_copied_87 h_r79))) (g_Hh_copied_87 h_w))
theorem g_Hh_copied_32 {b : Wd}  : ∀ (q0 : Nat) (q1 : Nat) (q2 : Int) (q3 : Int) (q4 : Int) (q5 : Int) (q6 : Int) (w : Wd), K0 b w → GkP b (Hh_copied_32  q0 q1 q2 q3 q4 q5 q6 w)
  | 0, _, _, _, _, _, _, w, _ => by rw [Hh_copied_32]; exact nP
  | n + 1, a0, x1, x2, x3, x4, x5, w, h_w => by
    rw [Hh_copied_32]
    exact (vP (fun v35 => (bPP (g_St_led h_w) (fun r38 h_r38 => (iP (g_Hh_copied_73 h_r38) (bPP (g_Hh_apart h_r38) (fun r48 h_r48 => (iP (g_Hh_copied_67 (fun y0 y1 y2 y3 y4 y5 z hz => g_Hh_copied_32 _ y0 y1 y2 y3 y4 y5 z hz) h_r48) (g_Hh_copied_67 (fun y0 y1 y2 y3 y4 y5 z hz => g_Hh_copied_32 _ y0 y1 y2 y3 y4 y5 z hz) h_r48)))))))))
theorem g_Hh_copied_0 {b : Wd} {a0 : Nat} {x1 : Int} {x2 : Int} {w : Wd} (h_w : K0 b w) : GkP b (Hh_copied_0 a0 x1 x2 w) := by
  unfold Hh_copied_0
  exact (bPP (g_Hh_isHeir h_w) (fun r2 h_r2 => (iP (g_Hh_copied_17 h_r2) (bPP (g_Hh_isWithin h_r2) (fun r11 h_r11 => (iP (g_Hh_copied_17 h_r11) (bPP (g_Hh_apart h_r11) (fun r24 h_r24 => (g_Hh_copied_32 _ _ _ _ _ _ _ _ h_r24)))))))))
theorem g_Hh_copied {b : Wd} {a0 : Nat} {x1 : Int} {x2 : Int} {w : Wd} (h_w : K0 b w) : GkP b (Hh_copied a0 x1 x2 w) := by
  unfold Hh_copied
  exact (dP (g_Hh_copied_0 h_w))
theorem g_Hh_tell_18 {b : Wd}  {w : Wd} (h_w : K0 b w) : GkP b (Hh_tell_18 w) := by
  unfold Hh_tell_18
  exact (s_P h_w)
theorem g_Hh_tell_0 {b : Wd} {a0 : Nat} {x1 : Int} {x2 : Int} {w : Wd} (h_w : K0 b w) : GkP b (Hh_tell_0 a0 x1 x2 w) := by
  unfold Hh_tell_0
  exact (bPP (g_Hh_isLetter h_w) (fun r2 h_r2 => (iP (g_Hh_tell_18 h_r2) (bPP (g_Hh_isWithin h_r2) (fun r12 h_r12 => (iP (g_Hh_tell_18 h_r12) (vP (fun v21 => (bPP (g_Pa_add h_r12) (fun r26 h_r26 => (s_P h_r26)))))))))))
theorem g_Hh_tell {b : Wd} {a0 : Nat} {x1 : Int} {x2 : Int} {w : Wd} (h_w : K0 b w) : GkP b (Hh_tell a0 x1 x2 w) := by
  unfold Hh_tell
  exact (dP (g_Hh_tell_0 h_w))
theorem g_Hh_isDated_62 {b : Wd}  {w : Wd} (h_w : K0 b w) : GkP b (Hh_isDated_62 w) := by
  unfold Hh_isDated_62
  exact (s_P h_w)
theorem g_Hh_isDated_3 {b : Wd}  : ∀ (q0 : Nat) (q1 : Nat) (q2 : Int) (q3 : Int) (q4 : Int) (q5 : Int) (w : Wd), K0 b w → GkP b (Hh_isDated_3  q0 q1 q2 q3 q4 q5 w)
  | 0, _, _, _, _, _, w, _ => by rw [Hh_isDated_3]; exact nP
  | n + 1, a0, x1, x2, x3, x4, w, h_w => by
    rw [Hh_isDated_3]
    exact (iP (g_Hh_isDated_62 h_w) (vP (fun v12 => (vP (fun v15 => (iP (g_Hh_isDated_62 h_w) (vP (fun v24 => (vP (fun v27 => (vP (fun v32 => (bPP (g_Hh_handOn h_w) (fun r33 h_r33 => (vP (fun v37 => (vP (fun v40 => (vP (fun v45 => (iP (g_Hh_isDated_3 _ _ _ _ _ _ _ h_r33) (s_P h_r33))))))))))))))))))))))
theorem g_Hh_isDated_0 {b : Wd} {a0 : Nat} {x1 : Int} {x2 : Int} {x3 : Int} {w : Wd} (h_w : K0 b w) : GkP b (Hh_isDated_0 a0 x1 x2 x3 w) := by
  unfold Hh_isDated_0
  exact (g_Hh_isDated_3 _ _ _ _ _ _ _ h_w)
theorem g_Hh_isDated {b : Wd} {a0 : Nat} {x1 : Int} {x2 : Int} {x3 : Int} {w : Wd} (h_w : K0 b w) : GkP b (Hh_isDated a0 x1 x2 x3 w) := by
  unfold Hh_isDated
  exact (dP (g_Hh_isDated_0 h_w))
theorem g_Hh_dated_30 {b : Wd}  {w : Wd} (h_w : K0 b w) : GkP b (Hh_dated_30 w) := by
  unfold Hh_dated_30
  exact (s_P h_w)
theorem g_Hh_dated_67 {b : Wd} {a0 : Nat} {x5 : Int} {w : Wd} (h_w : K0 b w) : GkP b (Hh_dated_67 a0 x5 w) := by
  unfold Hh_dated_67
  exact (bPP (g_Hh_yearOn h_w) (fun r70 h_r70 => (s_P h_r70)))
theorem g_Hh_dated_77 {b : Wd} {k38 : Nat → Int → Int → Int → Int → Int → Wd → Option (Int × Wd)} {a0 : Nat} {x1 : Int} {x2 : Int} {x3 : Int} {x4 : Int} {x5 : Int} {w : Wd} (g_k38 : ∀ x0 x1 x2 x3 x4 x5 z, K0 b z → GkP b (k38 x0 x1 x2 x3 x4 x5 z)) (h_w : K0 b w) : GkP b (Hh_dated_77 k38 a0 x1 x2 x3 x4 x5 w) := by
  unfold Hh_dated_77
  exact (g_k38 _ _ _ _ _ _ _ h_w)
theorem g_Hh_dated_94 {b : Wd} {s0 : Int} {w : Wd} (h_w : K0 b w) : GkP b (Hh_dated_94 s0 w) := by
  unfold Hh_dated_94
  exact (s_P h_w)
theorem g_Hh_dated_83 {b : Wd} {x3 : Int} {x4 : Int} {w : Wd} (h_w : K0 b w) : GkP b (Hh_dated_83 x3 x4 w) := by
  unfold Hh_dated_83
  exact (iP (g_Hh_dated_94 h_w) (g_Hh_dated_94 h_w))
theorem g_Hh_dated_38 {b : Wd}  : ∀ (q0 : Nat) (q1 : Nat) (q2 : Int) (q3 : Int) (q4 : Int) (q5 : Int) (q6 : Int) (w : Wd), K0 b w → GkP b (Hh_dated_38  q0 q1 q2 q3 q4 q5 q6 w)
  | 0, _, _, _, _, _, _, w, _ => by rw [Hh_dated_38]; exact nP
  | n + 1, a0, x1, x2, x3, x4, x5, w, h_w => by
    rw [Hh_dated_38]
    exact (vP (fun v41 => (bPP (g_St_led h_w) (fun r44 h_r44 => (iP (g_Hh_dated_83 h_r44) (bPP (g_Hh_isDated h_r44) (fun r55 h_r55 => (iP (g_Hh_dated_77 (fun y0 y1 y2 y3 y4 y5 z hz => g_Hh_dated_38 _ y0 y1 y2 y3 y4 y5 z hz) h_r55) (iP (g_Hh_dated_67 h_r55) (g_Hh_dated_77 (fun y0 y1 y2 y3 y4 y5 z hz => g_Hh_dated_38 _ y0 y1 y2 y3 y4 y5 z hz) h_r55))))))))))
theorem g_Hh_dated_0 {b : Wd} {a0 : Nat} {x1 : Int} {x2 : Int} {x3 : Int} {w : Wd} (h_w : K0 b w) : GkP b (Hh_dated_0 a0 x1 x2 x3 w) := by
  unfold Hh_dated_0
  exact (bPP (g_Hh_isWithin h_w) (fun r4 h_r4 => (iP (g_Hh_dated_30 h_r4) (vP (fun v13 => (vP (fun v16 => (bPP (g_Hh_isWithin h_r4) (fun r19 h_r19 => (iP (g_Hh_dated_30 h_r19) (iP (g_Hh_dated_38 _ _ _ _ _ _ _ _ h_r19) (g_Hh_dated_30 h_r19))))))))))))
theorem g_Hh_dated {b : Wd} {a0 : Nat} {x1 : Int} {x2 : Int} {x3 : Int} {w : Wd} (h_w : K0 b w) : GkP b (Hh_dated a0 x1 x2 x3 w) := by
  unfold Hh_dated
  exact (dP (g_Hh_dated_0 h_w))
theorem g_Hh_hold_0 {b : Wd} {a0 : Nat} {x1 : Int} {w : Wd} (h_w : K0 b w) : GkP b (Hh_hold_0 a0 x1 w) := by
  unfold Hh_hold_0
  exact (bPP (g_Hh_isWithin h_w) (fun r3 h_r3 => (iP (s_P h_r3) (vP (fun v12 => (vP (fun v16 => (vP (fun v17 => (vP (fun v21 => (bWP (g_St_copy h_r3) (fun r24 h_r24 => (vP (fun v28 => (vP (fun v32 => (vP (fun v33 => (vP (fun v37 => (vP (fun v41 => (bPP (g_St_led h_r24) (fun r44 h_r44 => (bWP (g_Bk_copy h_r44) (fun r47 h_r47 => (vP (fun v51 => (vP (fun v55 => (bWP (p_fpZ (by decide) h_r47) (fun w57 h_w57 => (s_P h_w57))))))))))))))))))))))))))))))))))
theorem g_Hh_hold {b : Wd} {a0 : Nat} {x1 : Int} {w : Wd} (h_w : K0 b w) : GkP b (Hh_hold a0 x1 w) := by
  unfold Hh_hold
  exact (dP (g_Hh_hold_0 h_w))
theorem g_Hh_restore_21 {b : Wd}  {w : Wd} (h_w : K0 b w) : GkP b (Hh_restore_21 w) := by
  unfold Hh_restore_21
  exact (s_P h_w)
theorem g_Hh_restore_0 {b : Wd} {a0 : Nat} {x1 : Int} {w : Wd} (h_w : K0 b w) : GkP b (Hh_restore_0 a0 x1 w) := by
  unfold Hh_restore_0
  exact (bPP (g_Hh_isWithin h_w) (fun r3 h_r3 => (iP (g_Hh_restore_21 h_r3) (vP (fun v10 => (vP (fun v14 => (vP (fun v15 => (iP (g_Hh_restore_21 h_r3) (vP (fun v24 => (vP (fun v28 => (vP (fun v32 => (vP (fun v33 => (bWP (g_St_copy h_r3) (fun r36 h_r36 => (vP (fun v40 => (vP (fun v44 => (vP (fun v48 => (vP (fun v49 => (vP (fun v53 => (bPP (g_St_led h_r36) (fun r56 h_r56 => (bWP (g_Bk_copy h_r56) (fun r59 h_r59 => (vP (fun v63 => (bWP (g_Ps_clear h_r59) (fun r66 h_r66 => (s_P h_r66)))))))))))))))))))))))))))))))))))))))
theorem g_Hh_restore {b : Wd} {a0 : Nat} {x1 : Int} {w : Wd} (h_w : K0 b w) : GkP b (Hh_restore a0 x1 w) := by
  unfold Hh_restore
  exact (dP (g_Hh_restore_0 h_w))
theorem g_Hh_fullSlots_24 {b : Wd} {k4 : Nat → Int → Int → Wd → Option (Int × Wd)} {a0 : Nat} {x1 : Int} {x2 : Int} {w : Wd} (g_k4 : ∀ x0 x1 x2 z, K0 b z → GkP b (k4 x0 x1 x2 z)) (h_w : K0 b w) : GkP b (Hh_fullSlots_24 k4 a0 x1 x2 w) := by
  unfold Hh_fullSlots_24
  exact (g_k4 _ _ _ _ h_w)
theorem g_Hh_fullSlots_4 {b : Wd}  : ∀ (q0 : Nat) (q1 : Nat) (q2 : Int) (q3 : Int) (w : Wd), K0 b w → GkP b (Hh_fullSlots_4  q0 q1 q2 q3 w)
  | 0, _, _, _, w, _ => by rw [Hh_fullSlots_4]; exact nP
  | n + 1, a0, x1, x2, w, h_w => by
    rw [Hh_fullSlots_4]
    exact (iP (s_P h_w) (vP (fun v10 => (vP (fun v14 => (vP (fun v15 => (iP (g_Hh_fullSlots_24 (fun y0 y1 y2 z hz => g_Hh_fullSlots_4 _ y0 y1 y2 z hz) h_w) (g_Hh_fullSlots_24 (fun y0 y1 y2 z hz => g_Hh_fullSlots_4 _ y0 y1 y2 z hz) h_w)))))))))
theorem g_Hh_fullSlots_0 {b : Wd} {a0 : Nat} {w : Wd} (h_w : K0 b w) : GkP b (Hh_fullSlots_0 a0 w) := by
  unfold Hh_fullSlots_0
  exact (g_Hh_fullSlots_4 _ _ _ _ _ h_w)
theorem g_Hh_fullSlots {b : Wd} {a0 : Nat} {w : Wd} (h_w : K0 b w) : GkP b (Hh_fullSlots a0 w) := by
  unfold Hh_fullSlots
  exact (dP (g_Hh_fullSlots_0 h_w))
theorem g_Hh_count_0 {b : Wd} {a0 : Nat} {x1 : Int} {w : Wd} (h_w : K0 b w) : GkP b (Hh_count_0 a0 x1 w) := by
  unfold Hh_count_0
  exact (iP (vP (fun v69 => (vP (fun v72 => (s_P h_w))))) (iP (vP (fun v77 => (vP (fun v80 => (s_P h_w))))) (iP (vP (fun v85 => (vP (fun v88 => (s_P h_w))))) (iP (vP (fun v93 => (vP (fun v96 => (s_P h_w))))) (iP (vP (fun v101 => (vP (fun v104 => (s_P h_w))))) (iP (vP (fun v109 => (vP (fun v112 => (s_P h_w))))) (iP (vP (fun v117 => (vP (fun v120 => (s_P h_w))))) (iP (vP (fun v125 => (vP (fun v128 => (s_P h_w))))) (iP (vP (fun v133 => (bPP (g_St_led h_w) (fun r136 h_r136 => (s_P h_r136))))) (iP (vP (fun v141 => (s_P h_w))) (iP (vP (fun v146 => (vP (fun v149 => (s_P h_w))))) (iP (vP (fun v154 => (vP (fun v157 => (s_P h_w))))) (iP (bPP (g_Hh_fullSlots h_w) (fun r162 h_r162 => (s_P h_r162))) (s_P h_w))))))))))))))
theorem g_Hh_count {b : Wd} {a0 : Nat} {x1 : Int} {w : Wd} (h_w : K0 b w) : GkP b (Hh_count a0 x1 w) := by
  unfold Hh_count
  exact (dP (g_Hh_count_0 h_w))
