/-! Level 3, read: the reference reads its text. -/
section MX
variable {L wl dr tx : Nat} {B : Nat → Int} {N d : Nat} {w : Wd}
def P36 (d a k : Nat) : Prop := PMs d a k ∨ PMt a k ∨ (a = 223 ∧ (k = 2 ∨ k = 19))
def Q36 (a k : Nat) : Prop := a = 229 ∨ a = 231
theorem pl_36 {w1 : Wd} (f : Fr (Ppl d) w w1) : FL (P36 d) Q36 w w1 := (f.mono (fun a k q => Or.inl (Or.inr (Or.inr (Or.inr (Or.inr (Or.inr (by unfold Ppl P46 at q; unfold RG; omega)))))))).fl
theorem ms_2 : ¬ PMs d 223 2 := by unfold PMs RG; omega
theorem p36_f {k : Nat} (h : k = 11 ∨ k = 12 ∨ k = 13 ∨ k = 14 ∨ k = 15 ∨ k = 16 ∨ k = 20 ∨ k = 35 ∨ k = 41 ∨ k = 45) : P36 d 223 k := Or.inl (Or.inl ⟨rfl, h⟩)
theorem mdr_s0 {c : Nat → Int} {w6 : Wd} (v13 : wI w6 223 13 = 0) (v12 : wI w6 223 12 = 0) (v19 : wI w6 223 19 = (d : Int)) (v11 : wI w6 223 11 = 0) (v15 : wI w6 223 15 = 0) (p : wI w6 233 d = 0 ∧ wI w6 235 d = 0 ∧ wI w6 239 d = 0 ∧ wI w6 240 d = 3 ∧ wI w6 241 d = 9999 ∧ wI w6 242 d = 0) (v35 : wI w6 223 35 = ((130 * d : Nat) : Int)) (v41 : wI w6 223 41 = ((420 * d : Nat) : Int)) (pl : ∀ j, j < 10 → wI w6 243 (10 * d + j) = 0 ∧ wI w6 244 (10 * d + j) = 0) (v20 : wI w6 223 20 = 0) : MDR c N d w6 s0 0 := by
  refine ⟨⟨v13, v12, v19⟩, ⟨⟨Nat.zero_le _, fun i hi => absurd hi (Nat.not_lt_zero _)⟩, v11⟩, Or.inl ⟨rfl, v15⟩, ⟨⟨Nat.zero_le _, Nat.zero_le _, Nat.zero_le _⟩, p, fun l hl => absurd hl (Nat.not_lt_zero _), fun x hx => absurd hx (Nat.not_lt_zero _), fun x hx => absurd hx (Nat.not_lt_zero _)⟩, ⟨130 * d, 420 * d, v35, v41, Nat.le_refl _, Nat.le_add_right _ _, Nat.le_refl _, Nat.le_add_right _ _, fun k hk => pl k hk⟩, v20, fun k hk => absurd hk (Nat.not_lt_zero _), rfl, fun v => ⟨fun h => ?_, fun hv => absurd hv (List.not_mem_nil)⟩⟩
  obtain ⟨k, k1, _⟩ := h
  exact absurd k1 (Nat.not_lt_zero _)
theorem m_read36 {s : Nat} {Q : Sum Ft Sst → Int × Wd → Prop} (hs : s ≤ 1) (hds : d = 1 - s) (hO : Ok L wl dr tx w) (hS : SMN w B N) (h18 : wI w 223 18 = (s : Int)) (kE : ∀ e w1, FL (P36 d) Q36 w w1 → wI w1 223 2 = 0 → ERR (cb B N) N w1 e → Wp (Mo_read_134 223 w1) (Q (.inl e))) (kk : ∀ s t w1, FL (P36 d) Q36 w w1 → wI w1 223 2 = 0 → MDR (cb B N) N d w1 s t → kK (cb B N) N t = 0 → Wp (Mo_read_134 223 w1) (Q (.inr s))) : Wp (Mo_read_36 223 w) (Q (rdl (kK (cb B N) N) (kV (cb B N) N) (kN (cb B N) N) 402 s0 0)) := by
  have hd : d ≤ 1 := by omega
  unfold Mo_read_36
  generalize hFU : FU = fu; have hfu : 1000000 = fu := hFU
  refine wp_pI hO rfl ?_
  generalize hw1 : sI w 223 2 0 = w1
  have hO1 : Ok L wl dr tx w1 := by rw [← hw1]; exact hO.sI
  have f1 : FL (P36 d) Q36 w w1 := by rw [← hw1]; exact (FL.rf w).sI (Or.inr (Or.inr ⟨rfl, Or.inl rfl⟩))
  have n1 : ∀ a k, a ≠ 223 ∨ k ≠ 2 → wI w1 a k = wI w a k := fun a k q => by rw [← hw1, wI_ne q]
  have u1 : wI w1 223 2 = 0 := by rw [← hw1, wI_eq]
  have S1 : SMN w1 B N := ⟨hS.1, (n1 _ _ (by omega)).trans hS.2.1, fun i hi => by rw [n1 _ _ (by omega)]; exact hS.2.2.1 i hi, fun k hk => by rw [← hw1, wL_sI]; exact hS.2.2.2 k hk⟩
  clear hw1
  refine wp_call (m_cut hO1 S1) (fun w2 g => ?_)
  obtain ⟨f2, T2⟩ := g
  have hO2 := f2.ok hO1
  have f2' : FL (P36 d) Q36 w w2 := f1.tr (f2.mono (fun a k q => Or.inr (Or.inl q)) (fun a k q => Or.inl q))
  have n2 : ∀ k, k ≠ 10 → wI w2 223 k = wI w1 223 k := fun k q => f2.i _ _ (by unfold PMt; omega)
  refine wp_pI hO2 rfl (wp_pI hO2.sI rfl (wp_pI hO2.sI.sI rfl (wp_pI hO2.sI.sI.sI rfl ?_)))
  generalize hw3 : sI (sI (sI (sI w2 223 11 0) 223 12 0) 223 13 0) 223 15 0 = w3
  have hO3 : Ok L wl dr tx w3 := by rw [← hw3]; exact hO2.sI.sI.sI.sI
  have f3 : FL (P36 d) Q36 w w3 := by rw [← hw3]; exact (((f2'.sI (p36_f (by decide))).sI (p36_f (by decide))).sI (p36_f (by decide))).sI (p36_f (by decide))
  have n3 : ∀ a k, a ≠ 223 ∨ (k ≠ 11 ∧ k ≠ 12 ∧ k ≠ 13 ∧ k ≠ 15) → wI w3 a k = wI w2 a k := fun a k q => by rw [← hw3, wI_ne (by omega), wI_ne (by omega), wI_ne (by omega), wI_ne (by omega)]
  have l3 : ∀ a k, wL w3 a k = wL w2 a k := fun a k => by rw [← hw3, wL_sI, wL_sI, wL_sI, wL_sI]
  have v15 : wI w3 223 15 = 0 := by rw [← hw3, wI_eq]
  have v13 : wI w3 223 13 = 0 := by rw [← hw3, wI_ne (by omega), wI_eq]
  have v12 : wI w3 223 12 = 0 := by rw [← hw3, wI_ne (by omega), wI_ne (by omega), wI_eq]
  have v11 : wI w3 223 11 = 0 := by rw [← hw3, wI_ne (by omega), wI_ne (by omega), wI_ne (by omega), wI_eq]
  clear hw3
  refine wp_gI hO3 rfl ?_
  rw [n3 223 18 (by omega), n2 18 (by omega), n1 223 18 (by omega), h18, w32_id (by omega) (by omega), show 1 - (s : Int) = (d : Int) by omega]
  refine wp_pI hO3 rfl (wp_pI hO3.sI rfl ?_)
  generalize hw4 : sI (sI w3 223 19 (d : Int)) 223 20 0 = w4
  have hO4 : Ok L wl dr tx w4 := by rw [← hw4]; exact hO3.sI.sI
  have f4 : FL (P36 d) Q36 w w4 := by rw [← hw4]; exact (f3.sI (Or.inr (Or.inr ⟨rfl, Or.inr rfl⟩))).sI (p36_f (by decide))
  have n4 : ∀ a k, a ≠ 223 ∨ (k ≠ 19 ∧ k ≠ 20) → wI w4 a k = wI w3 a k := fun a k q => by rw [← hw4, wI_ne (by omega), wI_ne (by omega)]
  have l4 : ∀ a k, wL w4 a k = wL w3 a k := fun a k => by rw [← hw4, wL_sI, wL_sI]
  have v20 : wI w4 223 20 = 0 := by rw [← hw4, wI_eq]
  have v19 : wI w4 223 19 = (d : Int) := by rw [← hw4, wI_ne (by omega), wI_eq]
  clear hw4
  refine wp_gI hO4 rfl ?_
  rw [v19]
  refine wp_call (m_plain hd hO4) (fun w5 g => ?_)
  obtain ⟨f5, ⟨p1, p2, p3, p4, p5, p6⟩, pl⟩ := g
  have hO5 := f5.ok hO4
  have f5' : FL (P36 d) Q36 w w5 := f4.tr (pl_36 f5)
  have n5 : ∀ a k, a < 233 → wI w5 a k = wI w4 a k := fun a k q => f5.at a k (by unfold Ppl P46; omega)
  refine wp_gI hO5 rfl ?_
  rw [n5 223 19 (by omega), v19, w32_id (z := 130 * (d : Int)) (by omega) (by omega)]
  refine wp_pI hO5 rfl (wp_gI hO5.sI rfl ?_)
  rw [wI_ne (by omega), n5 223 19 (by omega), v19, w32_id (z := 420 * (d : Int)) (by omega) (by omega)]
  refine wp_pI hO5.sI rfl ?_
  generalize hw6 : sI (sI w5 223 35 (130 * (d : Int))) 223 41 (420 * (d : Int)) = w6
  have hO6 : Ok L wl dr tx w6 := by rw [← hw6]; exact hO5.sI.sI
  have f6 : FL (P36 d) Q36 w w6 := by rw [← hw6]; exact (f5'.sI (p36_f (by decide))).sI (p36_f (by decide))
  have n6 : ∀ a k, a ≠ 223 ∨ (k ≠ 35 ∧ k ≠ 41) → wI w6 a k = wI w5 a k := fun a k q => by rw [← hw6, wI_ne (by omega), wI_ne (by omega)]
  have l6 : ∀ a k, wL w6 a k = wL w5 a k := fun a k => by rw [← hw6, wL_sI, wL_sI]
  have v41 : wI w6 223 41 = ((420 * d : Nat) : Int) := by rw [← hw6, wI_eq]; omega
  have v35 : wI w6 223 35 = ((130 * d : Nat) : Int) := by rw [← hw6, wI_ne (by omega), wI_eq]; omega
  clear hw6
  have m6 : ∀ a k, (a = 223 ∧ (k = 2 ∨ k = 11 ∨ k = 12 ∨ k = 13 ∨ k = 15)) ∨ (226 ≤ a ∧ a ≤ 228) → wI w6 a k = wI w3 a k := fun a k q => by rw [n6 a k (by omega), n5 a k (by omega), n4 a k (by omega)]
  have T6 : MT (cb B N) N w6 := T2.eq (fun a k q1 q2 => (m6 a k (by omega)).trans (n3 a k (by omega))) (fun k => by rw [l6, f5.2.2.2.1, l4, l3])
  have z6 : wI w6 223 2 = 0 := by rw [m6 _ _ (by omega), n3 _ _ (by omega), n2 _ (by omega), u1]
  have hm : ∀ w7, FL (PMs d) QMs w6 w7 → FL (P36 d) Q36 w w7 ∧ wI w7 223 2 = 0 := fun w7 f7 => ⟨f6.tr (f7.mono (fun a k q => Or.inl q) (fun a k q => Or.inr q)), by rw [f7.i 223 2 ms_2, z6]⟩
  refine m_read112 hd hO6 T6 (fun e w7 f7 E7 => kE e w7 (hm w7 f7).1 (hm w7 f7).2 E7) (fun s' t w7 f7 D7 k7 => kk s' t w7 (hm w7 f7).1 (hm w7 f7).2 D7 k7) 402 fu 0 s0 w6 (Nat.le_refl _) (by omega) (FL.rf w6) (mdr_s0 ((m6 _ _ (by omega)).trans v13) ((m6 _ _ (by omega)).trans v12) ?_ ((m6 _ _ (by omega)).trans v11) ((m6 _ _ (by omega)).trans v15) ⟨(n6 _ _ (by omega)).trans p1, (n6 _ _ (by omega)).trans p2, (n6 _ _ (by omega)).trans p3, (n6 _ _ (by omega)).trans p4, (n6 _ _ (by omega)).trans p5, (n6 _ _ (by omega)).trans p6⟩ v35 v41 (fun k hk => ?_) ?_)
  · rw [n6 _ _ (by omega), n5 _ _ (by omega), v19]
  · rw [n6 _ _ (by omega), n6 _ _ (by omega)]
    exact pl k hk
  · rw [n6 _ _ (by omega), n5 _ _ (by omega), v20]
end MX
