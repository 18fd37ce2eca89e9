/-! Level 3, read: the reference's call; its end where something is wrong. -/
section MZ
variable {L wl dr tx : Nat} {N d : Nat} {w : Wd}
def PRm (d a k : Nat) : Prop := P36 d a k ∨ a = 225 ∨ (a = 223 ∧ k = 4)
theorem m_read {s : Nat} {Q : Sum Ft Sst → Int × Wd → Prop} (hs : s ≤ 1) (hds : d = 1 - s) (hO : Ok L wl dr tx w) (hN : N ≤ 2000) (h2 : wI w 223 2 = (N : Int)) (hB : ∀ i, i < N → -128 ≤ wI w 224 i ∧ wI w 224 i ≤ 127) (hK : ∀ k, k < 17 → wL w 230 k = ky k) (h18 : wI w 223 18 = (s : Int)) (kE : ∀ e w1, FL (PRm d) Q36 w w1 → wI w1 223 2 = 0 → ERR (cb (fun i => wI w 224 i) N) N w1 e → Wp (Mo_read_134 223 w1) (Q (.inl e))) (kk : ∀ s t w1, FL (PRm d) Q36 w w1 → wI w1 223 2 = 0 → MDR (cb (fun i => wI w 224 i) N) N d w1 s t → kK (cb (fun i => wI w 224 i) N) N t = 0 → Wp (Mo_read_134 223 w1) (Q (.inr s))) : Wp (Mo_read 223 w) (Q (rdl (kK (cb (fun i => wI w 224 i) N) N) (kV (cb (fun i => wI w 224 i) N) N) (kN (cb (fun i => wI w 224 i) N) N) 402 s0 0)) := by
  unfold Mo_read Mo_read_0
  generalize hFU : FU = fu; have hfu : 1000000 = fu := hFU
  refine wp_gd hO rfl (wp_gI hO rfl ?_)
  rw [h2]
  refine wp_pI hO rfl ?_
  generalize hw1 : sI w 223 4 (N : Int) = w1
  have hO1 : Ok L wl dr tx w1 := by rw [← hw1]; exact hO.sI
  have f1 : FL (PRm d) Q36 w w1 := by rw [← hw1]; exact (FL.rf w).sI (Or.inr (Or.inr ⟨rfl, rfl⟩))
  have n1 : ∀ a k, a ≠ 223 ∨ k ≠ 4 → wI w1 a k = wI w a k := fun a k q => by rw [← hw1, wI_ne q]
  have v1 : wI w1 223 4 = (N : Int) := by rw [← hw1, wI_eq]
  have l1 : ∀ a k, wL w1 a k = wL w a k := fun a k => by rw [← hw1, wL_sI]
  clear hw1
  refine m_read10 hN hO1 v1 (fun i hi => by rw [n1 _ _ (by omega)]; exact hB i hi) (fun w2 f2 u2 => ?_) N fu 0 w1 (Nat.zero_add _) (by omega) (Fr.rf w1) (fun j hj => absurd hj (Nat.not_lt_zero _))
  have f2' : FL (PRm d) Q36 w w2 := f1.tr (f2.mono (fun a k q => Or.inr (Or.inl q))).fl
  have n2 : ∀ a k, a ≠ 225 → wI w2 a k = wI w1 a k := fun a k q => f2.at a k q
  have S2 : SMN w2 (fun i => wI w 224 i) N := ⟨hN, (n2 _ _ (by omega)).trans v1, fun i hi => ⟨by rw [u2 i hi, n1 _ _ (by omega)], (hB i hi).1, (hB i hi).2⟩, fun k hk => by rw [f2.2.2.2.1, l1]; exact hK k hk⟩
  have up : ∀ w3, FL (P36 d) Q36 w2 w3 → FL (PRm d) Q36 w w3 := fun w3 f3 => f2'.tr (f3.mono (fun a k q => Or.inl q) (fun a k q => q))
  exact m_read36 hs hds (f2.ok hO1) S2 (by rw [n2 _ _ (by omega), n1 _ _ (by omega), h18]) (fun e w3 f3 z3 E3 => kE e w3 (up w3 f3) z3 E3) (fun s' t w3 f3 z3 D3 k3 => kk s' t w3 (up w3 f3) z3 D3 k3)
def P17 (a k : Nat) : Prop := a = 223 ∧ k = 17
theorem m_endE {c : Nat → Int} {e : Ft} (hO : Ok L wl dr tx w) (hE : ERR c N w e) : Wp (Mo_read_134 223 w) (fun r => r.1 = (e.1 : Int) ∧ Fr P17 w r.2 ∧ wI r.2 223 17 = (kP c N e.2 : Int)) := by
  have p := err_pos hE
  unfold Mo_read_134 Mo_read_164
  refine wp_gI hO rfl (wp_neg (by omega) (wp_gI hO rfl (wp_pI hO rfl ?_)))
  rw [hE.2.2]
  generalize hw1 : sI w 223 17 (kP c N e.2 : Int) = w1
  have hO1 : Ok L wl dr tx w1 := by rw [← hw1]; exact hO.sI
  have f1 : Fr P17 w w1 := by rw [← hw1]; exact fr_sI ⟨rfl, rfl⟩
  have v1 : wI w1 223 17 = (kP c N e.2 : Int) := by rw [← hw1, wI_eq]
  have e13 : wI w1 223 13 = wI w 223 13 := f1.at _ _ (by unfold P17; omega)
  clear hw1
  refine wp_gI hO1 rfl (wp_neg (by omega) (wp_gI hO1 rfl (wp_ret ⟨?_, f1, v1⟩)))
  rw [e13]
  exact hE.2.1
theorem m_endN {c : Nat → Int} {n : Ft} {t : Nat} (hO : Ok L wl dr tx w) (h13 : wI w 223 13 = 0) (hN : NTM c N w n t) (hn : n.1 ≠ 0) : Wp (Mo_read_134 223 w) (fun r => r.1 = (n.1 : Int) ∧ Fr P17 w r.2 ∧ wI r.2 223 17 = (kP c N n.2 : Int)) := by
  rcases hN with ⟨q, _⟩ | ⟨_, h15, h16, _⟩
  · exact absurd q hn
  unfold Mo_read_134 Mo_read_164
  refine wp_gI hO rfl (wp_pos (by omega) (wp_gI hO rfl (wp_neg (by omega) (wp_gI hO rfl (wp_pI hO rfl ?_)))))
  rw [h16]
  generalize hw1 : sI w 223 17 (kP c N n.2 : Int) = w1
  have hO1 : Ok L wl dr tx w1 := by rw [← hw1]; exact hO.sI
  have f1 : Fr P17 w w1 := by rw [← hw1]; exact fr_sI ⟨rfl, rfl⟩
  have v1 : wI w1 223 17 = (kP c N n.2 : Int) := by rw [← hw1, wI_eq]
  have e13 : wI w1 223 13 = wI w 223 13 := f1.at _ _ (by unfold P17; omega)
  have e15 : wI w1 223 15 = wI w 223 15 := f1.at _ _ (by unfold P17; omega)
  clear hw1
  refine wp_gI hO1 rfl (wp_pos (by omega) (wp_gI hO1 rfl (wp_neg (by omega) (wp_gI hO1 rfl (wp_ret ⟨?_, f1, v1⟩)))))
  rw [e15]
  exact h15
end MZ
