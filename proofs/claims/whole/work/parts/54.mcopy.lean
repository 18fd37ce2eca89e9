/-! Level 3, the reference: rows are copied. -/
def PF (a k : Nat) : Prop := a = 223 ∧ 51 ≤ k ∧ k ≤ 55
def PK (n a k : Nat) : Prop := (a = 223 ∧ 51 ≤ k ∧ k ≤ 55) ∨ (a = 256 ∧ k < n)
section MCP
variable {L wl dr tx s : Nat} {V : Vl} {σ : Sg} {w : Wd}
theorem m_freshly (hO : Ok L wl dr tx w) (hs : wI w 223 18 = (s : Int)) (hs1 : s ≤ 1) : Wp (Mo_freshly 223 w) (fun w1 => Fr PF w w1 ∧ wI w1 223 51 = wI w 242 s ∧ wI w1 223 52 = -1 ∧ wI w1 223 53 = -1 ∧ wI w1 223 54 = -1 ∧ wI w1 223 55 = -1) := by
  unfold Mo_freshly Mo_freshly_0
  refine wp_gd hO rfl (wp_R12_32 hO (wp_gI hO rfl ?_))
  rw [hs]
  refine wp_rI hO rfl (by omega) ?_
  rw [Int.toNat_natCast]
  refine wp_pI hO rfl ?_
  generalize hw1 : sI w 223 51 (wI w 242 s) = w1
  have f1 : Fr PF w w1 := by rw [← hw1]; exact fr_sI (by unfold PF; omega)
  have hO1 := f1.ok hO
  have v1 : wI w1 223 51 = wI w 242 s := by rw [← hw1]; exact wI_eq _ _ _ _
  refine wp_pI hO1 rfl ?_
  generalize hw2 : sI w1 223 52 (-1) = w2
  have f2 : Fr PF w w2 := by rw [← hw2]; exact f1.sI (by unfold PF; omega)
  have hO2 := f2.ok hO
  have v2 : wI w2 223 51 = wI w 242 s ∧ wI w2 223 52 = -1 := by rw [← hw2]; exact ⟨(wI_ne (by omega)).trans v1, wI_eq _ _ _ _⟩
  refine wp_pI hO2 rfl ?_
  generalize hw3 : sI w2 223 53 (-1) = w3
  have f3 : Fr PF w w3 := by rw [← hw3]; exact f2.sI (by unfold PF; omega)
  have hO3 := f3.ok hO
  have v3 : wI w3 223 51 = wI w 242 s ∧ wI w3 223 52 = -1 ∧ wI w3 223 53 = -1 := by rw [← hw3]; exact ⟨(wI_ne (by omega)).trans v2.1, (wI_ne (by omega)).trans v2.2, wI_eq _ _ _ _⟩
  refine wp_pI hO3 rfl ?_
  generalize hw4 : sI w3 223 54 (-1) = w4
  have f4 : Fr PF w w4 := by rw [← hw4]; exact f3.sI (by unfold PF; omega)
  have hO4 := f4.ok hO
  have v4 : wI w4 223 51 = wI w 242 s ∧ wI w4 223 52 = -1 ∧ wI w4 223 53 = -1 ∧ wI w4 223 54 = -1 := by rw [← hw4]; exact ⟨(wI_ne (by omega)).trans v3.1, (wI_ne (by omega)).trans v3.2.1, (wI_ne (by omega)).trans v3.2.2, wI_eq _ _ _ _⟩
  refine wp_pI hO4 rfl ?_
  generalize hw5 : sI w4 223 55 (-1) = w5
  have f5 : Fr PF w w5 := by rw [← hw5]; exact f4.sI (by unfold PF; omega)
  have hO5 := f5.ok hO
  have v5 : wI w5 223 51 = wI w 242 s ∧ wI w5 223 52 = -1 ∧ wI w5 223 53 = -1 ∧ wI w5 223 54 = -1 ∧ wI w5 223 55 = -1 := by rw [← hw5]; exact ⟨(wI_ne (by omega)).trans v4.1, (wI_ne (by omega)).trans v4.2.1, (wI_ne (by omega)).trans v4.2.2.1, (wI_ne (by omega)).trans v4.2.2.2, wI_eq _ _ _ _⟩
  exact wp_ret ⟨f5, v5⟩
theorem m_copies2 {Q : Wd → Prop} : ∀ (r n k : Nat) (w : Wd), k + r = 60 → r < n → Ok L wl dr tx w → (∀ j, j < k → wI w 256 j = wI w 255 j) → (∀ w1, Fr (PK 60) w w1 → (∀ j, j < 60 → wI w1 256 j = wI w 255 j) → Wp (Mo_copies_26 223 w1) Q) → Wp (Mo_copies_2 n 223 (k : Int) w) Q
  | r, 0, k, w, _, hn, _, _, _ => absurd hn (by omega)
  | 0, n + 1, k, w, hk, hn, hO, hZ, kk => by
    rw [Mo_copies_2]
    exact wp_pos (by omega) (kk w (Fr.rf w) (fun j hj => hZ j (by omega)))
  | r + 1, n + 1, k, w, hk, hn, hO, hZ, kk => by
    rw [Mo_copies_2]
    refine wp_neg (by omega) (wp_R12_50 hO (wp_R12_49 hO (wp_rI hO rfl (by omega) (wp_wI hO rfl (by omega) ?_))))
    rw [Int.toNat_natCast, w32_id (z := (k : Int) + 1) (by omega) (by omega), show (k : Int) + 1 = ((k + 1 : Nat) : Int) by omega]
    generalize hw1 : sI w 256 k (wI w 255 k) = w1
    have f1 : Fr (PK 60) w w1 := by rw [← hw1]; exact fr_sI (by unfold PK; omega)
    have n1 : ∀ j, wI w1 255 j = wI w 255 j := fun j => f1.at 255 j (by unfold PK; omega)
    refine m_copies2 r n (k + 1) w1 (by omega) (by omega) (f1.ok hO) (fun j hj => ?_) (fun w2 g1 g2 => kk w2 (f1.tr g1) (fun j hj => (g2 j hj).trans (n1 j)))
    rw [n1]
    by_cases p : j = k
    · rw [p, ← hw1, wI_eq]
    · rw [← hw1, wI_ne (by omega)]; exact hZ j (by omega)
theorem m_copies (hV : VOK V) (hO : Ok L wl dr tx w) (hs : wI w 223 18 = (s : Int)) (hW : MW w s V) (hS : MS w 255 0 V σ) : Wp (Mo_copies 223 w) (fun w1 => Fr (PK 60) w w1 ∧ (∀ j, j < 60 → wI w1 256 j = wI w 255 j) ∧ MC w1 s V σ (sd V) (-1) (-1) (-1) (-1)) := by
  have hs1 := hW.1
  unfold Mo_copies Mo_copies_0
  generalize hFU : FU = fu; have hfu : 1000000 = fu := hFU
  refine wp_gd hO rfl (m_copies2 60 fu 0 w (by omega) (by omega) hO (fun j hj => absurd hj (by omega)) (fun w1 g1 g2 => ?_))
  unfold Mo_copies_26
  refine wp_call (m_freshly (g1.ok hO) ((g1.at 223 18 (by unfold PK; omega)).trans hs) hs1) (fun w2 h2 => wp_ret ?_)
  have f2 : Fr (PK 60) w w2 := g1.tr (h2.1.mono (fun a k q => Or.inl q))
  have n2 : ∀ j, j < 60 → wI w2 256 j = wI w 255 j := fun j hj => (h2.1.at 256 j (by unfold PF; omega)).trans (g2 j hj)
  refine ⟨f2, n2, (f2.at 223 18 (by unfold PK; omega)).trans hs, hW.eq (fun a k q1 q2 => f2.at a k (by unfold PK; omega)), hS.eq hV (fun k hk => ?_), h2.2.1.trans ((g1.at 242 s (by unfold PK; omega)).trans hW.2.1.2.2.2.2.2), h2.2.2.1, h2.2.2.2.1, h2.2.2.2.2.1, h2.2.2.2.2.2⟩
  rw [Nat.zero_add]
  exact n2 k (by omega)
theorem m_copiesAll2 {Q : Wd → Prop} : ∀ (r n k : Nat) (w : Wd), k + r = 2860 → r < n → Ok L wl dr tx w → (∀ j, j < k → wI w 256 j = wI w 255 j) → (∀ w1, Fr (PK 2860) w w1 → (∀ j, j < 2860 → wI w1 256 j = wI w 255 j) → Wp (Mo_copiesAll_27 223 w1) Q) → Wp (Mo_copiesAll_2 n 223 (k : Int) w) Q
  | r, 0, k, w, _, hn, _, _, _ => absurd hn (by omega)
  | 0, n + 1, k, w, hk, hn, hO, hZ, kk => by
    rw [Mo_copiesAll_2]
    exact wp_pos (by omega) (kk w (Fr.rf w) (fun j hj => hZ j (by omega)))
  | r + 1, n + 1, k, w, hk, hn, hO, hZ, kk => by
    rw [Mo_copiesAll_2]
    refine wp_neg (by omega) (wp_R12_50 hO (wp_R12_49 hO (wp_rI hO rfl (by omega) (wp_wI hO rfl (by omega) ?_))))
    rw [Int.toNat_natCast, w32_id (z := (k : Int) + 1) (by omega) (by omega), show (k : Int) + 1 = ((k + 1 : Nat) : Int) by omega]
    generalize hw1 : sI w 256 k (wI w 255 k) = w1
    have f1 : Fr (PK 2860) w w1 := by rw [← hw1]; exact fr_sI (by unfold PK; omega)
    have n1 : ∀ j, wI w1 255 j = wI w 255 j := fun j => f1.at 255 j (by unfold PK; omega)
    refine m_copiesAll2 r n (k + 1) w1 (by omega) (by omega) (f1.ok hO) (fun j hj => ?_) (fun w2 g1 g2 => kk w2 (f1.tr g1) (fun j hj => (g2 j hj).trans (n1 j)))
    rw [n1]
    by_cases p : j = k
    · rw [p, ← hw1, wI_eq]
    · rw [← hw1, wI_ne (by omega)]; exact hZ j (by omega)
theorem m_copiesAll (hV : VOK V) (hO : Ok L wl dr tx w) (hs : wI w 223 18 = (s : Int)) (hW : MW w s V) (hS : MS w 255 0 V σ) : Wp (Mo_copiesAll 223 w) (fun w1 => Fr (PK 2860) w w1 ∧ (∀ j, j < 2860 → wI w1 256 j = wI w 255 j) ∧ MC w1 s V σ (sd V) (-1) (-1) (-1) (-1)) := by
  have hs1 := hW.1
  unfold Mo_copiesAll Mo_copiesAll_0
  generalize hFU : FU = fu; have hfu : 1000000 = fu := hFU
  refine wp_gd hO rfl (m_copiesAll2 2860 fu 0 w (by omega) (by omega) hO (fun j hj => absurd hj (by omega)) (fun w1 g1 g2 => ?_))
  unfold Mo_copiesAll_27
  refine wp_call (m_freshly (g1.ok hO) ((g1.at 223 18 (by unfold PK; omega)).trans hs) hs1) (fun w2 h2 => wp_ret ?_)
  have f2 : Fr (PK 2860) w w2 := g1.tr (h2.1.mono (fun a k q => Or.inl q))
  have n2 : ∀ j, j < 2860 → wI w2 256 j = wI w 255 j := fun j hj => (h2.1.at 256 j (by unfold PF; omega)).trans (g2 j hj)
  refine ⟨f2, n2, (f2.at 223 18 (by unfold PK; omega)).trans hs, hW.eq (fun a k q1 q2 => f2.at a k (by unfold PK; omega)), hS.eq hV (fun k hk => ?_), h2.2.1.trans ((g1.at 242 s (by unfold PK; omega)).trans hW.2.1.2.2.2.2.2), h2.2.2.1, h2.2.2.2.1, h2.2.2.2.2.1, h2.2.2.2.2.2⟩
  rw [Nat.zero_add]
  exact n2 k (by omega)
end MCP
