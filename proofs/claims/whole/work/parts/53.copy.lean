/-! Level 3, the class: a state is copied. -/
def PB (b a : Nat) (_ : Nat) : Prop := b ≤ a ∧ a ≤ b + 3
section CP
variable {L wl dr tx b c : Nat} {V : Vl} {σ : Sg} {w : Wd}
theorem c_copy (hb : isSt b) (hc : isSt c) (hbc : b + 3 < c ∨ c + 3 < b) (hO : Ok L wl dr tx w) :
    Wp (St_copy b c w) (fun w1 => Fr (PB b) w w1 ∧ (∀ i, i < 3 → wI w1 b i = wI w c i) ∧ (∀ i, i < 6 → wI w1 (b + 1) i = wI w (c + 1) i) ∧ (∀ i, i < 36 → wI w1 (b + 2) i = wI w (c + 2) i) ∧ (∀ i, i < 6 → wI w1 (b + 3) i = wI w (c + 3) i)) := by
  unfold St_copy St_copy_0
  refine wp_gd hO (sh_St L hb) (wp_gI hO (sh_St L hc) (wp_pI hO (sh_St L hb) ?_))
  generalize hw1 : sI w b 0 (wI w c 0) = w1
  have f1 : Fr (PB b) w w1 := by rw [← hw1]; exact fr_sI (by unfold PB; omega)
  have hO1 := f1.ok hO
  have n1 : ∀ a k, ¬ (b ≤ a ∧ a ≤ b + 3) → wI w1 a k = wI w a k := fun a k q => f1.at a k q
  have v1 : wI w1 b 0 = wI w c 0 := by rw [← hw1]; exact wI_eq _ _ _ _
  refine wp_gI hO1 (sh_St L hc) (wp_pI hO1 (sh_St L hb) ?_)
  rw [n1 c 1 (by omega)]
  generalize hw2 : sI w1 b 1 (wI w c 1) = w2
  have f2 : Fr (PB b) w w2 := by rw [← hw2]; exact f1.sI (by unfold PB; omega)
  have hO2 := f2.ok hO
  have n2 : ∀ a k, ¬ (b ≤ a ∧ a ≤ b + 3) → wI w2 a k = wI w a k := fun a k q => f2.at a k q
  have v2 : wI w2 b 0 = wI w c 0 ∧ wI w2 b 1 = wI w c 1 := by rw [← hw2]; exact ⟨(wI_ne (by omega)).trans v1, wI_eq _ _ _ _⟩
  refine wp_gI hO2 (sh_St L hc) (wp_pI hO2 (sh_St L hb) ?_)
  rw [n2 c 2 (by omega)]
  generalize hw3 : sI w2 b 2 (wI w c 2) = w3
  have f3 : Fr (PB b) w w3 := by rw [← hw3]; exact f2.sI (by unfold PB; omega)
  have hO3 := f3.ok hO
  have n3 : ∀ a k, ¬ (b ≤ a ∧ a ≤ b + 3) → wI w3 a k = wI w a k := fun a k q => f3.at a k q
  have v3 : ∀ i, i < 3 → wI w3 b i = wI w c i := fun i hi => by
    rw [← hw3, wI_sI]
    by_cases p : i = 2
    · rw [if_pos ⟨rfl, p⟩, p]
    · rw [if_neg (fun x => p x.2)]
      by_cases p1 : i = 1
      · rw [p1]; exact v2.2
      · rw [show i = 0 by omega]; exact v2.1
  refine wp_R9_3 hO3 hc (wp_R9_3 hO3 hb (wp_cp hO3 (sh_St_3 L hc) (sh_St_3 L hb) (by omega) ?_))
  rw [show (0 : Int).toNat = 0 from rfl, show (6 : Int).toNat = 6 from rfl]
  generalize hw4 : cpI w3 (c + 1) 0 (b + 1) 0 6 = w4
  have f4 : Fr (PB b) w w4 := by rw [← hw4]; exact f3.cpI (fun k _ _ => by unfold PB; omega)
  have hO4 := f4.ok hO
  have n4 : ∀ a k, ¬ (b ≤ a ∧ a ≤ b + 3) → wI w4 a k = wI w a k := fun a k q => f4.at a k q
  have o4 : ∀ k, wI w4 b k = wI w3 b k := fun k => by rw [← hw4]; exact wI_cp (by omega)
  have v4 : ∀ i, i < 6 → wI w4 (b + 1) i = wI w (c + 1) i := fun i hi => by
    rw [← hw4, wI_cpe (by omega) (by omega), show 0 + (i - 0) = i by omega]; exact n3 _ _ (by omega)
  refine wp_R9_4 hO4 hc (wp_R9_4 hO4 hb (wp_cp hO4 (sh_St_4 L hc) (sh_St_4 L hb) (by omega) ?_))
  rw [show (0 : Int).toNat = 0 from rfl, show (36 : Int).toNat = 36 from rfl]
  generalize hw5 : cpI w4 (c + 2) 0 (b + 2) 0 36 = w5
  have f5 : Fr (PB b) w w5 := by rw [← hw5]; exact f4.cpI (fun k _ _ => by unfold PB; omega)
  have hO5 := f5.ok hO
  have o5 : ∀ a k, a ≠ b + 2 → wI w5 a k = wI w4 a k := fun a k ha => by rw [← hw5]; exact wI_cp (by omega)
  have v5 : ∀ i, i < 36 → wI w5 (b + 2) i = wI w (c + 2) i := fun i hi => by
    rw [← hw5, wI_cpe (by omega) (by omega), show 0 + (i - 0) = i by omega]; exact n4 _ _ (by omega)
  refine wp_R9_5 hO5 hc (wp_R9_5 hO5 hb (wp_cp hO5 (sh_St_5 L hc) (sh_St_5 L hb) (by omega) ?_))
  rw [show (0 : Int).toNat = 0 from rfl, show (6 : Int).toNat = 6 from rfl]
  generalize hw6 : cpI w5 (c + 3) 0 (b + 3) 0 6 = w6
  have f6 : Fr (PB b) w w6 := by rw [← hw6]; exact f5.cpI (fun k _ _ => by unfold PB; omega)
  have o6 : ∀ a k, a ≠ b + 3 → wI w6 a k = wI w5 a k := fun a k ha => by rw [← hw6]; exact wI_cp (by omega)
  have v6 : ∀ i, i < 6 → wI w6 (b + 3) i = wI w (c + 3) i := fun i hi => by
    rw [← hw6, wI_cpe (by omega) (by omega), show 0 + (i - 0) = i by omega]; exact f5.at _ _ (by unfold PB; omega)
  refine wp_ret ⟨f6, fun i hi => ?_, fun i hi => ?_, fun i hi => ?_, v6⟩
  · rw [o6 _ _ (by omega), o5 _ _ (by omega), o4]; exact v3 i hi
  · rw [o6 _ _ (by omega), o5 _ _ (by omega)]; exact v4 i hi
  · rw [o6 _ _ (by omega)]; exact v5 i hi
theorem cs_copy {w1 : Wd} (hV : VOK V) (hS : CS w c V σ) (h : (∀ i, i < 3 → wI w1 b i = wI w c i) ∧ (∀ i, i < 6 → wI w1 (b + 1) i = wI w (c + 1) i) ∧ (∀ i, i < 36 → wI w1 (b + 2) i = wI w (c + 2) i) ∧ (∀ i, i < 6 → wI w1 (b + 3) i = wI w (c + 3) i)) : CS w1 b V σ := by
  have h6 := hV.1
  have h7 := hV.2.1
  exact ⟨(h.1 0 (by omega)).trans hS.1, (h.1 1 (by omega)).trans hS.2.1, (h.1 2 (by omega)).trans hS.2.2.1, fun l hl => (h.2.1 l (by omega)).trans (hS.2.2.2.1 l hl), fun x hx l hl => (h.2.2.1 _ (by omega)).trans (hS.2.2.2.2.1 x hx l hl), fun x hx => (h.2.2.2 x (by omega)).trans (hS.2.2.2.2.2 x hx)⟩
end CP
