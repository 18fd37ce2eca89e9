/-! Level 3: what may be written over freely. -/
def PS (a k : Nat) : Prop := a = 19 ∨ a = 20 ∨ a = 38 ∨ a = 39 ∨ (44 ≤ a ∧ a ≤ 47) ∨ (178 ≤ a ∧ a ≤ 201) ∨ a = 253 ∨ a = 254 ∨ (256 ≤ a ∧ a ≤ 258) ∨ (260 ≤ a ∧ a ≤ 262) ∨ (a = 223 ∧ (k = 48 ∨ (51 ≤ k ∧ k ≤ 55)))
section IF
variable {L : Nat} {w w1 : Wd} {V : Vl} {Y : Int} {σ : Sg}
theorem rw_fr {a o b k' : Nat} (hV : VOK V) (h : RW w V Y a o b k' σ) (e : ∀ x k, ((b ≤ x ∧ x ≤ b + 3) ∨ x = a) → wI w1 x k = wI w x k) (el : ∀ k, wL w1 (k' + 1) k = wL w (k' + 1) k) : RW w1 V Y a o b k' σ :=
  h.eq hV (Int.le_refl _) (h.2.1.eq (fun x k q1 q2 => e x k (by omega))) (h.2.2.2.2.2.2.eq (fun k => e _ k (by omega))) (fun p _ => el p) (fun k _ => e _ _ (by omega))
theorem now_fr (hV : VOK V) (h : NOW w V Y σ) (f : Fr PS w w1) : NOW w1 V Y σ := rw_fr hV h (fun x k q => f.at x k (by unfold PS; omega)) (fr_l f _)
theorem past_fr (hV : VOK V) (h : PAST w V Y σ) (f : Fr PS w w1) : PAST w1 V Y σ := by
  obtain ⟨u, x, τ, h1, h2, h3, h4, h5, h6, h7⟩ := h
  refine ⟨u, x, τ, h1, h2, (f.at 50 0 (by unfold PS; omega)).trans h3, (f.at 50 1 (by unfold PS; omega)).trans h4, (f.at 223 58 (by unfold PS; omega)).trans h5, fun i hi => rw_fr hV (h6 i hi) (fun y k q => f.at y k ?_) (fr_l f _), h7⟩
  have hm : (x + 30 - u + i) % 30 < 30 := Nat.mod_lt _ (by omega)
  unfold PS
  omega
theorem slot_fr (hV : VOK V) (h : SLOT w V Y) (f : Fr PS w w1) : SLOT w1 V Y := by
  intro i hi
  obtain ⟨h1, h2⟩ := h i hi
  have e1 : wI w1 265 i = wI w 265 i := f.at 265 i (by unfold PS; omega)
  refine ⟨by rw [f.at (202 + 7 * i) 0 (by unfold PS; omega), e1]; exact h1, ?_⟩
  rw [e1]
  rcases h2 with h2 | ⟨h2, τ, h3⟩
  · exact Or.inl h2
  · exact Or.inr ⟨h2, τ, rw_fr hV h3 (fun y k q => f.at y k (by unfold PS; omega)) (fr_l f _)⟩
theorem papr_fr (h : PAPR w V) (f : Fr PS w w1) : PAPR w1 V := by
  obtain ⟨n, h1, h2, h3, h4⟩ := h
  refine ⟨n, h1, (f.at 173 0 (by unfold PS; omega)).trans h2, (f.at 223 63 (by unfold PS; omega)).trans h3, fun i hi => ?_⟩
  obtain ⟨l, z, g1, g2, g3, g4, g5, g6⟩ := h4 i hi
  exact ⟨l, z, g1, g2, (f.at 174 i (by unfold PS; omega)).trans g3, (f.at 263 i (by unfold PS; omega)).trans g4, (f.at 175 i (by unfold PS; omega)).trans g5, (f.at 264 i (by unfold PS; omega)).trans g6⟩
theorem tape_fr (h : TAPE w) (f : Fr PS w w1) : TAPE w1 := by
  obtain ⟨n, h1, h2, h3, h4⟩ := h
  refine ⟨n, h1, (f.at 6 1 (by unfold PS; omega)).trans h2, (f.at 223 2 (by unfold PS; omega)).trans h3, fun i hi => ?_⟩
  rw [f.at 7 i (by unfold PS; omega), f.at 224 i (by unfold PS; omega)]
  exact h4 i hi
theorem inv_fr (h : INV L w Y) (f : Fr PS w w1) : INV L w1 Y := by
  obtain ⟨wl, dr, tx, s, V, σ, h1, h2, h3, h4, h5, h6, h7, h8, h9, ha, hb, hc, hd', he, hf⟩ := h
  have hw := wi_bd h2
  refine ⟨wl, dr, tx, s, V, σ, f.ok h1, h2, h3, h4, h5, h6.eq (fun a k q1 q2 => f.at a k (by unfold PS; omega)), (f.at 223 18 (by unfold PS; omega)).trans h7, h8.eq (fun a k q1 q2 => f.at a k (by unfold PS; omega)), now_fr h5 h9 f, past_fr h5 ha f, slot_fr h5 hb f, papr_fr hc f, tape_fr hd' f, ?_, ?_⟩
  · rw [f.at 8 0 (by unfold PS; omega), f.at 223 17 (by unfold PS; omega)]; exact he
  · refine ⟨⟨fun k hk => ?_, (f.at 4 1 (by unfold PS; omega)).trans hf.1.2.1, fun k hk => (f.at 5 k (by unfold PS; omega)).trans (hf.1.2.2 k hk)⟩, fun w2 hw2 => hf.2 w2 (fun a k q => (hw2 a k q).trans (f.at a k (by unfold RG at q; unfold PS; omega)))⟩
    rw [f.2.2.2.1]
    exact hf.1.1 k hk
end IF
/-- one call on both sides -/
def CALL (L : Nat) (w : Wd) (Y1 : Int) (f g : Wd → Option (Int × Wd)) : Prop := Wp (f w) (fun r => Wp (g r.2) (fun q => q.1 = r.1 ∧ INV L q.2 Y1 ∧ wn q.2 = wn w ∧ wz q.2 = wz w))
