/-! Level 3, read: the reference tells a law. -/
def PLm (bb cb b z : Nat) (ix : Int) (a k : Nat) : Prop := (a = 223 ∧ (k = 11 ∨ k = 12 ∨ k = 13 ∨ k = 14 ∨ k = 35 ∨ k = 41 ∨ k = 45)) ∨ (245 ≤ a ∧ a ≤ 249 ∧ b ≤ k ∧ k < bb + 130) ∨ ((a = 250 ∨ a = 251) ∧ z ≤ k ∧ k < cb + 420) ∨ a = 252 ∨ ((a = 243 ∨ a = 244) ∧ (k : Int) = ix)
/-- a fault, or what is sound, of the reference -/
def MRS {α : Type} (c : Nat → Int) (N : Nat) (P : Nat → Nat → Prop) (w0 : Wd) (res : Sum Ft α) (ok : α → Wd → Prop) (w1 : Wd) : Prop := Fr P w0 w1 ∧ match res with
  | .inl e => ERR c N w1 e
  | .inr a => wI w1 223 13 = 0 ∧ ok a w1
section MK
variable {L wl dr tx : Nat} {c : Nat → Int} {N bb cb f0 z00 : Nat} {ix x : Int} {w0 : Wd}
theorem MT.lm {w : Wd} {b z : Nat} (hT : MT c N w0) (f : Fr (PLm bb cb b z ix) w0 w) : MT c N w := hT.eq (fun a k q1 q2 => f.at a k (by unfold PLm; omega)) (fun k => by rw [f.2.2.2.1])
theorem err_pos {w : Wd} {e : Ft} (h : ERR c N w e) : 0 < wI w 223 13 := by have := h.1; have := h.2.1; omega
theorem m_lw129F {w : Wd} {e : Ft} {b : Nat} (hbb : bb ≤ 130) (hO0 : Ok L wl dr tx w0) (hE : ERR c N w e) (h35 : wI w 223 35 = (b : Int)) (hb : f0 ≤ b ∧ b < bb + 130) (hF : Fr (PLm bb cb f0 z00 ix) w0 w) : Wp (Mo_tellLaw_129 223 x (f0 : Int) w) (fun w1 => Fr (PLm bb cb f0 z00 ix) w0 w1 ∧ ERR c N w1 e) := by
  have hO := hF.ok hO0
  unfold Mo_tellLaw_129 Mo_tellLaw_159
  refine wp_R12_36 hO (wp_gI hO rfl ?_)
  rw [h35]
  refine wp_wZ hO rfl (by omega) (Or.inl rfl) ?_
  rw [Int.toNat_natCast]
  generalize hw1 : sI w 245 b 0 = w1
  have f1 : Fr (PLm bb cb f0 z00 ix) w0 w1 := by rw [← hw1]; exact hF.sI (by unfold PLm; omega)
  have n1 : ∀ k, wI w1 223 k = wI w 223 k := fun k => by rw [← hw1, wI_ne (by omega)]
  clear hw1
  have E1 : ERR c N w1 e := hE.eq (fun k _ => n1 k)
  refine wp_call (m_termF (f1.ok hO0) (err_pos E1) (by omega) ((n1 _).trans h35)) (fun w2 g => ?_)
  obtain ⟨f2, g⟩ := g
  have f2' : Fr (PLm bb cb f0 z00 ix) w0 w2 := f1.tr (f2.mono (fun a k q => by unfold PLm; omega))
  have E2 : ERR c N w2 e := E1.eq (fun k q => f2.at _ _ (by omega))
  have hO2 := f2'.ok hO0
  refine wp_eq (m_mustF hO2 (err_pos E2)) (wp_gI hO2 rfl (wp_pos (err_pos E2) (wp_ret ⟨f2', E2⟩)))
theorem m_lw12F {w : Wd} {e : Ft} {b m : Nat} {i : Int} (hbb : bb ≤ 130) (hm : 0 < m) (hO0 : Ok L wl dr tx w0) (hE : ERR c N w e) (h35 : wI w 223 35 = (b : Int)) (hb : f0 ≤ b ∧ b < bb + 130) (hF : Fr (PLm bb cb f0 z00 ix) w0 w) : Wp (Mo_tellLaw_12 m 223 x (f0 : Int) i w) (fun w1 => Fr (PLm bb cb f0 z00 ix) w0 w1 ∧ ERR c N w1 e) := by
  obtain ⟨m', rfl⟩ : ∃ m', m = m' + 1 := ⟨m - 1, by omega⟩
  rw [Mo_tellLaw_12]
  have := err_pos hE
  exact wp_gI (hF.ok hO0) rfl (wp_neg (by omega) (m_lw129F hbb hO0 hE h35 hb hF))
theorem m_lw110F {w : Wd} {e : Ft} {b m : Nat} {i : Int} (hbb : bb ≤ 130) (hm : 0 < m) (hO0 : Ok L wl dr tx w0) (hE : ERR c N w e) (h35 : wI w 223 35 = (b : Int)) (hb : f0 ≤ b ∧ b + 1 < bb + 130) (hF : Fr (PLm bb cb f0 z00 ix) w0 w) : Wp (Mo_tellLaw_110 (Mo_tellLaw_12 m) 223 x (f0 : Int) i w) (fun w1 => Fr (PLm bb cb f0 z00 ix) w0 w1 ∧ ERR c N w1 e) := by
  have hO := hF.ok hO0
  unfold Mo_tellLaw_110
  refine wp_eq (m_mustF hO (err_pos hE)) (wp_call (m_termF hO (err_pos hE) (by omega) h35) (fun w2 g => ?_))
  obtain ⟨f2, g⟩ := g
  have f2' : Fr (PLm bb cb f0 z00 ix) w0 w2 := hF.tr (f2.mono (fun a k q => by unfold PLm; omega))
  have E2 : ERR c N w2 e := hE.eq (fun k q => f2.at _ _ (by omega))
  exact wp_eq (m_mustF (f2'.ok hO0) (err_pos E2)) (m_lw12F hbb hm hO0 E2 g (by omega) f2')
/-- what is left behind a law -/
def LMO (c : Nat → Int) (N bb cb f0 z00 : Nat) (ix x : Int) (q : Nat × (Bs × List Op)) (w1 : Wd) : Prop := MCU c N w1 q.1 ∧ wI w1 223 12 = 0 ∧ ∃ b1 z1 : Nat, wI w1 223 35 = (b1 : Int) ∧ wI w1 223 41 = (z1 : Int) ∧ b1 = f0 + q.2.1.length + 1 ∧ cb ≤ z1 ∧ z00 ≤ z1 ∧ z1 ≤ cb + q.1 ∧ 4 * b1 ≤ 4 * bb + q.1 ∧ mlB w1 bb cb b1 z1 f0 q.2.1 q.2.2 ∧ (0 ≤ x → wI w1 243 ix.toNat = (f0 : Int) ∧ wI w1 244 ix.toNat = (b1 : Int))
/-- within a law: branches bs stand from f0 on, code up to z -/
def LMI (c : Nat → Int) (N bb cb f0 sd' : Nat) (w : Wd) (t : Nat) (bs : Bs) (z : Nat) : Prop := wI w 223 13 = 0 ∧ MCU c N w t ∧ wI w 223 12 = 0 ∧ wI w 223 35 = ((f0 + bs.length : Nat) : Int) ∧ wI w 223 41 = (z : Int) ∧ cb ≤ z ∧ z + 2 ≤ cb + t ∧ 4 * (f0 + bs.length) + 2 ≤ 4 * bb + t ∧ mpre w bb cb (f0 + bs.length) z f0 bs ∧ wI w 223 19 = (sd' : Int)
theorem m_lw129 {w : Wd} {t z sd' : Nat} {bs : Bs} (hbb : bb ≤ 130) (hcb : cb ≤ 420) (hf0 : bb ≤ f0) (hz0 : z00 ≤ z) (hO0 : Ok L wl dr tx w0) (hT0 : MT c N w0) (hsd : sd' ≤ 1) (hx : x ≤ 9) (hix : ix = if 0 ≤ x then 10 * (sd' : Int) + x else -1) (h : LMI c N bb cb f0 sd' w t bs z) (hF : Fr (PLm bb cb f0 z00 ix) w0 w) : Wp (Mo_tellLaw_129 223 x (f0 : Int) w) (MRS c N (PLm bb cb f0 z00 ix) w0 (sb (smx (kK c N) (kV c N) 20 0 t) (fun q => sb (ex (kK c N) 4 q.1) (fun t' => .inr (t', (bs, q.2))))) (LMO c N bb cb f0 z00 ix x)) := by
  obtain ⟨i1, i2, i3, i4, i5, i6, i7, i8, i9, i10⟩ := h
  have t4 := i2.1.1
  have hO := hF.ok hO0
  unfold Mo_tellLaw_129 Mo_tellLaw_159
  refine wp_R12_36 hO (wp_gI hO rfl ?_)
  rw [i4]
  refine wp_wZ hO rfl (by omega) (Or.inl rfl) ?_
  rw [Int.toNat_natCast]
  generalize hw1 : sI w 245 (f0 + bs.length) 0 = w1
  have f1 : Fr (PLm bb cb f0 z00 ix) w0 w1 := by rw [← hw1]; exact hF.sI (by unfold PLm; omega)
  have n1 : ∀ a k, a ≠ 245 ∨ k ≠ f0 + bs.length → wI w1 a k = wI w a k := fun a k q => by rw [← hw1, wI_ne (by omega)]
  have v1 : wI w1 245 (f0 + bs.length) = 0 := by rw [← hw1, wI_eq]
  clear hw1
  have hO1 := f1.ok hO0
  refine wp_call (m_term (b := f0 + bs.length) hcb hO1 (hT0.lm f1) ((n1 _ _ (by omega)).trans i1) ⟨i2.1, (n1 _ _ (by omega)).trans i2.2⟩ ((n1 _ _ (by omega)).trans i3) (by omega) ((n1 _ _ (by omega)).trans i4) ((n1 _ _ (by omega)).trans i5) i7) (fun w2 g => ?_)
  obtain ⟨f2, g35, g⟩ := g
  have f2' : Fr (PLm bb cb f0 z00 ix) w0 w2 := f1.tr (f2.mono (fun a k q => by unfold PE at q; unfold PLm; omega))
  have hO2 := f2'.ok hO0
  generalize hs : smx (kK c N) (kV c N) 20 0 t = s at g
  cases s with
  | inl e =>
    refine wp_eq (m_mustF hO2 (err_pos g)) (wp_gI hO2 rfl (wp_pos (err_pos g) (wp_ret ⟨f2', g⟩)))
  | inr q =>
    obtain ⟨t2, e2⟩ := q
    obtain ⟨a1, a2, a3, a4, a5, a6, a7⟩ := g
    have G := gd_smx _ _ _ _ _ (by omega) hs
    have G1 := G.1
    have G3 := G.2.2.1
    refine wp_call (m_must (x := 4) hO2 (hT0.lm f2') a2 a1 (by omega)) (fun w3 g3 => ?_)
    obtain ⟨f3, g3⟩ := g3
    have f3' : Fr (PLm bb cb f0 z00 ix) w0 w3 := f2'.tr (f3.mono (fun a k q => by unfold PGo at q; unfold PLm; omega))
    have hO3 := f3'.ok hO0
    refine wp_gI hO3 rfl ?_
    show Wp _ (MRS c N (PLm bb cb f0 z00 ix) w0 (sb (ex (kK c N) 4 t2) (fun t' => .inr (t', (bs, e2)))) (LMO c N bb cb f0 z00 ix x))
    generalize hx4 : ex (kK c N) 4 t2 = y at g3
    have hx4' : ex (kK c N) 4 (t2, e2).1 = y := hx4
    cases y with
    | inl e => exact wp_pos (err_pos g3) (wp_ret ⟨f3', g3⟩)
    | inr t3 =>
      obtain ⟨c1, c2⟩ := g3
      have e3 := ex_inr hx4
      have b35 : wI w3 223 35 = ((f0 + bs.length + 1 : Nat) : Int) := (f3.at _ _ (by unfold PGo; omega)).trans g35
      have b41 : wI w3 223 41 = ((z + e2.length : Nat) : Int) := (f3.at _ _ (by unfold PGo; omega)).trans a4
      have b12 : wI w3 223 12 = 0 := (f3.at _ _ (by unfold PGo; omega)).trans a3
      have ag : AGL w w3 bb cb (f0 + bs.length) z := ⟨fun a k k1 k2 k3 k4 => by rw [f3.at a k (by unfold PGo; omega), f2.at a k (by unfold PE; omega), n1 a k (by omega)], fun a k k1 k2 k3 => by rw [f3.at a k (by unfold PGo; omega), f2.at a k (by unfold PE; omega), n1 a k (by omega)]⟩
      have ml : mlB w3 bb cb (f0 + bs.length + 1) (z + e2.length) f0 bs e2 := by
        refine ⟨mpre_ag ag (by omega) (by omega) _ _ i9, ⟨by omega, by omega⟩, ?_, z, i6, ?_, ?_, mcode_ag _ _ (fun k k1 k2 => ⟨f3.at _ _ (by unfold PGo; omega), f3.at _ _ (by unfold PGo; omega)⟩) a5, G.2.2.2.2, Nat.le_refl _⟩
        · rw [f3.at _ _ (by unfold PGo; omega), f2.at _ _ (by unfold PE; omega), v1]
        · rw [f3.at _ _ (by unfold PGo; omega), a6]
        · rw [f3.at _ _ (by unfold PGo; omega), a7]
      refine wp_neg (by omega) ?_
      by_cases hx0 : 0 ≤ x
      · rw [if_pos hx0] at hix
        have s3 : wI w3 223 19 = (sd' : Int) := by rw [f3.at _ _ (by unfold PGo; omega), f2.at _ _ (by unfold PE; omega), n1 _ _ (by omega), i10]
        refine wp_pos hx0 (wp_R12_33 hO3 (wp_gI hO3 rfl ?_))
        rw [s3, w32_id (z := 10 * (sd' : Int)) (by omega) (by omega), w32_id (z := 10 * (sd' : Int) + x) (by omega) (by omega), ← hix]
        refine wp_wI hO3 rfl (by omega) ?_
        generalize hw4 : sI w3 243 ix.toNat (f0 : Int) = w4
        have hO4 : Ok L wl dr tx w4 := by rw [← hw4]; exact hO3.sI
        have f4 : Fr (PLm bb cb f0 z00 ix) w0 w4 := by rw [← hw4]; exact f3'.sI (by unfold PLm; omega)
        have n4 : ∀ a k, a ≠ 243 → wI w4 a k = wI w3 a k := fun a k q => by rw [← hw4, wI_ne (by omega)]
        have v4 : wI w4 243 ix.toNat = (f0 : Int) := by rw [← hw4, wI_eq]
        clear hw4
        refine wp_R12_34 hO4 (wp_gI hO4 rfl (wp_gI hO4 rfl ?_))
        rw [n4 _ _ (by omega), n4 _ _ (by omega), s3, b35, w32_id (z := 10 * (sd' : Int)) (by omega) (by omega), w32_id (z := 10 * (sd' : Int) + x) (by omega) (by omega), ← hix]
        refine wp_wI hO4 rfl (by omega) (wp_ret ?_)
        generalize hw5 : sI w4 244 ix.toNat ((f0 + bs.length + 1 : Nat) : Int) = w5
        have f5 : Fr (PLm bb cb f0 z00 ix) w0 w5 := by rw [← hw5]; exact f4.sI (by unfold PLm; omega)
        have n5 : ∀ a k, a ≠ 243 → a ≠ 244 → wI w5 a k = wI w3 a k := fun a k q1 q2 => by rw [← hw5, wI_ne (by omega), n4 a k q1]
        have v5 : wI w5 244 ix.toNat = ((f0 + bs.length + 1 : Nat) : Int) := by rw [← hw5, wI_eq]
        have u5 : wI w5 243 ix.toNat = (f0 : Int) := by rw [← hw5, wI_ne (by omega), v4]
        clear hw5
        exact ⟨f5, (n5 _ _ (by omega) (by omega)).trans c2, ⟨c1.1, (n5 _ _ (by omega) (by omega)).trans c1.2⟩, (n5 _ _ (by omega) (by omega)).trans b12, f0 + bs.length + 1, z + e2.length, (n5 _ _ (by omega) (by omega)).trans b35, (n5 _ _ (by omega) (by omega)).trans b41, rfl, by omega, by omega, by show z + e2.length ≤ cb + t3; omega, by show 4 * (f0 + bs.length + 1) ≤ 4 * bb + t3; omega, mlB_ag ⟨fun a k k1 k2 k3 k4 => n5 a k (by omega) (by omega), fun a k k1 k2 k3 => n5 a k (by omega) (by omega)⟩ (Nat.le_refl _) (Nat.le_refl _) ml, fun _ => ⟨u5, v5⟩⟩
      · exact wp_neg hx0 (wp_ret ⟨f3', c2, c1, b12, f0 + bs.length + 1, z + e2.length, b35, b41, rfl, by omega, by omega, by show z + e2.length ≤ cb + t3; omega, by show 4 * (f0 + bs.length + 1) ≤ 4 * bb + t3; omega, ml, fun h => absurd h hx0⟩)
end MK
