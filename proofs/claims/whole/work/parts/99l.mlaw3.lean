/-! Level 3, read: the reference tells a law, branch by branch. -/
section ML
variable {L wl dr tx : Nat} {c : Nat → Int} {N bb cb f0 z00 : Nat} {ix x : Int} {w0 : Wd}
/-- the second half of a branch -/
theorem m_lw110 {β : Type} {w : Wd} {t b z sd' m : Nat} {a a2 : List Op} {i : Int} {F : Nat × List Op → Sum Ft β} {ok : β → Wd → Prop} (hbb : bb ≤ 130) (hcb : cb ≤ 420) (hf0 : bb ≤ f0) (hz0 : z00 ≤ z) (hO0 : Ok L wl dr tx w0) (hT0 : MT c N w0) (hm : 0 < m) (hF : Fr (PLm bb cb f0 z00 ix) w0 w)
    (h13 : wI w 223 13 = 0) (hC : MCU c N w t) (h12 : wI w 223 12 = 0) (h35 : wI w 223 35 = (b : Int)) (h41 : wI w 223 41 = ((z + a.length + a2.length : Nat) : Int)) (hz : z + a.length + a2.length + 2 ≤ cb + t) (hcz : cb ≤ z) (hb : 4 * b + 2 ≤ 4 * bb + t) (hfb : f0 ≤ b) (hs19 : wI w 223 19 = (sd' : Int))
    (u249 : wI w 245 b = 1) (u250 : wI w 246 b = (z : Int)) (u251 : wI w 247 b = ((z + a.length : Nat) : Int)) (M1 : mcode w z a) (M2 : mcode w (z + a.length) a2) (W1 : wk 15 a 0 = some 1) (W2 : wk 15 a2 0 = some 1)
    (kk : ∀ t' a3 w1, Fr (PLm bb cb f0 z00 ix) w0 w1 → wI w1 223 13 = 0 → MCU c N w1 t' → wI w1 223 12 = 0 → wI w1 223 35 = ((b + 1 : Nat) : Int) → wI w1 223 41 = ((z + a.length + a2.length + a3.length : Nat) : Int) → z + a.length + a2.length + a3.length + 2 ≤ cb + t' → t + 3 ≤ t' → wI w1 223 19 = (sd' : Int) → AGL w w1 bb cb b z → mbr w1 bb cb (b + 1) (z + a.length + a2.length + a3.length) b a a2 a3 → Wp (Mo_tellLaw_12 m 223 x (f0 : Int) i w1) (MRS c N (PLm bb cb f0 z00 ix) w0 (F (t', a3)) ok)) :
    Wp (Mo_tellLaw_110 (Mo_tellLaw_12 m) 223 x (f0 : Int) i w) (MRS c N (PLm bb cb f0 z00 ix) w0 (sb (ex (kK c N) 29 t) (fun t5 => sb (smx (kK c N) (kV c N) 20 0 t5) (fun q => sb (ex (kK c N) 30 q.1) (fun t7 => F (t7, q.2))))) ok) := by
  have hO := hF.ok hO0
  have t4 := hC.1.1
  unfold Mo_tellLaw_110
  refine wp_call (m_must (x := 29) hO (hT0.lm hF) hC h13 (by omega)) (fun w1 g => ?_)
  obtain ⟨f1, g⟩ := g
  have f1' : Fr (PLm bb cb f0 z00 ix) w0 w1 := hF.tr (f1.mono (fun a k q => by unfold PGo at q; unfold PLm; omega))
  have hO1 := f1'.ok hO0
  have n1 : ∀ a k, a ≠ 223 ∨ (k ≠ 11 ∧ k ≠ 13 ∧ k ≠ 14) → wI w1 a k = wI w a k := fun a k q => f1.at a k (by unfold PGo; omega)
  generalize hx29 : ex (kK c N) 29 t = y at g
  cases y with
  | inl e =>
    refine wp_call (m_termF hO1 (err_pos g) (by omega) ((n1 _ _ (by omega)).trans h35)) (fun w2 g2 => ?_)
    obtain ⟨f2, g2⟩ := g2
    have f2' : Fr (PLm bb cb f0 z00 ix) w0 w2 := f1'.tr (f2.mono (fun a k q => by unfold PLm; omega))
    have E2 : ERR c N w2 e := g.eq (fun k q => f2.at _ _ (by omega))
    exact wp_eq (m_mustF (f2'.ok hO0) (err_pos E2)) (m_lw12F hbb hm hO0 E2 g2 (by omega) f2')
  | inr t5 =>
    obtain ⟨C1, z1⟩ := g
    have e5 := ex_inr hx29
    refine wp_call (m_term (b := b) (z := z + a.length + a2.length) hcb hO1 (hT0.lm f1') z1 C1 ((n1 _ _ (by omega)).trans h12) (by omega) ((n1 _ _ (by omega)).trans h35) ((n1 _ _ (by omega)).trans h41) (by omega)) (fun w2 g2 => ?_)
    obtain ⟨f2, g35, g2⟩ := g2
    have f2' : Fr (PLm bb cb f0 z00 ix) w0 w2 := f1'.tr (f2.mono (fun a k q => by unfold PE at q; unfold PLm; omega))
    have hO2 := f2'.ok hO0
    show Wp _ (MRS c N (PLm bb cb f0 z00 ix) w0 (sb (smx (kK c N) (kV c N) 20 0 t5) (fun q => sb (ex (kK c N) 30 q.1) (fun t7 => F (t7, q.2)))) ok)
    generalize hs : smx (kK c N) (kV c N) 20 0 t5 = s at g2
    cases s with
    | inl e => exact wp_eq (m_mustF hO2 (err_pos g2)) (m_lw12F hbb hm hO0 g2 g35 (by omega) f2')
    | inr q =>
      obtain ⟨t6, a3⟩ := q
      obtain ⟨c1, c2, c3, c4, c5, c6, c7⟩ := g2
      have G := gd_smx _ _ _ _ _ (by omega) hs
      have G1 := G.1
      have G3 := G.2.2.1
      refine wp_call (m_must (x := 30) hO2 (hT0.lm f2') c2 c1 (by omega)) (fun w3 g3 => ?_)
      obtain ⟨f3, g3⟩ := g3
      have f3' : Fr (PLm bb cb f0 z00 ix) w0 w3 := f2'.tr (f3.mono (fun a k q => by unfold PGo at q; unfold PLm; omega))
      have n3 : ∀ a k, a ≠ 223 ∨ (k ≠ 11 ∧ k ≠ 13 ∧ k ≠ 14) → wI w3 a k = wI w2 a k := fun a k q => f3.at a k (by unfold PGo; omega)
      show Wp _ (MRS c N (PLm bb cb f0 z00 ix) w0 (sb (ex (kK c N) 30 t6) (fun t7 => F (t7, a3))) ok)
      have g3 : match ex (kK c N) 30 t6 with
        | .inl e => ERR c N w3 e
        | .inr t' => MCU c N w3 t' ∧ wI w3 223 13 = 0 := g3
      generalize hx30 : ex (kK c N) 30 t6 = y3 at g3
      cases y3 with
      | inl e => exact m_lw12F hbb hm hO0 g3 ((n3 _ _ (by omega)).trans g35) (by omega) f3'
      | inr t7 =>
        obtain ⟨C3, z3⟩ := g3
        have e7 := ex_inr hx30
        have p2 : ∀ y k, (245 ≤ y ∧ y ≤ 247) ∨ ((y = 248 ∨ y = 249) ∧ k ≠ b) ∨ ((y = 250 ∨ y = 251) ∧ k < z + a.length + a2.length) ∨ (y = 223 ∧ k = 19) → wI w3 y k = wI w y k := fun y k q => by rw [n3 y k (by omega), f2.at y k (by unfold PE; omega), n1 y k (by omega)]
        refine kk t7 a3 w3 f3' z3 C3 ((n3 _ _ (by omega)).trans c3) ((n3 _ _ (by omega)).trans g35) ((n3 _ _ (by omega)).trans c4) (by omega) (by omega) ((p2 _ _ (by omega)).trans hs19) ⟨fun y k y1 y2 y3 y4 => p2 y k (by omega), fun y k y1 y2 y3 => p2 y k (by omega)⟩ ⟨⟨by omega, by omega⟩, (p2 _ _ (by omega)).trans u249, z, hcz, (p2 _ _ (by omega)).trans u250, (p2 _ _ (by omega)).trans u251, (n3 _ _ (by omega)).trans c6, (n3 _ _ (by omega)).trans c7, mcode_ag _ _ (fun k k1 k2 => ⟨p2 _ _ (by omega), p2 _ _ (by omega)⟩) M1, mcode_ag _ _ (fun k k1 k2 => ⟨p2 _ _ (by omega), p2 _ _ (by omega)⟩) M2, mcode_ag _ _ (fun k k1 k2 => ⟨n3 _ _ (by omega), n3 _ _ (by omega)⟩) c5, W1, W2, G.2.2.2.2, Nat.le_refl _⟩
/-- the first half of a branch -/
theorem m_lw38 {β : Type} {w : Wd} {t z sd' m : Nat} {bs : Bs} {i : Nat} {F : Nat × (List Op × List Op) → Sum Ft β} {ok : β → Wd → Prop} (hbb : bb ≤ 130) (hcb : cb ≤ 420) (hf0 : bb ≤ f0) (hz0 : z00 ≤ z) (hO0 : Ok L wl dr tx w0) (hT0 : MT c N w0) (hm : 0 < m) (hi : i ≤ 10) (hF : Fr (PLm bb cb f0 z00 ix) w0 w) (h : LMI c N bb cb f0 sd' w t bs z) (hk : kK c N t = 28)
    (kk : ∀ t' a a2 w1, Fr (PLm bb cb f0 z00 ix) w0 w1 → wI w1 223 13 = 0 → MCU c N w1 t' → wI w1 223 12 = 0 → wI w1 223 35 = ((f0 + bs.length : Nat) : Int) → wI w1 223 41 = ((z + a.length + a2.length : Nat) : Int) → z + a.length + a2.length + 2 ≤ cb + t' → t + 4 ≤ t' → wI w1 223 19 = (sd' : Int) → AGL w w1 bb cb (f0 + bs.length) z → wI w1 245 (f0 + bs.length) = 1 → wI w1 246 (f0 + bs.length) = (z : Int) → wI w1 247 (f0 + bs.length) = ((z + a.length : Nat) : Int) → mcode w1 z a → mcode w1 (z + a.length) a2 → wk 15 a 0 = some 1 → wk 15 a2 0 = some 1 → Wp (Mo_tellLaw_110 (Mo_tellLaw_12 m) 223 x (f0 : Int) ((i + 1 : Nat) : Int) w1) (MRS c N (PLm bb cb f0 z00 ix) w0 (F (t', (a, a2))) ok)) :
    Wp (Mo_tellLaw_38 (Mo_tellLaw_12 m) 223 x (f0 : Int) (i : Int) w) (MRS c N (PLm bb cb f0 z00 ix) w0 (sb (ps1 t) (fun t1 => sb (smx (kK c N) (kV c N) 20 0 t1) (fun a => sb (ex (kK c N) 13 a.1) (fun t2 => sb (smx (kK c N) (kV c N) 20 0 t2) (fun b => F (b.1, (a.2, b.2))))))) ok) := by
  obtain ⟨i1, i2, i3, i4, i5, i6, i7, i8, i9, i10⟩ := h
  have t4 := i2.1.1
  have hO := hF.ok hO0
  generalize hbe : f0 + bs.length = b at *
  have hfb : f0 ≤ b := by omega
  unfold Mo_tellLaw_38
  refine wp_gI hO rfl (wp_pos (by omega) (wp_call (m_goesOn hO (hT0.lm hF) i2 i1 (by omega)) (fun w1 g => ?_)))
  obtain ⟨f1, g⟩ := g
  have f1' : Fr (PLm bb cb f0 z00 ix) w0 w1 := hF.tr (f1.mono (fun a k q => by unfold PGo at q; unfold PLm; omega))
  have hO1 := f1'.ok hO0
  have n1 : ∀ a k, a ≠ 223 ∨ (k ≠ 11 ∧ k ≠ 13 ∧ k ≠ 14) → wI w1 a k = wI w a k := fun a k q => f1.at a k (by unfold PGo; omega)
  refine wp_R12_36 hO1 (wp_gI hO1 rfl ?_)
  rw [n1 _ _ (by omega), i4]
  refine wp_wZ hO1 rfl (by omega) (Or.inr rfl) ?_
  rw [Int.toNat_natCast]
  generalize hw2 : sI w1 245 b 1 = w2
  have f2 : Fr (PLm bb cb f0 z00 ix) w0 w2 := by rw [← hw2]; exact f1'.sI (by unfold PLm; omega)
  have n2 : ∀ a k, a ≠ 245 ∨ k ≠ b → wI w2 a k = wI w1 a k := fun a k q => by rw [← hw2, wI_ne (by omega)]
  have v2 : wI w2 245 b = 1 := by rw [← hw2, wI_eq]
  clear hw2
  have hO2 := f2.ok hO0
  refine wp_R12_37 hO2 (wp_gI hO2 rfl (wp_gI hO2 rfl ?_))
  rw [n2 _ _ (by omega), n2 _ _ (by omega), n1 _ _ (by omega), n1 _ _ (by omega), i4, i5]
  refine wp_wI hO2 rfl (by omega) ?_
  rw [Int.toNat_natCast]
  generalize hw3 : sI w2 246 b (z : Int) = w3
  have f3 : Fr (PLm bb cb f0 z00 ix) w0 w3 := by rw [← hw3]; exact f2.sI (by unfold PLm; omega)
  have n3 : ∀ a k, (a ≠ 245 ∧ a ≠ 246) ∨ k ≠ b → wI w3 a k = wI w1 a k := fun a k q => by rw [← hw3, wI_ne (by omega), n2 a k (by omega)]
  have v3 : wI w3 245 b = 1 := by rw [← hw3, wI_ne (by omega), v2]
  have u3 : wI w3 246 b = (z : Int) := by rw [← hw3, wI_eq]
  clear hw3 v2 n2
  have hO3 := f3.ok hO0
  have hi1 : w32 ((i : Int) + 1) = ((i + 1 : Nat) : Int) := by rw [w32_id (by omega) (by omega)]; omega
  -- behind a fault
  have bad : ∀ (w5 : Wd) (e : Ft), ERR c N w5 e → Fr (PLm bb cb f0 z00 ix) w0 w5 → wI w5 223 35 = (b : Int) → Wp ((Mo_must 223 13 w5).bind fun r83 => (fgR r83 223 12 38).bind fun v87 => (fgI r83 223 12 35).bind fun v91 => (fgI r83 223 12 41).bind fun v95 => (wrI r83 v87 v91 v95).bind fun w98 => (fgI w98 223 12 13).bind fun v100 => if (v100 : Int) = 0 then (Mo_expression 223 w98).bind fun r107 => Mo_tellLaw_110 (Mo_tellLaw_12 m) 223 x (f0 : Int) (w32 ((i : Int) + 1)) r107 else Mo_tellLaw_110 (Mo_tellLaw_12 m) 223 x (f0 : Int) (w32 ((i : Int) + 1)) w98) (fun w1 => Fr (PLm bb cb f0 z00 ix) w0 w1 ∧ ERR c N w1 e) := by
    intro w5 e E5 f5 b5
    have hO5 := f5.ok hO0
    refine wp_eq (m_mustF hO5 (err_pos E5)) (wp_R12_38 hO5 (wp_gI hO5 rfl (wp_gI hO5 rfl ?_)))
    rw [b5]
    refine wp_wI hO5 rfl (by omega) ?_
    rw [Int.toNat_natCast]
    generalize hw6 : sI w5 247 b (wI w5 223 41) = w6
    have f6 : Fr (PLm bb cb f0 z00 ix) w0 w6 := by rw [← hw6]; exact f5.sI (by unfold PLm; omega)
    have n6 : ∀ k, wI w6 223 k = wI w5 223 k := fun k => by rw [← hw6, wI_ne (by omega)]
    clear hw6
    have E6 : ERR c N w6 e := E5.eq (fun k _ => n6 k)
    have p6 := err_pos E6
    rw [hi1]
    exact wp_gI (f6.ok hO0) rfl (wp_neg (by omega) (m_lw110F hbb hm hO0 E6 ((n6 _).trans b5) (by omega) f6))
  generalize hp : ps1 t = p at g
  cases p with
  | inl e =>
    have E3 : ERR c N w3 e := g.eq (fun k q => n3 _ _ (by omega))
    refine wp_call (m_exprF hO3 (err_pos E3)) (fun w4 f4 => ?_)
    exact bad w4 e (E3.eq (fun k q => f4.at _ _ (by omega))) (f3.tr (f4.mono (fun a k q => by unfold PLm; omega))) (by rw [f4.at _ _ (by omega), n3 _ _ (by omega), n1 _ _ (by omega), i4])
  | inr t1 =>
    obtain ⟨C1, z1⟩ := g
    have e1 := ps1_inr hp
    show Wp _ (MRS c N (PLm bb cb f0 z00 ix) w0 (sb (smx (kK c N) (kV c N) 20 0 t1) (fun a => sb (ex (kK c N) 13 a.1) (fun t2 => sb (smx (kK c N) (kV c N) 20 0 t2) (fun b => F (b.1, (a.2, b.2)))))) ok)
    refine wp_call (m_expr (cc := z) hcb hO3 (hT0.lm f3) ((n3 _ _ (by omega)).trans z1) ⟨C1.1, (n3 _ _ (by omega)).trans C1.2⟩ (by rw [n3 _ _ (by omega), n1 _ _ (by omega), i3]) (by rw [n3 _ _ (by omega), n1 _ _ (by omega), i5]) (by omega)) (fun w4 g4 => ?_)
    obtain ⟨f4, g4⟩ := g4
    have f4' : Fr (PLm bb cb f0 z00 ix) w0 w4 := f3.tr (f4.mono (fun a k q => by unfold PE at q; unfold PLm; omega))
    have hO4 := f4'.ok hO0
    have b4 : wI w4 223 35 = (b : Int) := by rw [f4.at _ _ (by unfold PE; omega), n3 _ _ (by omega), n1 _ _ (by omega), i4]
    generalize hs : smx (kK c N) (kV c N) 20 0 t1 = s at g4
    cases s with
    | inl e => exact bad w4 e g4 f4' b4
    | inr q =>
      obtain ⟨t2, a⟩ := q
      obtain ⟨c1, c2, c3, c4, c5⟩ := g4
      have G := gd_smx _ _ _ _ _ (by omega) hs
      have G1 := G.1
      have G3 := G.2.2.1
      refine wp_call (m_must (x := 13) hO4 (hT0.lm f4') c2 c1 (by omega)) (fun w5 g5 => ?_)
      obtain ⟨f5, g5⟩ := g5
      have f5' : Fr (PLm bb cb f0 z00 ix) w0 w5 := f4'.tr (f5.mono (fun a k q => by unfold PGo at q; unfold PLm; omega))
      have hO5 := f5'.ok hO0
      have n5 : ∀ a k, a ≠ 223 ∨ (k ≠ 11 ∧ k ≠ 13 ∧ k ≠ 14) → wI w5 a k = wI w4 a k := fun a k q => f5.at a k (by unfold PGo; omega)
      have b5 : wI w5 223 35 = (b : Int) := (n5 _ _ (by omega)).trans b4
      have c45 : wI w5 223 41 = ((z + a.length : Nat) : Int) := (n5 _ _ (by omega)).trans c4
      show Wp _ (MRS c N (PLm bb cb f0 z00 ix) w0 (sb (ex (kK c N) 13 t2) (fun t3 => sb (smx (kK c N) (kV c N) 20 0 t3) (fun b => F (b.1, (a, b.2))))) ok)
      have g5 : match ex (kK c N) 13 t2 with
        | .inl e => ERR c N w5 e
        | .inr t' => MCU c N w5 t' ∧ wI w5 223 13 = 0 := g5
      refine wp_R12_38 hO5 (wp_gI hO5 rfl (wp_gI hO5 rfl ?_))
      rw [b5, c45]
      refine wp_wI hO5 rfl (by omega) ?_
      rw [Int.toNat_natCast]
      generalize hw6 : sI w5 247 b ((z + a.length : Nat) : Int) = w6
      have f6 : Fr (PLm bb cb f0 z00 ix) w0 w6 := by rw [← hw6]; exact f5'.sI (by unfold PLm; omega)
      have n6 : ∀ a k, a ≠ 247 ∨ k ≠ b → wI w6 a k = wI w5 a k := fun a k q => by rw [← hw6, wI_ne (by omega)]
      have v6 : wI w6 247 b = ((z + a.length : Nat) : Int) := by rw [← hw6, wI_eq]
      clear hw6
      have hO6 := f6.ok hO0
      refine wp_gI hO6 rfl ?_
      generalize hx13 : ex (kK c N) 13 t2 = y at g5
      cases y with
      | inl e =>
        have E6 : ERR c N w6 e := g5.eq (fun k q => n6 _ _ (by omega))
        have p6 := err_pos E6
        rw [hi1]
        exact wp_neg (by omega) (m_lw110F hbb hm hO0 E6 ((n6 _ _ (by omega)).trans b5) (by omega) f6)
      | inr t3 =>
        obtain ⟨C5, z5⟩ := g5
        have e3 := ex_inr hx13
        refine wp_pos ((n6 _ _ (by omega)).trans z5) (wp_call (m_expr (cc := z + a.length) hcb hO6 (hT0.lm f6) ((n6 _ _ (by omega)).trans z5) ⟨C5.1, (n6 _ _ (by omega)).trans C5.2⟩ (by rw [n6 _ _ (by omega), n5 _ _ (by omega), c3]) ((n6 _ _ (by omega)).trans c45) (by omega)) (fun w7 g7 => ?_))
        obtain ⟨f7, g7⟩ := g7
        have f7' : Fr (PLm bb cb f0 z00 ix) w0 w7 := f6.tr (f7.mono (fun a k q => by unfold PE at q; unfold PLm; omega))
        have b7 : wI w7 223 35 = (b : Int) := by rw [f7.at _ _ (by unfold PE; omega), n6 _ _ (by omega), b5]
        show Wp _ (MRS c N (PLm bb cb f0 z00 ix) w0 (sb (smx (kK c N) (kV c N) 20 0 t3) (fun b => F (b.1, (a, b.2)))) ok)
        rw [hi1]
        generalize hs7 : smx (kK c N) (kV c N) 20 0 t3 = s7 at g7
        cases s7 with
        | inl e => exact m_lw110F hbb hm hO0 g7 b7 (by omega) f7'
        | inr q =>
          obtain ⟨t5, a2⟩ := q
          obtain ⟨d1, d2, d3, d4, d5⟩ := g7
          have H := gd_smx _ _ _ _ _ (by omega) hs7
          have H1 := H.1
          have H3 := H.2.2.1
          have p7 : ∀ y k, (245 ≤ y ∧ y ≤ 249 ∧ k < b) ∨ ((y = 250 ∨ y = 251) ∧ k < z) → wI w7 y k = wI w y k := fun y k q => by rw [f7.at y k (by unfold PE; omega), n6 y k (by omega), n5 y k (by omega), f4.at y k (by unfold PE; omega), n3 y k (by omega), n1 y k (by omega)]
          have q7 : ∀ k, z ≤ k → k < z + a.length → wI w7 250 k = wI w4 250 k ∧ wI w7 251 k = wI w4 251 k := fun k k1 k2 => ⟨by rw [f7.at _ _ (by unfold PE; omega), n6 _ _ (by omega), n5 _ _ (by omega)], by rw [f7.at _ _ (by unfold PE; omega), n6 _ _ (by omega), n5 _ _ (by omega)]⟩
          refine kk t5 a a2 w7 f7' d1 d2 d3 b7 d4 (by omega) (by omega) ?_ ⟨fun y k y1 y2 y3 y4 => p7 y k (by omega), fun y k y1 y2 y3 => p7 y k (by omega)⟩ ?_ ?_ ?_ (mcode_ag _ _ (fun k k1 k2 => q7 k k1 k2) c5) d5 G.2.2.2.2 H.2.2.2.2
          · rw [f7.at _ _ (by unfold PE; omega), n6 _ _ (by omega), n5 _ _ (by omega), f4.at _ _ (by unfold PE; omega), n3 _ _ (by omega), n1 _ _ (by omega), i10]
          · rw [f7.at _ _ (by unfold PE; omega), n6 _ _ (by omega), n5 _ _ (by omega), f4.at _ _ (by unfold PE; omega), v3]
          · rw [f7.at _ _ (by unfold PE; omega), n6 _ _ (by omega), n5 _ _ (by omega), f4.at _ _ (by unfold PE; omega), u3]
          · rw [f7.at _ _ (by unfold PE; omega), v6]
end ML
