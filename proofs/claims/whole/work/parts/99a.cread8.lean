/-! Level 3, read: the class's reader, masters, learning, drift. -/
section CV
variable {L wl dr : Nat} {c : Nat → Int} {N : Nat}
def PLw (dr z a k : Nat) : Prop := PX dr z a k ∨ (a = 8 ∧ k = 9)
theorem plw_rd {w w1 : Wd} {z : Nat} (f : FL (PLw dr z) QSt w w1) : FL (PRd dr) QRd w w1 := f.mono (fun a k q => by unfold PLw PX at q; unfold PRd; omega) (fun a k q => Or.inl q.1)
/-- a law more; those before it stand -/
theorem c_lawst {w : Wd} {z t : Nat} {V : Vl} (hd : isWi dr) (hO : Ok L wl dr 7 w) (hT : CT c N w) (hC : CUR c N w t) (hS : wI w (dr + 7) 0 = (z : Int)) (hzt : z + 1 ≤ t) (hL : CLW w dr z V) : Wp (Rd_takeLaw 8 w) (RES (kP c N) dr w (law' (kK c N) (kV c N) t) (fun q w1 => CUR c N w1 q.1 ∧ FL (PLw dr z) QSt w w1 ∧ wI w1 8 9 = (z : Int) ∧ ∃ z1 : Nat, wI w1 (dr + 7) 0 = (z1 : Int) ∧ z1 ≤ q.1 ∧ claw w1 (dr + 7) z1 z q.2.1 q.2.2 ∧ CLW w1 dr z1 V)) := by
  have hb := wi_bd hd
  refine wp_use (c_takeLaw hd hO hT hC hS hzt) (fun r hr => res_tr (FL.rf w) hr (fun q _ h => ?_))
  obtain ⟨h1, h2, z1, h3, h4, h5, h6⟩ := h
  have f : FL (PLw dr z) QSt w r.2 := ((FL.rf w).sI (P := PLw dr z) (Or.inr ⟨rfl, rfl⟩)).tr (h2.mono (fun a k q => Or.inl q) (fun a k q => q))
  refine ⟨h1, f, ?_, z1, h3, by omega, h6, hL.ag (by omega) (fun k hk => ⟨f.i _ _ (by unfold PLw PX; omega), f.i _ _ (by unfold PLw PX; omega)⟩) (fun a k q => f.i _ _ (by unfold PLw PX; omega))⟩
  rw [h2.i 8 9 (by unfold PX; omega), wI_eq]
def sMasterA (K : Nat → Nat) (Iv Nm : Nat → Int) (s : Sst) (t : Nat) : Sum Ft (Nat × Sst) := if nm (sV s) = 3 then .inl (2, t) else sb (ps1 t) (fun t1 => sb (ex K 1 t1) (fun t2 => sb (law' K Iv t2) (fun q => .inr (q.1, uMaster Nm s t1 q.2))))
theorem c_takeMaster {w : Wd} {s : Sst} {t : Nat} (hd : isWi dr) (hO : Ok L wl dr 7 w) (hT : CT c N w) (h : CDR c N dr w s t) (k22 : kK c N t = 22) : Wp (Rd_takeMaster 8 w) (RES (kP c N) dr w (sMasterA (kK c N) (kV c N) (kN c N) s t) (fun q w1 => CDR c N dr w1 q.2 q.1)) := by
  have hb := wi_bd hd
  have dn := wi_ne hd
  obtain ⟨hC, hN, hD, ⟨z0, hz, hzt, hL⟩, hM⟩ := h
  obtain ⟨⟨b1, b2, b3⟩, ⟨d0, d1, d2, d3, d4, d5⟩, d6, d7, d8⟩ := hD
  unfold Rd_takeMaster Rd_takeMaster_0 Rd_takeMaster_57 sMasterA
  refine wp_gd hO rfl (wp_R6_1 hO dn (wp_gI hO (sh_Wi L hd) ?_))
  rw [d2]
  by_cases q : nm (sV s) = 3
  · rw [if_pos q]
    exact wp_neg (by omega) (wp_call (refuse_res (x := 2) hO hT hC) (fun r hr => wp_rZr (Or.inl hr.2.1) hr))
  · rw [if_neg q]
    refine wp_pos (by omega) (wp_R6_1 hO dn (wp_gI hO (sh_Wi L hd) ?_))
    rw [d2, w32_id (by omega) (by omega), show (nm (sV s) : Int) + 1 = ((nm (sV s) + 1 : Nat) : Int) by omega, w32_id (z := 12 + (nm (sV s) : Int)) (by omega) (by omega), show 12 + (nm (sV s) : Int) = ((12 + nm (sV s) : Nat) : Int) by omega]
    refine wp_pI hO (sh_Wi L hd) ?_
    generalize hw1 : sI w dr 2 ((nm (sV s) + 1 : Nat) : Int) = w1
    have hO1 : Ok L wl dr 7 w1 := by rw [← hw1]; exact hO.sI
    have i1 : ∀ a k, a ≠ dr ∨ k ≠ 2 → wI w1 a k = wI w a k := fun a k q => by rw [← hw1]; exact wI_ne q
    have l1 : ∀ a k, wL w1 a k = wL w a k := fun a k => by rw [← hw1, wL_sI]
    have v1 : wI w1 dr 2 = ((nm (sV s) + 1 : Nat) : Int) := by rw [← hw1, wI_eq]
    have f1 : FL (PRd dr) QRd w w1 := by rw [← hw1]; exact (FL.rf w).sI (by unfold PRd; omega)
    have hT1 : CT c N w1 := hT.fl (fun a k q => i1 a k (by omega)) (fun k => l1 _ _)
    have C1 : CUR c N w1 t := hC.eq (fun k q => i1 _ _ (by omega)) (l1 _ _)
    clear hw1
    refine wp_res2 f1 (c_pass hO1 hT1 C1 (by omega)) (fun t1 r2 e2 f2 _ h2 => ?_)
    obtain ⟨C2, F2⟩ := h2
    have e2' := ps1_inr e2
    have hO2 := (st_rd (dr := dr) F2).ok hO1
    have hT2 := hT1.px hd (st_px (z := 0) F2)
    have N2 : NTC c N r2.2 (sT s) := hN.eq (fun k q => (F2.i _ _ (by unfold PSt; omega)).trans (i1 _ _ (by omega)))
    have l2 : ∀ k, wL r2.2 27 k = wL w 27 k := fun k => (F2.l _ _ (by unfold QSt; omega)).trans (l1 _ _)
    have i2 : ∀ a k, a ≠ 8 → wI r2.2 a k = wI w1 a k := fun a k q => F2.i a k (by unfold PSt; omega)
    have A2 : NMA r2.2 (sA s) := (hM.eq l2).2.1
    refine wp_res2 f2 (c_newName (j := 12 + nm (sV s)) (by omega) hO2 hT2 C2 N2 A2) (fun t2 r3 e3 f3 _ h3 => ?_)
    obtain ⟨C3, F3, N3, V3⟩ := h3
    have e3' := ex_inr e3
    have hO3 := (pn_rd (dr := dr) F3).ok hO2
    have hT3 := hT2.pn F3
    have i3 : ∀ a k, a ≠ 8 → (a ≠ dr ∨ k ≠ 2) → wI r3.2 a k = wI w a k := fun a k q1 q2 => ((F3.i a k (by unfold PN; omega)).trans (i2 a k q1)).trans (i1 a k q2)
    have L3 : CLW r3.2 dr z0 (sV s) := hL.ag (Nat.le_refl _) (fun k _ => ⟨i3 _ _ (by omega) (by omega), i3 _ _ (by omega) (by omega)⟩) (fun a k q => i3 _ _ (by omega) (by omega))
    refine wp_res2 f3 (c_lawst hd hO3 hT3 C3 ((i3 _ _ (by omega) (by omega)).trans hz) (by omega) L3) (fun p r4 e4 f4 _ h4 => ?_)
    obtain ⟨C4, F4, V4, z1, S4, B4, W4, L4⟩ := h4
    have hO4 := (plw_rd F4).ok hO3
    refine wp_R6_1 hO4 dn (wp_R10_11 hO4 hd (wp_gI hO4 rfl ?_))
    rw [V4]
    refine wp_wI hO4 (sh_Wi_11 L hd) (by omega) (wp_ret ?_)
    rw [Int.toNat_natCast]
    generalize hw5 : sI r4.2 (dr + 5) (nm (sV s)) (z0 : Int) = w5
    have l5 : ∀ a k, wL w5 a k = wL r4.2 a k := fun a k => by rw [← hw5, wL_sI]
    have i5 : ∀ a k, a ≠ dr + 5 ∨ k ≠ nm (sV s) → wI w5 a k = wI r4.2 a k := fun a k q => by rw [← hw5, wI_ne (by omega)]
    have v5 : wI w5 (dr + 5) (nm (sV s)) = (z0 : Int) := by rw [← hw5, wI_eq]
    have f5 : FL (PRd dr) QRd w w5 := by rw [← hw5]; exact f4.sI (by unfold PRd; omega)
    clear hw5
    have n5 : ∀ a k, dr ≤ a → a ≤ dr + 6 → (a ≠ dr ∨ k ≠ 2) → (a ≠ dr + 5 ∨ k ≠ nm (sV s)) → wI w5 a k = wI w a k := fun a k q1 q2 q3 q4 => by rw [i5 a k q4, F4.i a k (by unfold PLw PX; omega), i3 a k (by omega) q3]
    refine ⟨f5, rfl, C4.eq (fun k q => i5 _ _ (by omega)) (l5 _ _), (N3.eq (fun k q => F4.i 8 k (by unfold PLw PX; omega))).eq (fun k q => i5 _ _ (by omega)), ⟨⟨b1, b2, by show nm (sV s) + 1 ≤ 3; omega⟩, ⟨?_, ?_, ?_, ?_, ?_, ?_⟩, fun l hl => ?_, fun x hx => ?_, fun x hx l hl => ?_⟩, ⟨z1, (i5 _ _ (by omega)).trans S4, B4, fun m hm => ?_, fun x hx => ?_, ?_⟩, fun x hx => ?_, nma_add A2 (j := 12 + nm (sV s)) (by omega) ?_ ?_ (fun k hk => ?_), fun j j1 j2 j3 j4 => ?_⟩
    · exact (n5 _ _ (by omega) (by omega) (by omega) (by omega)).trans d0
    · exact (n5 _ _ (by omega) (by omega) (by omega) (by omega)).trans d1
    · rw [i5 _ _ (by omega), F4.i _ _ (by unfold PLw PX; omega), F3.i _ _ (by unfold PN; omega), i2 _ _ (by omega), v1]; rfl
    · exact (n5 _ _ (by omega) (by omega) (by omega) (by omega)).trans d3
    · exact (n5 _ _ (by omega) (by omega) (by omega) (by omega)).trans d4
    · exact (n5 _ _ (by omega) (by omega) (by omega) (by omega)).trans d5
    · exact (n5 _ _ (by omega) (by omega) (by omega) (by omega)).trans (d6 l hl)
    · exact ⟨(n5 _ _ (by omega) (by omega) (by omega) (by omega)).trans (d7 x hx).1, (n5 _ _ (by omega) (by omega) (by omega) (by omega)).trans (d7 x hx).2⟩
    · exact (n5 _ _ (by omega) (by omega) (by omega) (by omega)).trans (d8 x hx l hl)
    · show clawAt w5 (dr + 7) z1 (wI w5 (dr + 5) m) (if m = nm (sV s) then some p.2 else lo (sV s) m)
      have hm : m < nm (sV s) + 1 := hm
      by_cases e : m = nm (sV s)
      · rw [if_pos e, e, v5]
        exact clawAt_ag (w := r4.2) (Nat.le_refl _) (fun k _ => ⟨i5 _ _ (by omega), i5 _ _ (by omega)⟩) ⟨z0, rfl, W4⟩
      · rw [if_neg e, i5 _ _ (by omega)]
        exact clawAt_ag (w := r4.2) (Nat.le_refl _) (fun k _ => ⟨i5 _ _ (by omega), i5 _ _ (by omega)⟩) (L4.1 m (by omega))
    · show clawAt w5 (dr + 7) z1 (wI w5 (dr + 6) x) (if 3 + x = nm (sV s) then some p.2 else lo (sV s) (3 + x))
      rw [if_neg (by omega), i5 _ _ (by omega)]
      exact clawAt_ag (w := r4.2) (Nat.le_refl _) (fun k _ => ⟨i5 _ _ (by omega), i5 _ _ (by omega)⟩) (L4.2.1 x hx)
    · show clawAt w5 (dr + 7) z1 (wI w5 dr 6) (if 9 = nm (sV s) then some p.2 else lo (sV s) 9)
      rw [if_neg (by omega), i5 _ _ (by omega)]
      exact clawAt_ag (w := r4.2) (Nat.le_refl _) (fun k _ => ⟨i5 _ _ (by omega), i5 _ _ (by omega)⟩) L4.2.2
    · have hx : x < nh (sV s) := hx
      rw [l5, F4.l _ _ (by unfold QSt; omega), F3.l _ _ (by unfold QN; omega), l2]
      exact hM.1 x hx
    · rw [l2]; exact hM.2.2 _ (by omega) (fun h => absurd h (by omega)) (fun _ h => absurd h (by omega)) (fun _ => by omega)
    · rw [l5, F4.l _ _ (by unfold QSt; omega)]; exact V3
    · rw [l5, F4.l _ _ (by unfold QSt; omega), F3.l _ _ (by unfold QN; omega)]
    · have j4 : 12 ≤ j → nm (sV s) + 1 ≤ j - 12 := j4
      rw [l5, F4.l _ _ (by unfold QSt; omega), F3.l _ _ (by unfold QN; intro e; have := j4 (by omega); omega), l2]
      exact hM.2.2 j j1 j2 j3 (fun q => by have := j4 q; omega)
def sDriftA (K : Nat → Nat) (Iv : Nat → Int) (s : Sst) (t : Nat) : Sum Ft (Nat × Sst) := sb (ps1 t) (fun t1 => sb (law' K Iv t1) (fun q => .inr (q.1, uDrift s q.2)))
theorem c_takeDrift {w : Wd} {s : Sst} {t : Nat} (hd : isWi dr) (hO : Ok L wl dr 7 w) (hT : CT c N w) (h : CDR c N dr w s t) (k24 : kK c N t = 24) : Wp (Rd_takeDrift 8 w) (RES (kP c N) dr w (sDriftA (kK c N) (kV c N) s t) (fun q w1 => CDR c N dr w1 q.2 q.1)) := by
  have hb := wi_bd hd
  have dn := wi_ne hd
  obtain ⟨hC, hN, hD, ⟨z0, hz, hzt, hL⟩, hM⟩ := h
  unfold Rd_takeDrift Rd_takeDrift_0 Rd_takeDrift_14 sDriftA
  refine wp_gd hO rfl (wp_res (c_pass hO hT hC (by omega)) (fun t1 r2 e2 f2 _ h2 => ?_))
  obtain ⟨C2, F2⟩ := h2
  have e2' := ps1_inr e2
  have hO2 := (st_rd (dr := dr) F2).ok hO
  have hT2 := hT.px hd (st_px (z := 0) F2)
  have i2 : ∀ a k, a ≠ 8 → wI r2.2 a k = wI w a k := fun a k q => F2.i a k (by unfold PSt; omega)
  have L2 : CLW r2.2 dr z0 (sV s) := hL.ag (Nat.le_refl _) (fun k _ => ⟨i2 _ _ (by omega), i2 _ _ (by omega)⟩) (fun a k q => i2 _ _ (by omega))
  refine wp_res2 f2 (c_lawst hd hO2 hT2 C2 ((i2 _ _ (by omega)).trans hz) (by omega) L2) (fun p r4 e4 f4 _ h4 => ?_)
  obtain ⟨C4, F4, V4, z1, S4, B4, W4, L4⟩ := h4
  have hO4 := (plw_rd F4).ok hO2
  refine wp_R6_1 hO4 dn (wp_gI hO4 rfl ?_)
  rw [V4]
  refine wp_pI hO4 (sh_Wi L hd) (wp_ret ?_)
  generalize hw5 : sI r4.2 dr 6 (z0 : Int) = w5
  have l5 : ∀ a k, wL w5 a k = wL r4.2 a k := fun a k => by rw [← hw5, wL_sI]
  have i5 : ∀ a k, a ≠ dr ∨ k ≠ 6 → wI w5 a k = wI r4.2 a k := fun a k q => by rw [← hw5, wI_ne (by omega)]
  have v5 : wI w5 dr 6 = (z0 : Int) := by rw [← hw5, wI_eq]
  have f5 : FL (PRd dr) QRd w w5 := by rw [← hw5]; exact f4.sI (by unfold PRd; omega)
  clear hw5
  have n5 : ∀ a k, dr ≤ a → a ≤ dr + 6 → (a ≠ dr ∨ k ≠ 6) → wI w5 a k = wI w a k := fun a k q1 q2 q3 => by rw [i5 a k q3, F4.i a k (by unfold PLw PX; omega), i2 a k (by omega)]
  refine ⟨f5, rfl, C4.eq (fun k q => i5 _ _ (by omega)) (l5 _ _), ((hN.eq (fun k q => F2.i 8 k (by unfold PSt; omega))).eq (fun k q => F4.i 8 k (by unfold PLw PX; omega))).eq (fun k q => i5 _ _ (by omega)), ?_, ⟨z1, (i5 _ _ (by omega)).trans S4, B4, fun m hm => ?_, fun x hx => ?_, ?_⟩, ?_⟩
  · obtain ⟨b0, ⟨d0, d1, d2, d3, d4, d5⟩, d6, d7, d8⟩ := hD
    exact ⟨b0, ⟨(n5 _ _ (by omega) (by omega) (by omega)).trans d0, (n5 _ _ (by omega) (by omega) (by omega)).trans d1, (n5 _ _ (by omega) (by omega) (by omega)).trans d2, (n5 _ _ (by omega) (by omega) (by omega)).trans d3, (n5 _ _ (by omega) (by omega) (by omega)).trans d4, (n5 _ _ (by omega) (by omega) (by omega)).trans d5⟩, fun l hl => (n5 _ _ (by omega) (by omega) (by omega)).trans (d6 l hl), fun x hx => ⟨(n5 _ _ (by omega) (by omega) (by omega)).trans (d7 x hx).1, (n5 _ _ (by omega) (by omega) (by omega)).trans (d7 x hx).2⟩, fun x hx l hl => (n5 _ _ (by omega) (by omega) (by omega)).trans (d8 x hx l hl)⟩
  · show clawAt w5 (dr + 7) z1 (wI w5 (dr + 5) m) (if m = 9 then some p.2 else lo (sV s) m)
    have hm : m < nm (sV s) := hm
    have := hD.1.2.2
    rw [if_neg (by omega), i5 _ _ (by omega)]
    exact clawAt_ag (w := r4.2) (Nat.le_refl _) (fun k _ => ⟨i5 _ _ (by omega), i5 _ _ (by omega)⟩) (L4.1 m hm)
  · show clawAt w5 (dr + 7) z1 (wI w5 (dr + 6) x) (if 3 + x = 9 then some p.2 else lo (sV s) (3 + x))
    rw [if_neg (by omega), i5 _ _ (by omega)]
    exact clawAt_ag (w := r4.2) (Nat.le_refl _) (fun k _ => ⟨i5 _ _ (by omega), i5 _ _ (by omega)⟩) (L4.2.1 x hx)
  · show clawAt w5 (dr + 7) z1 (wI w5 dr 6) (some p.2)
    rw [v5]
    exact clawAt_ag (w := r4.2) (Nat.le_refl _) (fun k _ => ⟨i5 _ _ (by omega), i5 _ _ (by omega)⟩) ⟨z0, rfl, W4⟩
  · exact hM.eq (fun k => (l5 _ _).trans ((F4.l _ _ (by unfold QSt; omega)).trans (F2.l _ _ (by unfold QSt; omega))))
end CV
