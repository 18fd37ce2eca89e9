/-! Level 3, read: the class's reader, heirs and laws of a will. -/
section CU
variable {L wl dr : Nat} {c : Nat → Int} {N : Nat}
def PHs (dr h a k : Nat) : Prop := PN a k ∨ (a = dr + 4 ∧ 6 * h ≤ k ∧ k < 6 * h + 6)
theorem phs_rd {w w1 : Wd} {h : Nat} (f : FL (PHs dr h) QSt w w1) : FL (PRd dr) QRd w w1 := f.mono (fun a k q => q.elim (fun q => Or.inl q.1) (fun q => by unfold PRd; omega)) (fun a k q => Or.inl q.1)
theorem c_hsh {w0 : Wd} {h : Nat} (hd : isWi dr) (hh : h < 6) : ∀ (r m l t : Nat) (f : Nat → Int) (n : Ft) (w : Wd), l + r = 6 → r < m → Ok L wl dr 7 w → CT c N w → CUR c N w t → NTC c N w n → (∀ x, x < 6 → wI w (dr + 4) (6 * h + x) = f x) → FL (PHs dr h) QSt w0 w → Wp (Rd_takeHeir_101 m 8 (h : Int) (l : Int) w) (RES (kP c N) dr w0 (hsh (kK c N) (kV c N) r l t f n) (fun q w1 => CUR c N w1 q.1 ∧ NTC c N w1 q.2.2 ∧ (∀ x, x < 6 → wI w1 (dr + 4) (6 * h + x) = q.2.1 x) ∧ FL (PHs dr h) QSt w0 w1 ∧ t ≤ q.1))
  | r, 0, l, t, f, n, w, _, hm, _, _, _, _, _, _ => absurd hm (by omega)
  | 0, m + 1, l, t, f, n, w, hl, hm, hO, hT, hC, hN, hX, hF => by
    have e : hsh (kK c N) (kV c N) 0 l t f n = if kK c N t = 2 then .inl (2, t) else .inr (t, f, n) := rfl
    rw [e, Rd_takeHeir_101]
    unfold Rd_takeHeir_150 Rd_takeHeir_167
    refine wp_pos (by omega) (wp_gI hO rfl (wp_ite (fun q => ?_) (fun q => ?_)))
    · rw [if_pos ((hC.is (k := 2) (by unfold kv; omega)).mp q)]
      exact wp_call (refuse_res (x := 2) (α := Unit) (ok := fun _ _ => True) hO hT hC) (fun r hr => wp_rZr (Or.inl hr.2.1) ⟨(phs_rd hF).tr hr.1, hr.2⟩)
    · rw [if_neg (fun p => q ((hC.is (k := 2) (by unfold kv; omega)).mpr p))]
      exact wp_rZr (Or.inr rfl) ⟨phs_rd hF, rfl, hC, hN, hX, hF, Nat.le_refl _⟩
  | r + 1, m + 1, l, t, f, n, w, hl, hm, hO, hT, hC, hN, hX, hF => by
    have hb := wi_bd hd
    have dn := wi_ne hd
    have e : hsh (kK c N) (kV c N) (r + 1) l t f n = if kK c N t = 2 then sb (ps1 t) (fun t1 => hsh (kK c N) (kV c N) r (l + 1) t1 (fun x => if x = l then kV c N t else f x) (ind (kV c N) 99 n t)) else .inr (t, f, n) := rfl
    rw [e, Rd_takeHeir_101]
    unfold Rd_takeHeir_150 Rd_takeHeir_167
    refine wp_neg (by omega) (wp_gI hO rfl (wp_ite (fun q => ?_) (fun q => wp_gI hO rfl (wp_neg q ?_))))
    · have k2 := (hC.is (k := 2) (by unfold kv; omega)).mp q
      rw [if_pos k2]
      have ti := c_takeInt (dr := dr) (most := 99) hO hT hC hN
      unfold ex at ti
      rw [if_pos k2] at ti
      refine wp_res2 (phs_rd hF) ti (fun t1 r1 e1 f1 _ h1 => ?_)
      obtain ⟨C1, F1, N1, V1⟩ := h1
      have e1' := ps1_inr e1
      have hO1 := (pn_rd (dr := dr) (pq (j := 0) F1)).ok hO
      refine wp_R6_1 hO1 dn (wp_R10_10 hO1 hd (wp_gI hO1 rfl ?_))
      rw [V1, w32_id (z := (h : Int) * 6) (by omega) (by omega), w32_id (z := (h : Int) * 6 + (l : Int)) (by omega) (by omega), show (h : Int) * 6 + (l : Int) = ((6 * h + l : Nat) : Int) by omega]
      refine wp_wI hO1 (sh_Wi_10 L hd) (by omega) ?_
      rw [Int.toNat_natCast, w32_id (z := (l : Int) + 1) (by omega) (by omega), show (l : Int) + 1 = ((l + 1 : Nat) : Int) by omega]
      generalize hw2 : sI r1.2 (dr + 4) (6 * h + l) (kV c N t) = w2
      have f2 : FL (PHs dr h) QSt w0 w2 := by rw [← hw2]; exact (hF.tr (F1.mono (fun a k q => Or.inl q) (fun a k q => q))).sI (Or.inr (by omega))
      have hT2 : CT c N w2 := (hT.pn (pq (j := 0) F1)).fl (fun a k q => by rw [← hw2]; exact wI_ne (by omega)) (fun k => by rw [← hw2, wL_sI])
      have C2 : CUR c N w2 t1 := C1.eq (fun k q => by rw [← hw2]; exact wI_ne (by omega)) (by rw [← hw2, wL_sI])
      refine wp_use (c_hsh hd hh r m (l + 1) t1 _ _ w2 (by omega) (by omega) (by rw [← hw2]; exact hO1.sI) hT2 C2 (N1.eq (fun k q => by rw [← hw2]; exact wI_ne (by omega))) (fun x hx => ?_) f2) (fun r hr => res_tr (FL.rf w0) hr (fun q _ g => ⟨g.1, g.2.1, g.2.2.1, g.2.2.2.1, by have := g.2.2.2.2; omega⟩))
      by_cases ex' : x = l
      · rw [if_pos ex', ex', ← hw2, wI_eq]
      · rw [if_neg ex', ← hw2, wI_ne (by omega), F1.i _ _ (by unfold PN; omega)]; exact hX x hx
    · rw [if_neg (fun p => q ((hC.is (k := 2) (by unfold kv; omega)).mpr p))]
      exact wp_rZr (Or.inr rfl) ⟨phs_rd hF, rfl, hC, hN, hX, hF, Nat.le_refl _⟩
def sHeirA (K : Nat → Nat) (Iv Nm : Nat → Int) (s : Sst) (t : Nat) : Sum Ft (Nat × Sst) := if nh (sV s) = 6 then .inl (2, t) else sb (ps1 t) (fun t1 => sb (ex K 1 t1) (fun t2 => sb (ex K 2 t2) (fun t3 => sb (ex K 2 t3) (fun t4 => sb (hsh K Iv 6 0 t4 (fun _ => 50) (ind Iv 9 (ind Iv 99 (nmd Nm (sA s) (sT s) t1) t2) t3)) (fun q => .inr (q.1, uHeir Iv Nm s t1 t2 t3 q.2.1 q.2.2))))))
theorem sb_rt {α : Type} (r : Sum Ft α) : sb r (fun a => .inr a) = r := by cases r <;> rfl
theorem c_takeHeir {w : Wd} {s : Sst} {t : Nat} (hd : isWi dr) (hO : Ok L wl dr 7 w) (hT : CT c N w) (h : CDR c N dr w s t) (k21 : kK c N t = 21) : Wp (Rd_takeHeir 8 w) (RES (kP c N) dr w (sHeirA (kK c N) (kV c N) (kN c N) s t) (fun q w1 => CDR c N dr w1 q.2 q.1)) := by
  have hb := wi_bd hd
  have dn := wi_ne hd
  obtain ⟨hC, hN, hD, ⟨z0, hz, hzt, hL⟩, hM⟩ := h
  obtain ⟨⟨b1, b2, b3⟩, ⟨d0, d1, d2, d3, d4, d5⟩, d6, d7, d8⟩ := hD
  unfold Rd_takeHeir Rd_takeHeir_0 Rd_takeHeir_60 sHeirA
  generalize hFU : FU = fu; have hfu : 1000000 = fu := hFU
  refine wp_gd hO rfl (wp_R6_1 hO dn (wp_gI hO (sh_Wi L hd) ?_))
  rw [d1]
  by_cases q : nh (sV s) = 6
  · rw [if_pos q]
    exact wp_neg (by omega) (wp_call (refuse_res (x := 2) hO hT hC) (fun r hr => wp_rZr (Or.inl hr.2.1) hr))
  · rw [if_neg q]
    have hh : nh (sV s) < 6 := by omega
    refine wp_pos (by omega) (wp_R6_1 hO dn (wp_gI hO (sh_Wi L hd) ?_))
    rw [d1, w32_id (by omega) (by omega), show (nh (sV s) : Int) + 1 = ((nh (sV s) + 1 : Nat) : Int) by omega, w32_id (z := 6 + (nh (sV s) : Int)) (by omega) (by omega), show 6 + (nh (sV s) : Int) = ((6 + nh (sV s) : Nat) : Int) by omega]
    refine wp_pI hO (sh_Wi L hd) ?_
    generalize hw1 : sI w dr 1 ((nh (sV s) + 1 : Nat) : Int) = w1
    have hO1 : Ok L wl dr 7 w1 := by rw [← hw1]; exact hO.sI
    have i1 : ∀ a k, a ≠ dr ∨ k ≠ 1 → wI w1 a k = wI w a k := fun a k q => by rw [← hw1]; exact wI_ne q
    have l1 : ∀ a k, wL w1 a k = wL w a k := fun a k => by rw [← hw1, wL_sI]
    have v1 : wI w1 dr 1 = ((nh (sV s) + 1 : Nat) : Int) := by rw [← hw1, wI_eq]
    have f1 : FL (PRd dr) QRd w w1 := by rw [← hw1]; exact (FL.rf w).sI (by unfold PRd; omega)
    have hT1 : CT c N w1 := hT.fl (fun a k q => i1 a k (by omega)) (fun k => l1 _ _)
    have C1 : CUR c N w1 t := hC.eq (fun k q => i1 _ _ (by omega)) (l1 _ _)
    clear hw1
    refine wp_res2 f1 (c_pass hO1 hT1 C1 (by omega)) (fun t1 r2 e2 f2 _ h2 => ?_)
    obtain ⟨C2, F2⟩ := h2
    have e2' := ps1_inr e2
    have hO2 := (st_rd (dr := dr) F2).ok hO1
    have hT2 := hT1.px hd (st_px (z := 0) F2)
    have N2 : NTC c N r2.2 (sT s) := hN.eq (fun k q => (F2.i _ _ (by unfold PSt; omega)).trans (i1 _ _ (by omega)))
    have l2 : ∀ k, wL r2.2 27 k = wL w 27 k := fun k => (F2.l _ _ (by unfold QSt; omega)).trans (l1 _ _)
    have i2 : ∀ a k, a ≠ 8 → wI r2.2 a k = wI w1 a k := fun a k q => F2.i a k (by unfold PSt; omega)
    have A2 : NMA r2.2 (sA s) := (hM.eq l2).2.1
    refine wp_res2 f2 (c_newName (j := 6 + nh (sV s)) (by omega) hO2 hT2 C2 N2 A2) (fun t2 r3 e3 f3 _ h3 => ?_)
    obtain ⟨C3, F3, N3, V3⟩ := h3
    have e3' := ex_inr e3
    have hO3 := (pn_rd (dr := dr) F3).ok hO2
    have hT3 := hT2.pn F3
    have i3 : ∀ a k, a ≠ 8 → wI r3.2 a k = wI w1 a k := fun a k q => (F3.i a k (by unfold PN; omega)).trans (i2 a k q)
    refine wp_res2 f3 (c_takeInt hO3 hT3 C3 N3) (fun t3 r4 e4 f4 _ h4 => ?_)
    obtain ⟨C4, F4, N4, V4⟩ := h4
    have e4' := ex_inr e4
    have hO4 := (pn_rd (dr := dr) (pq (j := 0) F4)).ok hO3
    refine wp_R6_1 hO4 dn (wp_R10_8 hO4 hd (wp_gI hO4 rfl ?_))
    rw [V4]
    refine wp_wI hO4 (sh_Wi_8 L hd) (by omega) ?_
    rw [Int.toNat_natCast]
    generalize hw5 : sI r4.2 (dr + 2) (nh (sV s)) (kV c N t2) = w5
    have hO5 : Ok L wl dr 7 w5 := by rw [← hw5]; exact hO4.sI
    have l5 : ∀ a k, wL w5 a k = wL r4.2 a k := fun a k => by rw [← hw5, wL_sI]
    have i5 : ∀ a k, a ≠ 8 → (a ≠ dr + 2 ∨ k ≠ nh (sV s)) → wI w5 a k = wI w1 a k := fun a k q1 q2 => by rw [← hw5, wI_ne (by omega), F4.i a k (by unfold PN; omega), i3 a k q1]
    have v5 : wI w5 (dr + 2) (nh (sV s)) = kV c N t2 := by rw [← hw5, wI_eq]
    have k5 : ∀ k, wI w5 8 k = wI r4.2 8 k := fun k => by rw [← hw5, wI_ne (by omega)]
    have f5 : FL (PRd dr) QRd w w5 := by rw [← hw5]; exact f4.sI (by unfold PRd; omega)
    have hT5 : CT c N w5 := (hT3.pn (pq (j := 0) F4)).fl (fun a k q => by rw [← hw5]; exact wI_ne (by omega)) (fun k => l5 _ _)
    have C5 : CUR c N w5 t3 := C4.eq (fun k q => k5 k) (l5 _ _)
    have N5 := N4.eq (w1 := w5) (fun k q => k5 k)
    clear hw5
    refine wp_res2 f5 (c_takeInt hO5 hT5 C5 N5) (fun t4 r6 e6 f6 _ h6 => ?_)
    obtain ⟨C6, F6, N6, V6⟩ := h6
    have e6' := ex_inr e6
    have hO6 := (pn_rd (dr := dr) (pq (j := 0) F6)).ok hO5
    refine wp_R6_1 hO6 dn (wp_R10_9 hO6 hd (wp_gI hO6 rfl ?_))
    rw [V6]
    refine wp_wI hO6 (sh_Wi_9 L hd) (by omega) ?_
    rw [Int.toNat_natCast]
    generalize hw7 : sI r6.2 (dr + 3) (nh (sV s)) (kV c N t3) = w7
    have hO7 : Ok L wl dr 7 w7 := by rw [← hw7]; exact hO6.sI
    have l7 : ∀ a k, wL w7 a k = wL r6.2 a k := fun a k => by rw [← hw7, wL_sI]
    have i7 : ∀ a k, a ≠ 8 → (a ≠ dr + 3 ∨ k ≠ nh (sV s)) → wI w7 a k = wI w5 a k := fun a k q1 q2 => by rw [← hw7, wI_ne (by omega), F6.i a k (by unfold PN; omega)]
    have v7 : wI w7 (dr + 3) (nh (sV s)) = kV c N t3 := by rw [← hw7, wI_eq]
    have k7 : ∀ k, wI w7 8 k = wI r6.2 8 k := fun k => by rw [← hw7, wI_ne (by omega)]
    have f7 : FL (PRd dr) QRd w w7 := by rw [← hw7]; exact f6.sI (by unfold PRd; omega)
    have hT7 : CT c N w7 := (hT5.pn (pq (j := 0) F6)).fl (fun a k q => by rw [← hw7]; exact wI_ne (by omega)) (fun k => l7 _ _)
    have C7 : CUR c N w7 t4 := C6.eq (fun k q => k7 k) (l7 _ _)
    have N7 := N6.eq (w1 := w7) (fun k q => k7 k)
    clear hw7
    have n7 : ∀ a k, a ≠ 8 → (a ≠ dr ∨ k ≠ 1) → (a ≠ dr + 2 ∨ k ≠ nh (sV s)) → (a ≠ dr + 3 ∨ k ≠ nh (sV s)) → wI w7 a k = wI w a k := fun a k q1 q2 q3 q4 => by rw [i7 a k q1 q4, i5 a k q1 q3, i1 a k q2]
    have lw : ∀ k, k ≠ 6 + nh (sV s) → wL w7 27 k = wL w 27 k := fun k q => by rw [l7, F6.l _ _ (by unfold QSt; omega), l5, F4.l _ _ (by unfold QSt; omega), F3.l _ _ (by unfold QN; omega), l2]
    have lv : wL w7 27 (6 + nh (sV s)) = kN c N t1 := by rw [l7, F6.l _ _ (by unfold QSt; omega), l5, F4.l _ _ (by unfold QSt; omega)]; exact V3
    have x7 : ∀ x, x < 6 → wI w7 (dr + 4) (6 * nh (sV s) + x) = 50 := fun x hx => by
      rw [n7 _ _ (by omega) (by omega) (by omega) (by omega), d8 _ hh x hx, if_neg (by omega)]
    have g := c_hsh (L := L) (wl := wl) (dr := dr) (c := c) (N := N) (w0 := w7) (h := nh (sV s)) hd hh 6 fu 0 t4 (fun _ => 50) _ w7 (by omega) (by omega) hO7 hT7 C7 N7 x7 (FL.rf w7)
    rw [show ((0 : Nat) : Int) = 0 from rfl] at g
    refine wp_use g (fun r hr => ?_)
    obtain ⟨hr1, hr2⟩ := hr
    refine ⟨f7.tr hr1, ?_⟩
    generalize hsh (kK c N) (kV c N) 6 0 t4 (fun _ => 50) (ind (kV c N) 9 (ind (kV c N) 99 (nmd (kN c N) (sA s) (sT s) t1) t2) t3) = res at hr2
    cases res with
    | inl e => exact hr2
    | inr p =>
      obtain ⟨g1, C8, N8, X8, F8, T8⟩ := hr2
      have n8 : ∀ a k, a ≠ 8 → (a ≠ dr + 4 ∨ k < 6 * nh (sV s) ∨ 6 * nh (sV s) + 6 ≤ k) → wI r.2 a k = wI w7 a k := fun a k q1 q2 => F8.i a k (by unfold PHs PN; omega)
      have n9 : ∀ a k, a ≠ 8 → (a ≠ dr + 4 ∨ k < 6 * nh (sV s) ∨ 6 * nh (sV s) + 6 ≤ k) → (a ≠ dr ∨ k ≠ 1) → (a ≠ dr + 2 ∨ k ≠ nh (sV s)) → (a ≠ dr + 3 ∨ k ≠ nh (sV s)) → wI r.2 a k = wI w a k := fun a k q1 q2 q3 q4 q5 => (n8 a k q1 q2).trans (n7 a k q1 q3 q4 q5)
      have l8 : ∀ k, wL r.2 27 k = wL w7 27 k := fun k => F8.l _ _ (by unfold QSt; omega)
      clear g C2 C3 C4 C5 C6 C7 N2 N3 N4 N5 N6 N7 hT1 hT2 hT3 hT5 hT7 F2 F3 F4 F6 f1 f2 f3 f4 f5 f6
      refine ⟨g1, C8, N8, ⟨⟨b1, by show nh (sV s) + 1 ≤ 6; omega, b3⟩, ⟨?_, ?_, ?_, ?_, ?_, ?_⟩, fun l hl => ?_, fun x hx => ?_, fun x hx l hl => ?_⟩, ⟨z0, ?_, by show z0 ≤ p.1; omega, hL.ag (Nat.le_refl _) (fun k _ => ⟨n9 _ _ (by omega) (by omega) (by omega) (by omega) (by omega), n9 _ _ (by omega) (by omega) (by omega) (by omega) (by omega)⟩) (fun a k q => n9 _ _ (by omega) (by omega) (by omega) (by omega) (by omega))⟩, fun x hx => ?_, nma_add hM.2.1 (j := 6 + nh (sV s)) (by omega) ?_ ?_ (fun k hk => ?_), fun j j1 j2 j3 j4 => ?_⟩
      · exact (n9 _ _ (by omega) (by omega) (by omega) (by omega) (by omega)).trans d0
      · rw [n8 _ _ (by omega) (by omega), i7 _ _ (by omega) (by omega), i5 _ _ (by omega) (by omega), v1]; rfl
      · exact (n9 _ _ (by omega) (by omega) (by omega) (by omega) (by omega)).trans d2
      · exact (n9 _ _ (by omega) (by omega) (by omega) (by omega) (by omega)).trans d3
      · exact (n9 _ _ (by omega) (by omega) (by omega) (by omega) (by omega)).trans d4
      · exact (n9 _ _ (by omega) (by omega) (by omega) (by omega) (by omega)).trans d5
      · exact (n9 _ _ (by omega) (by omega) (by omega) (by omega) (by omega)).trans (d6 l hl)
      · show wI r.2 (dr + 2) x = (if x = nh (sV s) then kV c N t2 else sk (sV s) x) ∧ wI r.2 (dr + 3) x = (if x = nh (sV s) then kV c N t3 else tr (sV s) x)
        have hx : x < nh (sV s) + 1 := hx
        by_cases e : x = nh (sV s)
        · rw [if_pos e, if_pos e, e, n8 _ _ (by omega) (by omega), n8 _ _ (by omega) (by omega), v7, i7 _ _ (by omega) (by omega), v5]
          exact ⟨rfl, rfl⟩
        · rw [if_neg e, if_neg e, n9 _ _ (by omega) (by omega) (by omega) (by omega) (by omega), n9 _ _ (by omega) (by omega) (by omega) (by omega) (by omega)]
          exact d7 x (by omega)
      · show wI r.2 (dr + 4) (6 * x + l) = if x < nh (sV s) + 1 then (if x = nh (sV s) then p.2.1 l else sS s x l) else 50
        by_cases e : x = nh (sV s)
        · rw [if_pos (by omega), if_pos e, e]; exact X8 l hl
        · rw [if_neg e, n9 _ _ (by omega) (by omega) (by omega) (by omega) (by omega), d8 x hx l hl]
          by_cases e2 : x < nh (sV s)
          · rw [if_pos e2, if_pos (by omega)]
          · rw [if_neg e2, if_neg (by omega)]
      · exact (n9 _ _ (by omega) (by omega) (by omega) (by omega) (by omega)).trans hz
      · show wL r.2 27 (6 + x) = if x = nh (sV s) then kN c N t1 else sN s x
        have hx : x < nh (sV s) + 1 := hx
        by_cases e : x = nh (sV s)
        · rw [if_pos e, l8, e, lv]
        · rw [if_neg e, l8, lw _ (by omega)]; exact hM.1 x (by omega)
      · exact hM.2.2 _ (by omega) (fun h => absurd h (by omega)) (fun _ _ => by omega) (fun h => absurd h (by omega))
      · rw [l8, lv]
      · rw [l8, lw k hk]
      · have j3 : 6 ≤ j → j < 12 → nh (sV s) + 1 ≤ j - 6 := j3
        rw [l8, lw _ (fun e => by have := j3 (by omega) (by omega); omega)]
        exact hM.2.2 j j1 j2 (fun q1 q2 => by have := j3 q1 q2; omega) j4
end CU
