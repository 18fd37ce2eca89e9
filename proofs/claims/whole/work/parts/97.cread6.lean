/-! Level 3, read: the class's reader, statements. -/
section CQ
variable {L wl dr : Nat} {c : Nat → Int} {N : Nat}
theorem nma_add {w w1 : Wd} {al : List Int} {j : Nat} {v : Int} (h : NMA w al) (hj : j < 15) (h0 : wL w 27 j = 0) (h1 : wL w1 27 j = v) (e : ∀ k, k ≠ j → wL w1 27 k = wL w 27 k) : NMA w1 (v :: al) := by
  intro u hu
  constructor
  · rintro ⟨k, k1, k2⟩
    by_cases c : k = j
    · rw [c, h1] at k2
      rw [k2]; exact List.mem_cons_self
    · rw [e k c] at k2
      exact List.mem_cons_of_mem _ ((h u hu).mp ⟨k, k1, k2⟩)
  · intro hm
    rcases List.mem_cons.mp hm with g | g
    · exact ⟨j, hj, h1.trans g.symm⟩
    · obtain ⟨k, k1, k2⟩ := (h u hu).mpr g
      have c : k ≠ j := fun c => by rw [c, h0] at k2; exact hu k2.symm
      exact ⟨k, k1, (e k c).trans k2⟩
def sLetterA (K : Nat → Nat) (Iv Nm : Nat → Int) (s : Sst) (t : Nat) : Sum Ft (Nat × Sst) := if nl (sV s) = 6 then .inl (2, t) else sb (ps1 t) (fun t1 => sb (ex K 1 t1) (fun t2 => sb (ex K 2 t2) (fun t3 => .inr (t3, uLetter Iv Nm s t1 t2))))
theorem CT.nl {w w1 : Wd} (hT : CT c N w) (e : ∀ a k, a = 22 ∨ a = 23 → wI w1 a k = wI w a k) (e2 : wL w1 = wL w) : CT c N w1 := hT.fl e (fun k => by rw [e2])
theorem c_takeLetter {w : Wd} {s : Sst} {t : Nat} (hd : isWi dr) (hO : Ok L wl dr 7 w) (hT : CT c N w) (h : CDR c N dr w s t) (k20 : kK c N t = 20) : Wp (Rd_takeLetter 8 w) (RES (kP c N) dr w (sLetterA (kK c N) (kV c N) (kN c N) s t) (fun q w1 => CDR c N dr w1 q.2 q.1)) := by
  have hb := wi_bd hd
  have dn := wi_ne hd
  obtain ⟨hC, hN, hD, ⟨z0, hz, hzt, hL⟩, hM⟩ := h
  obtain ⟨⟨b1, b2, b3⟩, ⟨d0, d1, d2, d3, d4, d5⟩, d6, d7, d8⟩ := hD
  unfold Rd_takeLetter Rd_takeLetter_0 Rd_takeLetter_57 sLetterA
  refine wp_gd hO rfl (wp_R6_1 hO dn (wp_gI hO (sh_Wi L hd) ?_))
  rw [d0]
  by_cases q : nl (sV s) = 6
  · rw [if_pos q]
    exact wp_neg (by omega) (wp_call (refuse_res (x := 2) hO hT hC) (fun r hr => wp_rZr (Or.inl hr.2.1) hr))
  · rw [if_neg q]
    refine wp_pos (by omega) (wp_R6_1 hO dn (wp_gI hO (sh_Wi L hd) ?_))
    rw [d0, w32_id (by omega) (by omega), show (nl (sV s) : Int) + 1 = ((nl (sV s) + 1 : Nat) : Int) by omega]
    refine wp_pI hO (sh_Wi L hd) ?_
    generalize hw1 : sI w dr 0 ((nl (sV s) + 1 : Nat) : Int) = w1
    have hO1 : Ok L wl dr 7 w1 := by rw [← hw1]; exact hO.sI
    have i1 : ∀ a k, a ≠ dr ∨ k ≠ 0 → wI w1 a k = wI w a k := fun a k q => by rw [← hw1]; exact wI_ne q
    have l1 : ∀ a k, wL w1 a k = wL w a k := fun a k => by rw [← hw1, wL_sI]
    have f1 : FL (PRd dr) QRd w w1 := by rw [← hw1]; exact (FL.rf w).sI (by unfold PRd; omega)
    have hT1 : CT c N w1 := hT.fl (fun a k q => i1 a k (by omega)) (fun k => l1 _ _)
    have C1 : CUR c N w1 t := hC.eq (fun k q => i1 _ _ (by omega)) (l1 _ _)
    refine wp_res2 f1 (c_pass hO1 hT1 C1 (by omega)) (fun t1 r2 e2 f2 _ h2 => ?_)
    obtain ⟨C2, F2⟩ := h2
    have e2' := ps1_inr e2
    have hO2 := (st_rd (dr := dr) F2).ok hO1
    have hT2 := hT1.px hd (st_px (z := 0) F2)
    have N2 : NTC c N r2.2 (sT s) := hN.eq (fun k q => (F2.i _ _ (by unfold PSt; omega)).trans (i1 _ _ (by omega)))
    have l2 : ∀ k, wL r2.2 27 k = wL w 27 k := fun k => (F2.l _ _ (by unfold QSt; omega)).trans (l1 _ _)
    have A2 : NMA r2.2 (sA s) := (hM.eq l2).2.1
    refine wp_res2 f2 (c_newName (j := nl (sV s)) (by omega) hO2 hT2 C2 N2 A2) (fun t2 r3 e3 f3 _ h3 => ?_)
    obtain ⟨C3, F3, N3, V3⟩ := h3
    have e3' := ex_inr e3
    have hO3 := (pn_rd (dr := dr) F3).ok hO2
    have hT3 := hT2.pn F3
    refine wp_res2 f3 (c_takeInt hO3 hT3 C3 N3) (fun t3 r4 e4 f4 _ h4 => ?_)
    obtain ⟨C4, F4, N4, V4⟩ := h4
    have e4' := ex_inr e4
    have hO4 := (pn_rd (dr := dr) (pq (j := 0) F4)).ok hO3
    refine wp_R6_1 hO4 dn (wp_R10_7 hO4 hd (wp_gI hO4 rfl ?_))
    rw [V4]
    refine wp_wI hO4 (sh_Wi_7 L hd) (by omega) (wp_ret ?_)
    rw [Int.toNat_natCast]
    generalize hw5 : sI r4.2 (dr + 1) (nl (sV s)) (kV c N t2) = w5
    have l5 : ∀ a k, wL w5 a k = wL r4.2 a k := fun a k => by rw [← hw5, wL_sI]
    have n4 : ∀ a k, a ≠ 8 → wI r4.2 a k = wI w1 a k := fun a k q => by rw [F4.i a k (by unfold PN; omega), F3.i a k (by unfold PN; omega), F2.i a k (by unfold PSt; omega)]
    have n5 : ∀ a k, a ≠ 8 → (a ≠ dr ∨ k ≠ 0) → (a ≠ dr + 1 ∨ k ≠ nl (sV s)) → wI w5 a k = wI w a k := fun a k q1 q2 q3 => by rw [← hw5, wI_ne (by omega), n4 a k q1, i1 a k q2]
    have n8 : ∀ k, wI w5 8 k = wI r4.2 8 k := fun k => by rw [← hw5, wI_ne (by omega)]
    refine ⟨by rw [← hw5]; exact f4.sI (by unfold PRd; omega), rfl, C4.eq (fun k q => n8 k) (l5 _ _), N4.eq (fun k q => n8 k), ⟨⟨by show nl (sV s) + 1 ≤ 6; omega, b2, b3⟩, ⟨?_, ?_, ?_, ?_, ?_, ?_⟩, fun l hl => ?_, fun x hx => ?_, fun x hx l hl => ?_⟩, ⟨z0, ?_, by show z0 ≤ t3; omega, hL.ag (Nat.le_refl _) (fun k _ => ⟨n5 _ _ (by omega) (by omega) (by omega), n5 _ _ (by omega) (by omega) (by omega)⟩) (fun a k q => n5 _ _ (by omega) (by omega) (by omega))⟩, fun x hx => ?_, nma_add A2 (j := nl (sV s)) (by omega) ?_ ?_ (fun k hk => ?_), fun j j1 j2 j3 j4 => ?_⟩
    · rw [← hw5, wI_ne (by omega), n4 _ _ (by omega), ← hw1, wI_eq]; rfl
    · exact (n5 _ _ (by omega) (by omega) (by omega)).trans d1
    · exact (n5 _ _ (by omega) (by omega) (by omega)).trans d2
    · exact (n5 _ _ (by omega) (by omega) (by omega)).trans d3
    · exact (n5 _ _ (by omega) (by omega) (by omega)).trans d4
    · exact (n5 _ _ (by omega) (by omega) (by omega)).trans d5
    · show wI w5 (dr + 1) l = if l < nl (sV s) + 1 then (if l = nl (sV s) then kV c N t2 else sH s l) else 0
      by_cases e : l = nl (sV s)
      · rw [if_pos (by omega), if_pos e, e, ← hw5, wI_eq]
      · rw [n5 _ _ (by omega) (by omega) (by omega), d6 l hl, if_neg e]
        by_cases q : l < nl (sV s)
        · rw [if_pos q, if_pos (by omega)]
        · rw [if_neg q, if_neg (by omega)]
    · exact ⟨(n5 _ _ (by omega) (by omega) (by omega)).trans (d7 x hx).1, (n5 _ _ (by omega) (by omega) (by omega)).trans (d7 x hx).2⟩
    · exact (n5 _ _ (by omega) (by omega) (by omega)).trans (d8 x hx l hl)
    · exact (n5 _ _ (by omega) (by omega) (by omega)).trans hz
    · have hx : x < nh (sV s) := hx
      rw [l5, F4.l _ _ (by unfold QSt; omega), F3.l _ _ (by unfold QN; omega), l2]
      exact hM.1 x hx
    · rw [l2]; exact hM.2.2 _ (by omega) (fun _ => Nat.le_refl _) (fun h => absurd h (by omega)) (fun h => absurd h (by omega))
    · rw [l5, F4.l _ _ (by unfold QSt; omega)]; exact V3
    · rw [l5, F4.l _ _ (by unfold QSt; omega), F3.l _ _ (by unfold QN; omega)]
    · have j2 : j < 6 → nl (sV s) + 1 ≤ j := j2
      rw [l5, F4.l _ _ (by unfold QSt; omega), F3.l _ _ (by unfold QN; omega), l2]
      exact hM.2.2 j j1 (fun q => by have := j2 q; omega) j3 j4
def sNumA (K : Nat → Nat) (u : Nat → Sst) (t : Nat) : Sum Ft (Nat × Sst) := sb (ps1 t) (fun t1 => sb (ex K 2 t1) (fun t2 => .inr (t2, u t1)))
theorem c_takeNum {w : Wd} {s : Sst} {t x : Nat} {most : Int} {u : Nat → Sst} (hx : x = 3 ∨ x = 4 ∨ x = 5) (hd : isWi dr) (hO : Ok L wl dr 7 w) (hT : CT c N w) (h : CDR c N dr w s t) (hk : kK c N t ≠ 0 ∧ kK c N t ≠ 3)
    (hu : ∀ t1, kK c N t1 = 2 → sT (u t1) = ind (kV c N) most (sT s) t1 ∧ sH (u t1) = sH s ∧ sS (u t1) = sS s ∧ sN (u t1) = sN s ∧ sA (u t1) = sA s ∧ (sV (u t1)).1 = (sV s).1 ∧ (sV (u t1)).2.2 = (sV s).2.2 ∧ (dy (sV (u t1)) : Int) = (if x = 3 then kV c N t1 else (dy (sV s) : Int)) ∧ lm (sV (u t1)) = (if x = 4 then kV c N t1 else lm (sV s)) ∧ sd (sV (u t1)) = (if x = 5 then kV c N t1 else sd (sV s))) :
    Wp ((Rd_pass 8 w).bind fun r1 => if (r1.1 : Int) = 0 then some (0, r1.2) else (Rd_takeInt 8 most r1.2).bind fun r10 => if (r10.1 : Int) = 0 then some (0, r10.2) else (fgR r10.2 8 6 1).bind fun v19 => (fgI r10.2 8 6 8).bind fun v23 => (fpI r10.2 v19 10 x v23).bind fun w26 => some (1, w26)) (RES (kP c N) dr w (sNumA (kK c N) u t) (fun q w1 => CDR c N dr w1 q.2 q.1)) := by
  have hb := wi_bd hd
  have dn := wi_ne hd
  obtain ⟨hC, hN, hD, ⟨z0, hz, hzt, hL⟩, hM⟩ := h
  obtain ⟨b0, ⟨d0, d1, d2, d3, d4, d5⟩, d6, d7, d8⟩ := hD
  unfold sNumA
  refine wp_res (c_pass hO hT hC hk) (fun t1 r2 e2 f2 _ h2 => ?_)
  obtain ⟨C2, F2⟩ := h2
  have e2' := ps1_inr e2
  have hO2 := (st_rd (dr := dr) F2).ok hO
  have hT2 := hT.px hd (st_px (z := 0) F2)
  have N2 : NTC c N r2.2 (sT s) := hN.eq (fun k q => F2.i _ _ (by unfold PSt; omega))
  refine wp_res2 f2 (c_takeInt hO2 hT2 C2 N2) (fun t3 r4 e4 f4 _ h4 => ?_)
  obtain ⟨C4, F4, N4, V4⟩ := h4
  have e4' := ex_inr e4
  have hO4 := (pn_rd (dr := dr) (pq (j := 0) F4)).ok hO2
  obtain ⟨u1, u2, u3, u4, u5, u6, u7, u8, u9, u10⟩ := hu t1 e4'.1
  refine wp_R6_1 hO4 dn (wp_gI hO4 rfl ?_)
  rw [V4]
  refine wp_pI hO4 (sh_Wi L hd) (wp_ret ?_)
  generalize hw5 : sI r4.2 dr x (kV c N t1) = w5
  have l5 : ∀ a k, wL w5 a k = wL r4.2 a k := fun a k => by rw [← hw5, wL_sI]
  have n5 : ∀ a k, a ≠ 8 → (a ≠ dr ∨ k ≠ x) → wI w5 a k = wI w a k := fun a k q1 q2 => by rw [← hw5, wI_ne (by omega), F4.i a k (by unfold PN; omega), F2.i a k (by unfold PSt; omega)]
  have n8 : ∀ k, wI w5 8 k = wI r4.2 8 k := fun k => by rw [← hw5, wI_ne (by omega)]
  have nlE : nl (sV (u t1)) = nl (sV s) := by unfold nl; rw [u6]
  have nhE : nh (sV (u t1)) = nh (sV s) := by unfold nh; rw [u6]
  have nmE' : nm (sV (u t1)) = nm (sV s) := by unfold nm; rw [u6]
  have skE : sk (sV (u t1)) = sk (sV s) := by unfold sk; rw [u7]
  have trE : tr (sV (u t1)) = tr (sV s) := by unfold tr; rw [u7]
  have loE : lo (sV (u t1)) = lo (sV s) := by unfold lo; rw [u7]
  have eq5 : wI w5 dr x = kV c N t1 := by rw [← hw5, wI_eq]
  refine ⟨by rw [← hw5]; exact f4.sI (by unfold PRd; omega), rfl, C4.eq (fun k q => n8 k) (l5 _ _), ?_, ⟨?_, ⟨?_, ?_, ?_, ?_, ?_, ?_⟩, ?_, ?_, ?_⟩, ⟨z0, (n5 _ _ (by omega) (by omega)).trans hz, by show z0 ≤ t3; omega, ?_⟩, ?_⟩
  · show NTC c N w5 (sT (u t1))
    rw [u1]; exact N4.eq (fun k q => n8 k)
  · show nl (sV (u t1)) ≤ 6 ∧ nh (sV (u t1)) ≤ 6 ∧ nm (sV (u t1)) ≤ 3
    rw [nlE, nhE, nmE']; exact b0
  · show wI w5 dr 0 = (nl (sV (u t1)) : Int)
    rw [nlE]; exact (n5 _ _ (by omega) (by omega)).trans d0
  · show wI w5 dr 1 = (nh (sV (u t1)) : Int)
    rw [nhE]; exact (n5 _ _ (by omega) (by omega)).trans d1
  · show wI w5 dr 2 = (nm (sV (u t1)) : Int)
    rw [nmE']; exact (n5 _ _ (by omega) (by omega)).trans d2
  · show wI w5 dr 3 = (dy (sV (u t1)) : Int)
    rw [u8]
    by_cases c3 : x = 3
    · rw [if_pos c3, ← eq5, c3]
    · rw [if_neg c3]; exact (n5 _ _ (by omega) (by omega)).trans d3
  · show wI w5 dr 4 = lm (sV (u t1))
    rw [u9]
    by_cases c3 : x = 4
    · rw [if_pos c3, ← eq5, c3]
    · rw [if_neg c3]; exact (n5 _ _ (by omega) (by omega)).trans d4
  · show wI w5 dr 5 = sd (sV (u t1))
    rw [u10]
    by_cases c3 : x = 5
    · rw [if_pos c3, ← eq5, c3]
    · rw [if_neg c3]; exact (n5 _ _ (by omega) (by omega)).trans d5
  · show ∀ l, l < 6 → wI w5 (dr + 1) l = if l < nl (sV (u t1)) then sH (u t1) l else 0
    rw [nlE, u2]
    exact fun l hl => (n5 _ _ (by omega) (by omega)).trans (d6 l hl)
  · show ∀ h, h < nh (sV (u t1)) → wI w5 (dr + 2) h = sk (sV (u t1)) h ∧ wI w5 (dr + 3) h = tr (sV (u t1)) h
    rw [nhE, skE, trE]
    exact fun h hh => ⟨(n5 _ _ (by omega) (by omega)).trans (d7 h hh).1, (n5 _ _ (by omega) (by omega)).trans (d7 h hh).2⟩
  · show ∀ h, h < 6 → ∀ l, l < 6 → wI w5 (dr + 4) (6 * h + l) = if h < nh (sV (u t1)) then sS (u t1) h l else 50
    rw [nhE, u3]
    exact fun h hh l hl => (n5 _ _ (by omega) (by omega)).trans (d8 h hh l hl)
  · show CLW w5 dr z0 (sV (u t1))
    have g : CLW w5 dr z0 (sV s) := hL.ag (Nat.le_refl _) (fun k _ => ⟨n5 _ _ (by omega) (by omega), n5 _ _ (by omega) (by omega)⟩) (fun a k q => n5 _ _ (by omega) (by omega))
    unfold CLW
    rw [nmE', loE]
    exact g
  · show NMC w5 (sV (u t1)) (sN (u t1)) (sA (u t1))
    have g : NMC w5 (sV s) (sN s) (sA s) := hM.eq (fun k => (l5 _ _).trans ((F4.l _ _ (by unfold QSt; omega)).trans (F2.l _ _ (by unfold QSt; omega))))
    unfold NMC
    rw [nlE, nhE, nmE', u4, u5]
    exact g
end CQ
