/-! Level 3, read: the class's reader as a whole. -/
section GL
variable {K : Nat → Nat} {Iv Nm : Nat → Int}
theorem lwl_lt : ∀ (n t : Nat) (bs : Bs) (q : Nat × (Bs × List Op)), lwl K Iv n t bs = .inr q → t < q.1
  | 0, t, bs, q, h => by
    unfold lwl at h
    split at h
    · cases h
    · obtain ⟨⟨a, b⟩, h1, h2⟩ := sb_inr h
      have := (gd_smx _ _ _ _ _ (by omega) h1).1
      rw [← Sum.inr.inj h2]; exact this
  | n + 1, t, bs, q, h => by
    unfold lwl at h
    split at h
    · obtain ⟨p, h1, h2⟩ := sb_inr h
      have h3 := lwl_lt n _ _ _ h2
      unfold lw1 at h1
      obtain ⟨t1, a1, b1⟩ := sb_inr h1
      have c1 := ps1_inr a1
      obtain ⟨⟨t2, x2⟩, a2, b2⟩ := sb_inr b1
      have c2 := (gd_smx _ _ _ _ _ (by omega) a2).1
      obtain ⟨t3, a3, b3⟩ := sb_inr b2
      have c3 := ex_inr a3
      obtain ⟨⟨t4, x4⟩, a4, b4⟩ := sb_inr b3
      have c4 := (gd_smx _ _ _ _ _ (by omega) a4).1
      obtain ⟨t5, a5, b5⟩ := sb_inr b4
      have c5 := ex_inr a5
      obtain ⟨⟨t6, x6⟩, a6, b6⟩ := sb_inr b5
      have c6 := (gd_smx _ _ _ _ _ (by omega) a6).1
      obtain ⟨t7, a7, b7⟩ := sb_inr b6
      have c7 := ex_inr a7
      have c8 := Sum.inr.inj b7
      have c8 : t7 = p.1 := by rw [← c8]
      have c3 : t3 = t2 + 1 := c3.2.2
      have c5 : t5 = t4 + 1 := c5.2.2
      have c7 : t7 = t6 + 1 := c7.2.2
      omega
    · obtain ⟨⟨a, b⟩, h1, h2⟩ := sb_inr h
      have := (gd_smx _ _ _ _ _ (by omega) h1).1
      rw [← Sum.inr.inj h2]; exact this
theorem law_lt {t : Nat} {q : Nat × (Bs × List Op)} (h : law' K Iv t = .inr q) : t < q.1 := by
  obtain ⟨t1, a1, b1⟩ := sb_inr h
  have c1 := ex_inr a1
  have := lwl_lt _ _ _ _ b1
  omega
theorem hsh_le : ∀ (r l t : Nat) (f : Nat → Int) (n : Ft) (q : Nat × (Nat → Int) × Ft), hsh K Iv r l t f n = .inr q → t ≤ q.1
  | 0, l, t, f, n, q, h => by
    unfold hsh at h
    split at h
    · cases h
    · rw [← Sum.inr.inj h]; exact Nat.le_refl _
  | r + 1, l, t, f, n, q, h => by
    unfold hsh at h
    split at h
    · obtain ⟨t1, a1, b1⟩ := sb_inr h
      have c1 := ps1_inr a1
      have := hsh_le r (l + 1) t1 _ _ _ b1
      omega
    · rw [← Sum.inr.inj h]; exact Nat.le_refl _
theorem num_lt {u : Nat → Sst} {t : Nat} {q : Nat × Sst} (h : sNum K u t = .inr q) : t < q.1 := by
  obtain ⟨t1, a1, b1⟩ := sb_inr h
  have c1 := ps1_inr a1
  obtain ⟨t2, a2, b2⟩ := sb_inr b1
  have c2 := ex_inr a2
  obtain ⟨t3, a3, b3⟩ := sb_inr b2
  have c3 := ex_inr a3
  rw [← Sum.inr.inj b3]
  show t < t3
  omega
theorem stm_lt {s : Sst} {t : Nat} {q : Nat × Sst} (h : stm K Iv Nm s t = .inr q) : t < q.1 := by
  unfold stm at h
  split at h
  · unfold sLetter at h
    split at h
    · cases h
    · obtain ⟨t1, a1, b1⟩ := sb_inr h
      have c1 := ps1_inr a1
      obtain ⟨t2, a2, b2⟩ := sb_inr b1
      have c2 := ex_inr a2
      obtain ⟨t3, a3, b3⟩ := sb_inr b2
      have c3 := ex_inr a3
      obtain ⟨t4, a4, b4⟩ := sb_inr b3
      have c4 := ex_inr a4
      rw [← Sum.inr.inj b4]
      show t < t4
      omega
  split at h
  · unfold sHeir at h
    split at h
    · cases h
    · obtain ⟨t1, a1, b1⟩ := sb_inr h
      have c1 := ps1_inr a1
      obtain ⟨t2, a2, b2⟩ := sb_inr b1
      have c2 := ex_inr a2
      obtain ⟨t3, a3, b3⟩ := sb_inr b2
      have c3 := ex_inr a3
      obtain ⟨t4, a4, b4⟩ := sb_inr b3
      have c4 := ex_inr a4
      obtain ⟨p, a5, b5⟩ := sb_inr b4
      have c5 := hsh_le _ _ _ _ _ _ a5
      obtain ⟨t6, a6, b6⟩ := sb_inr b5
      have c6 := ex_inr a6
      rw [← Sum.inr.inj b6]
      show t < t6
      omega
  split at h
  · unfold sMaster at h
    split at h
    · cases h
    · obtain ⟨t1, a1, b1⟩ := sb_inr h
      have c1 := ps1_inr a1
      obtain ⟨t2, a2, b2⟩ := sb_inr b1
      have c2 := ex_inr a2
      obtain ⟨p, a5, b5⟩ := sb_inr b2
      have c5 := law_lt a5
      obtain ⟨t6, a6, b6⟩ := sb_inr b5
      have c6 := ex_inr a6
      rw [← Sum.inr.inj b6]
      show t < t6
      omega
  split at h
  · obtain ⟨t1, a1, b1⟩ := sb_inr h
    have c1 := ps1_inr a1
    obtain ⟨t2, a2, b2⟩ := sb_inr b1
    have c2 := ex_inr a2
    obtain ⟨p, a5, b5⟩ := sb_inr b2
    have c5 := law_lt a5
    obtain ⟨t6, a6, b6⟩ := sb_inr b5
    have c6 := ex_inr a6
    rw [← Sum.inr.inj b6]
    show t < t6
    omega
  split at h
  · obtain ⟨t1, a1, b1⟩ := sb_inr h
    have c1 := ps1_inr a1
    obtain ⟨p, a5, b5⟩ := sb_inr b1
    have c5 := law_lt a5
    obtain ⟨t6, a6, b6⟩ := sb_inr b5
    have c6 := ex_inr a6
    rw [← Sum.inr.inj b6]
    show t < t6
    omega
  split at h
  · exact num_lt h
  split at h
  · exact num_lt h
  split at h
  · exact num_lt h
  · cases h
end GL
section CW'
variable {L wl dr : Nat} {c : Nat → Int} {N : Nat}
def sLearnA (K : Nat → Nat) (Iv Nm : Nat → Int) (s : Sst) (t : Nat) : Sum Ft (Nat × Sst) := sb (ps1 t) (fun t1 => sb (ex K 1 t1) (fun t2 => sb (law' K Iv t2) (fun q => .inr (q.1, uLearn Nm s t1 q.2))))
theorem c_takeLearn {w : Wd} {s : Sst} {t : Nat} (hd : isWi dr) (hO : Ok L wl dr 7 w) (hT : CT c N w) (h : CDR c N dr w s t) (k23 : kK c N t = 23) : Wp (Rd_takeLearn 8 w) (RES (kP c N) dr w (sLearnA (kK c N) (kV c N) (kN c N) s t) (fun q w1 => CDR c N dr w1 q.2 q.1)) := by
  have hb := wi_bd hd
  have dn := wi_ne hd
  obtain ⟨hC, hN, hD, ⟨z0, hz, hzt, hL⟩, hM⟩ := h
  have b2 := hD.1.2.1
  have b3 := hD.1.2.2
  unfold Rd_takeLearn Rd_takeLearn_0 Rd_takeLearn_36 Rd_takeLearn_51 Rd_takeLearn_71 sLearnA
  refine wp_gd hO rfl (wp_res (c_pass hO hT hC (by omega)) (fun t1 r2 e2 f2 _ h2 => ?_))
  obtain ⟨C2, F2⟩ := h2
  have e2' := ps1_inr e2
  have hO2 := (st_rd (dr := dr) F2).ok hO
  have hT2 := hT.px hd (st_px (z := 0) F2)
  have i2 : ∀ a k, a ≠ 8 → wI r2.2 a k = wI w a k := fun a k q => F2.i a k (by unfold PSt; omega)
  have N2 : NTC c N r2.2 (sT s) := hN.eq (fun k q => F2.i _ _ (by unfold PSt; omega))
  have M2 : NMC r2.2 (sV s) (sN s) (sA s) := hM.eq (fun k => F2.l _ _ (by unfold QSt; omega))
  refine wp_gL hO2 rfl (wp_eq (q_heirNamed hd hO2 b2 ((i2 _ _ (by omega)).trans hD.2.1.2.1) M2.1) (wp_gI hO2 rfl ?_))
  show Wp (if wI r2.2 8 6 = 2 then _ else _) _
  by_cases k1 : kK c N t1 = 1
  · rw [C2.2.2.2.2 k1]
    refine wp_pos (show wI r2.2 8 6 = 2 from (C2.is (k := 1) (by unfold kv; omega)).mpr k1) ?_
    have hfb := hfd_bd (sN s) (kN c N t1) (nh (sV s)) 0
    -- from the name on
    have go : ∀ (w3 : Wd) (n3 : Ft), FL PNt (fun _ _ => False) r2.2 w3 → NTC c N w3 n3 → CUR c N w3 t1 → (n3 = if hfd (sN s) (kN c N t1) (nh (sV s)) 0 = -1 then (if (sT s).1 = 0 then (4, t1) else sT s) else sT s) → Wp ((Rd_take 8 2 w3).bind fun r38 => if (r38.1 : Int) = 0 then some (0, r38.2) else (Rd_takeLaw 8 r38.2).bind fun r45 => if (r45.1 : Int) = 0 then some (0, r45.2) else if (hfd (sN s) (kN c N t1) (nh (sV s)) 0 : Int) = -1 then some (1, r45.2) else (fgR r45.2 8 6 1).bind fun v59 => (fgR r45.2 v59 10 12).bind fun v62 => (fgI r45.2 8 6 9).bind fun v67 => (wrI r45.2 v62 (hfd (sN s) (kN c N t1) (nh (sV s)) 0) v67).bind fun w70 => some (1, w70)) (RES (kP c N) dr w (sb (ex (kK c N) 1 t1) (fun t2 => sb (law' (kK c N) (kV c N) t2) (fun q => .inr (q.1, uLearn (kN c N) s t1 q.2)))) (fun q w1 => CDR c N dr w1 q.2 q.1)) := by
      intro w3 n3 F3 N3 C3 hn3
      have hO3 := F3.ok hO2
      have f3 : FL (PRd dr) QRd w w3 := f2.tr (F3.mono (fun a k q => Or.inl q.1) (fun a k q => absurd q id))
      have hT3 : CT c N w3 := hT2.fl (fun a k q => F3.i a k (by unfold PNt; omega)) (fun k => F3.l _ _ id)
      have i3 : ∀ a k, a ≠ 8 → wI w3 a k = wI w a k := fun a k q => (F3.i a k (by unfold PNt; omega)).trans (i2 a k q)
      refine wp_res2 f3 (c_take (k := 1) hO3 hT3 C3 (by unfold kv; omega) (by omega) rfl) (fun t2 r4 e4 f4 _ h4 => ?_)
      obtain ⟨C4, F4⟩ := h4
      have e4' := ex_inr e4
      have hO4 := (st_rd (dr := dr) F4).ok hO3
      have hT4 := hT3.px hd (st_px (z := 0) F4)
      have i4 : ∀ a k, a ≠ 8 → wI r4.2 a k = wI w a k := fun a k q => (F4.i a k (by unfold PSt; omega)).trans (i3 a k q)
      have L4 : CLW r4.2 dr z0 (sV s) := hL.ag (Nat.le_refl _) (fun k _ => ⟨i4 _ _ (by omega), i4 _ _ (by omega)⟩) (fun a k q => i4 _ _ (by omega))
      refine wp_res2 f4 (c_lawst hd hO4 hT4 C4 ((i4 _ _ (by omega)).trans hz) (by omega) L4) (fun p r5 e5 f5 _ h5 => ?_)
      obtain ⟨C5, F5, V5, z1, S5, B5, W5, L5⟩ := h5
      have hO5 := (plw_rd F5).ok hO4
      have i5 : ∀ a k, dr ≤ a → a ≤ dr + 6 → wI r5.2 a k = wI w a k := fun a k q1 q2 => (F5.i a k (by unfold PLw PX; omega)).trans (i4 a k (by omega))
      have N5 : NTC c N r5.2 n3 := (N3.eq (fun k q => F4.i 8 k (by unfold PSt; omega))).eq (fun k q => F5.i 8 k (by unfold PLw PX; omega))
      have M5 : NMC r5.2 (sV s) (sN s) (sA s) := M2.eq (fun k => (F5.l _ _ (by unfold QSt; omega)).trans ((F4.l _ _ (by unfold QSt; omega)).trans (F3.l _ _ id)))
      have D5 : CDF r5.2 dr s := hD.eq (fun a k q1 q2 => i5 a k q1 (by omega))
      by_cases hf : hfd (sN s) (kN c N t1) (nh (sV s)) 0 = -1
      · rw [if_pos hf] at hn3
        have eu : uLearn (kN c N) s t1 p.2 = (s.1, (sN s, sA s, n3)) := by unfold uLearn; rw [if_pos hf, hn3]
        rw [eu]
        exact wp_pos hf (wp_ret ⟨f5, rfl, C5, N5, D5, ⟨z1, S5, B5, L5⟩, M5⟩)
      · rw [if_neg hf] at hn3
        obtain ⟨hf1, hf2, hf3⟩ := hfb.resolve_left hf
        obtain ⟨hx, hxe⟩ : ∃ hx : Nat, hfd (sN s) (kN c N t1) (nh (sV s)) 0 = (hx : Int) := ⟨(hfd (sN s) (kN c N t1) (nh (sV s)) 0).toNat, by omega⟩
        have eu : uLearn (kN c N) s t1 p.2 = ((((sV s).1, (sV s).2.1, sk (sV s), tr (sV s), (fun k => if k = 3 + hx then some p.2 else lo (sV s) k)), sH s, sS s), s.2) := by unfold uLearn; rw [if_neg hf, hxe, Int.toNat_natCast]
        rw [eu]
        refine wp_neg hf (wp_R6_1 hO5 dn (wp_R10_12 hO5 hd (wp_gI hO5 rfl ?_)))
        rw [V5, hxe]
        refine wp_wI hO5 (sh_Wi_12 L hd) (by omega) (wp_ret ?_)
        rw [Int.toNat_natCast]
        generalize hw6 : sI r5.2 (dr + 6) hx (z0 : Int) = w6
        have l6 : ∀ a k, wL w6 a k = wL r5.2 a k := fun a k => by rw [← hw6, wL_sI]
        have i6 : ∀ a k, a ≠ dr + 6 ∨ k ≠ hx → wI w6 a k = wI r5.2 a k := fun a k q => by rw [← hw6, wI_ne (by omega)]
        have v6 : wI w6 (dr + 6) hx = (z0 : Int) := by rw [← hw6, wI_eq]
        have f6 : FL (PRd dr) QRd w w6 := by rw [← hw6]; exact f5.sI (by unfold PRd; omega)
        clear hw6
        rw [hn3] at N5
        refine ⟨f6, rfl, C5.eq (fun k q => i6 _ _ (by omega)) (l6 _ _), N5.eq (fun k q => i6 _ _ (by omega)), D5.eq (fun a k q1 q2 => i6 _ _ (by omega)), ⟨z1, (i6 _ _ (by omega)).trans S5, B5, fun m hm => ?_, fun x hx' => ?_, ?_⟩, M5.eq (fun k => l6 _ _)⟩
        · show clawAt w6 (dr + 7) z1 (wI w6 (dr + 5) m) (if m = 3 + hx then some p.2 else lo (sV s) m)
          have hm : m < nm (sV s) := hm
          rw [if_neg (by omega), i6 _ _ (by omega)]
          exact clawAt_ag (w := r5.2) (Nat.le_refl _) (fun k _ => ⟨i6 _ _ (by omega), i6 _ _ (by omega)⟩) (L5.1 m hm)
        · show clawAt w6 (dr + 7) z1 (wI w6 (dr + 6) x) (if 3 + x = 3 + hx then some p.2 else lo (sV s) (3 + x))
          by_cases e : x = hx
          · rw [if_pos (by omega), e, v6]
            exact clawAt_ag (w := r5.2) (Nat.le_refl _) (fun k _ => ⟨i6 _ _ (by omega), i6 _ _ (by omega)⟩) ⟨z0, rfl, W5⟩
          · rw [if_neg (by omega), i6 _ _ (by omega)]
            exact clawAt_ag (w := r5.2) (Nat.le_refl _) (fun k _ => ⟨i6 _ _ (by omega), i6 _ _ (by omega)⟩) (L5.2.1 x hx')
        · show clawAt w6 (dr + 7) z1 (wI w6 dr 6) (if 9 = 3 + hx then some p.2 else lo (sV s) 9)
          rw [if_neg (by omega), i6 _ _ (by omega)]
          exact clawAt_ag (w := r5.2) (Nat.le_refl _) (fun k _ => ⟨i6 _ _ (by omega), i6 _ _ (by omega)⟩) L5.2.2
    by_cases hf : hfd (sN s) (kN c N t1) (nh (sV s)) 0 = -1
    · refine wp_pos hf (wp_call (c_note (x := 4) hO2 hT2 C2 N2 (by omega)) (fun w3 g => ?_))
      exact go w3 _ g.1 g.2 (C2.eq (fun k q => g.1.i 8 k (by unfold PNt; omega)) (g.1.l 8 7 id)) (by rw [if_pos hf])
    · exact wp_neg hf (go r2.2 (sT s) (FL.rf _) N2 C2 (by rw [if_neg hf]))
  · refine wp_neg (fun h => k1 ((C2.is (k := 1) (by unfold kv; omega)).mp h)) ?_
    refine wp_res2 f2 (c_take (k := 1) hO2 hT2 C2 (by unfold kv; omega) (by omega) rfl) (fun t2 r4 e4 f4 _ h4 => ?_)
    exact absurd (ex_inr e4).1 k1
theorem CT.rd {w w1 : Wd} (hT : CT c N w) (hd : isWi dr) (f : FL (PRd dr) QRd w w1) : CT c N w1 := by
  have hb := wi_bd hd
  exact hT.fl (fun a k q => f.i a k (by unfold PRd; omega)) (fun k => f.l 24 k (by unfold QRd; omega))
/-- a statement and its end; then on, or out -/
theorem c_disp {Q : Int × Wd → Prop} {w : Wd} {o : Option (Int × Wd)} {resA res : Sum Ft (Nat × Sst)} {F G : Wd → Option (Int × Wd)} (hd : isWi dr) (hO : Ok L wl dr 7 w) (hT : CT c N w) (h : Wp o (RES (kP c N) dr w resA (fun q w1 => CDR c N dr w1 q.2 q.1))) (hres : res = sb resA (fun q => sb (ex (kK c N) 4 q.1) (fun t4 => .inr (t4, q.2)))) (hF : ∀ e w1, res = .inl e → FL (PRd dr) QRd w w1 → wI w1 8 2 = (e.1 : Int) → wI w1 8 0 = (kP c N e.2 : Int) → Wp (F w1) Q) (hG : ∀ q w1, res = .inr q → FL (PRd dr) QRd w w1 → CDR c N dr w1 q.2 q.1 → Wp (G w1) Q) : Wp (o.bind fun r81 => if (r81.1 : Int) = 0 then F r81.2 else (Rd_take 8 59 r81.2).bind fun r90 => if (r90.1 : Int) = 0 then F r90.2 else G r90.2) Q := by
  refine wp_call h (fun r hr => ?_)
  obtain ⟨f1, hr⟩ := hr
  cases resA with
  | inl e => exact wp_pos hr.1 (hF e r.2 hres f1 hr.2.1 hr.2.2)
  | inr q =>
    obtain ⟨h1, h2⟩ := hr
    refine wp_neg (by rw [h1]; decide) (wp_call (c_take (k := 4) (dr := dr) (f1.ok hO) (hT.rd hd f1) h2.1 (by unfold kv; omega) (by omega) rfl) (fun r2 hr2 => ?_))
    obtain ⟨f2, hr2⟩ := hr2
    have hres : res = sb (ex (kK c N) 4 q.1) (fun t4 => .inr (t4, q.2)) := hres
    generalize hx : ex (kK c N) 4 q.1 = x at hr2 hres
    cases x with
    | inl e => exact wp_pos hr2.1 (hF e r2.2 hres (f1.tr f2) hr2.2.1 hr2.2.2)
    | inr t4 =>
      obtain ⟨g1, g2, g3⟩ := hr2
      have e := ex_inr hx
      exact wp_neg (by rw [g1]; decide) (hG (t4, q.2) r2.2 hres (f1.tr f2) (h2.st hd g2 (by show q.1 ≤ t4; omega) g3))
end CW'
