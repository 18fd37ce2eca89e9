/-! Level 3, read: the class's reader, names and the draft. -/
theorem nlo_pos : ∀ n, n ≤ 8 → 1 ≤ n → 1 ≤ nlo n := by decide
theorem tN_pos {c : Nat → Int} {N p : Nat} (hp : p ≤ N) (h : tK c N p = 1) : tN c N p ≠ 0 := by
  have hn := tK_name c N h
  have e : tK c N p = if N ≤ tI c N p then 0 else if bS (c (tI c N p)) = true then (if 8 < nmE c N (tI c N p) - tI c N p then 3 else kdn (nmv c (tI c N p) (nmE c N (tI c N p) - tI c N p))) else if bD (c (tI c N p)) = true then (if 4 < inE c N (tI c N p) - tI c N p then 3 else 2) else sgk (c (tI c N p)) := rfl
  rw [e, if_neg (by omega), if_pos hn.1] at h
  have h8 : nmE c N (tI c N p) - tI c N p ≤ 8 := by
    split at h <;> omega
  have hi := adv_is bS c (N - tI c N p) (tI c N p)
  have h1 : tI c N p < nmE c N (tI c N p) := by
    unfold nmE
    rw [show N - tI c N p = (N - (tI c N p + 1)) + 1 by omega]
    have : adv bS c (N - (tI c N p + 1) + 1) (tI c N p) = adv bS c (N - (tI c N p + 1)) (tI c N p + 1) := if_pos hn.1
    rw [this]
    have := (adv_is bS c (N - (tI c N p + 1)) (tI c N p + 1)).1.1
    omega
  have hb := (nmv_bd (c := c) (i := tI c N p) (nmE c N (tI c N p) - tI c N p) h8 (fun j hj => hi.2.1 (tI c N p + j) (by omega) (by show tI c N p + j < nmE c N (tI c N p); omega))).1
  have hl := nlo_pos (nmE c N (tI c N p) - tI c N p) h8 (by omega)
  unfold tN
  omega
theorem kN_pos {c : Nat → Int} {N t : Nat} (h : kK c N t = 1) : kN c N t ≠ 0 := tN_pos (ps_bd c N t) h
section CO
variable {L wl dr : Nat} {c : Nat → Int} {N : Nat}
def NMA (w : Wd) (al : List Int) : Prop := ∀ v : Int, v ≠ 0 → ((∃ j, j < 15 ∧ wL w 27 j = v) ↔ v ∈ al)
theorem c_nn10 {Q : Int × Wd → Prop} {w0 : Wd} {t j : Nat} {n0 : Ft} (hT0 : CT c N w0) (hk : kK c N t = 1) (kk : ∀ w1 n, Ok L wl dr 7 w1 → CUR c N w1 t → FL PNt (fun _ _ => False) w0 w1 → NTC c N w1 n → (((∃ k, k < 15 ∧ wL w0 27 k = kN c N t) ∧ n0.1 = 0 ∧ n = (3, t)) ∨ ((¬ (∃ k, k < 15 ∧ wL w0 27 k = kN c N t) ∨ n0.1 ≠ 0) ∧ n = n0)) → Wp (Rd_takeNewName_44 8 (j : Int) w1) Q) : ∀ (r m i : Nat) (w : Wd) (n : Ft), i + r = 15 → r < m → Ok L wl dr 7 w → CUR c N w t → FL PNt (fun _ _ => False) w0 w → NTC c N w n → (((∃ k, k < i ∧ wL w0 27 k = kN c N t) ∧ n0.1 = 0 ∧ n = (3, t)) ∨ ((¬ (∃ k, k < i ∧ wL w0 27 k = kN c N t) ∨ n0.1 ≠ 0) ∧ n = n0)) → Wp (Rd_takeNewName_10 m 8 (j : Int) (i : Int) w) Q
  | r, 0, i, w, n, _, hm, _, _, _, _, _ => absurd hm (by omega)
  | 0, m + 1, i, w, n, hr, hm, hO, hC, hF, hN, hX => by
    have e : i = 15 := by omega
    subst e
    rw [Rd_takeNewName_10]
    refine wp_R6_4 hO (wp_al (n := 15) (t := 22) hO rfl (by decide) (wp_pos (by decide) (kk w n hO hC hF hN hX)))
  | r + 1, m + 1, i, w, n, hr, hm, hO, hC, hF, hN, hX => by
    rw [Rd_takeNewName_10]
    refine wp_R6_4 hO (wp_al (n := 15) (t := 22) hO rfl (by decide) (wp_neg (by omega) (wp_R6_4 hO (wp_rL hO rfl (by omega) (wp_gL hO rfl ?_)))))
    rw [Int.toNat_natCast, hC.2.2.2.2 hk, hF.l 27 i id]
    unfold Rd_takeNewName_38
    rw [w32_id (z := (i : Int) + 1) (by omega) (by omega), show (i : Int) + 1 = ((i + 1 : Nat) : Int) by omega]
    refine wp_ite (fun q => ?_) (fun q => c_nn10 hT0 hk kk r m (i + 1) w n (by omega) (by omega) hO hC hF hN ?_)
    · have q := ocmp0.mp q
      refine wp_call (c_note (x := 3) hO (hT0.fl (fun a k q => hF.i a k (by unfold PNt; omega)) (fun k => hF.l 24 k id)) hC hN (by omega)) (fun w1 g => ?_)
      have f1 := hF.tr g.1
      refine c_nn10 hT0 hk kk r m (i + 1) w1 _ (by omega) (by omega) (g.1.ok hO) (hC.eq (fun k q => g.1.i 8 k (by unfold PNt; omega)) (g.1.l 8 7 id)) f1 g.2 ?_
      rcases hX with ⟨⟨k, h1, h2⟩, h3, h4⟩ | ⟨h1, h2⟩
      · refine Or.inl ⟨⟨k, by omega, h2⟩, h3, ?_⟩
        rw [h4]; rfl
      · rw [h2]
        by_cases z : n0.1 = 0
        · exact Or.inl ⟨⟨i, by omega, q⟩, z, if_pos z⟩
        · exact Or.inr ⟨Or.inr z, if_neg z⟩
    · have q : ¬ wL w0 27 i = kN c N t := fun h => q (ocmp0.mpr h)
      rcases hX with ⟨⟨k, h1, h2⟩, h3, h4⟩ | ⟨h1, h2⟩
      · exact Or.inl ⟨⟨k, by omega, h2⟩, h3, h4⟩
      · refine Or.inr ⟨h1.imp (fun h => ?_) id, h2⟩
        rintro ⟨k, k1, k2⟩
        by_cases e : k = i
        · rw [e] at k2; exact q k2
        · exact h ⟨k, by omega, k2⟩
theorem c_newName {w : Wd} {t j : Nat} {n : Ft} {al : List Int} (hj : j < 15) (hO : Ok L wl dr 7 w) (hT : CT c N w) (hC : CUR c N w t) (hN : NTC c N w n) (hA : NMA w al) : Wp (Rd_takeNewName 8 (j : Int) w) (RES (kP c N) dr w (ex (kK c N) 1 t) (fun t' w1 => CUR c N w1 t' ∧ FL PN (QN j) w w1 ∧ NTC c N w1 (nmd (kN c N) al n t) ∧ wL w1 27 j = kN c N t)) := by
  unfold Rd_takeNewName Rd_takeNewName_0 Rd_takeNewName_54
  generalize hFU : FU = fu; have hfu : 1000000 = fu := hFU
  refine wp_gd hO rfl (wp_gI hO rfl ?_)
  by_cases k1 : kK c N t = 1
  · refine wp_pos (show wI w 8 6 = 2 from (hC.is (k := 1) (by unfold kv; omega)).mpr k1) ?_
    refine c_nn10 (w0 := w) (n0 := n) hT k1 (fun w1 n1 hO1 C1 F1 N1 X1 => ?_) 15 fu 0 w n (by omega) (by omega) hO hC (FL.rf w) hN (Or.inr ⟨Or.inl (fun ⟨k, h, _⟩ => absurd h (by omega)), rfl⟩)
    have en : n1 = nmd (kN c N) al n t := by
      unfold nmd
      have hp := kN_pos k1
      rcases X1 with ⟨h1, h2, h3⟩ | ⟨h1, h2⟩
      · rw [if_pos ⟨(hA _ hp).mp h1, h2⟩]; exact h3
      · rw [if_neg (fun h => h1.elim (fun g => g ((hA _ hp).mpr h.1)) (fun g => g h.2))]; exact h2
    unfold Rd_takeNewName_44 Rd_takeNewName_54
    refine wp_R6_4 hO1 (wp_gL hO1 rfl ?_)
    rw [C1.2.2.2.2 k1]
    refine wp_wL hO1 rfl (by omega) ?_
    rw [Int.toNat_natCast]
    generalize hw2 : sL w1 27 j (kN c N t) = w2
    have f2 : FL PN (QN j) w w2 := by rw [← hw2]; exact (nt_pn F1).sL (by unfold QN; omega)
    have hO2 : Ok L wl dr 7 w2 := by rw [← hw2]; exact hO1.sL
    have C2 : CUR c N w2 t := C1.eq (fun k q => by rw [← hw2, wI_sL]) (by rw [← hw2]; exact wL_ne (by omega))
    have N2 : NTC c N w2 n1 := N1.eq (fun k q => by rw [← hw2, wI_sL])
    refine wp_call (c_take (k := 1) hO2 (hT.pn f2) C2 (by unfold kv; omega) (by omega) rfl) (fun r hr => wp_rZr (res_01 hr) (res_tr (pn_rd f2) hr (fun t' he h => ⟨h.1, f2.tr (st_pn h.2), ?_, ?_⟩)))
    · rw [← en]
      exact N2.eq (fun k q => h.2.i 8 k (by unfold PSt; omega))
    · rw [h.2.l 27 j (by unfold QSt; omega), ← hw2, wL_eq]
  · refine wp_neg (fun h => k1 ((hC.is (k := 1) (by unfold kv; omega)).mp h)) (wp_call (c_take (k := 1) hO hT hC (by unfold kv; omega) (by omega) rfl) (fun r hr => wp_rZr (res_01 hr) (res_tr (FL.rf w) hr (fun t' he h => ?_))))
    exact absurd (ex_inr he).1 k1
theorem q_heirNamed2 {w : Wd} {hn : Nat → Int} {n : Nat} {v : Int} (hd : isWi dr) (hO : Ok L wl dr 7 w) (hn6 : n ≤ 6) (h1 : wI w dr 1 = (n : Int)) (hh : ∀ h, h < n → wL w 27 (6 + h) = hn h) : ∀ (r m h : Nat), h + r = n → r < m → Rd_heirNamed_2 m 8 v (h : Int) w = some (hfd hn v r h, w)
  | r, 0, h, _, hm => absurd hm (by omega)
  | 0, m + 1, h, hr, hm => by
    refine wp_out ?_
    rw [Rd_heirNamed_2]
    refine wp_R6_1 hO (wi_ne hd) (wp_gI hO (sh_Wi L hd) ?_)
    rw [h1]
    exact wp_pos (by omega) (wp_ret rfl)
  | r + 1, m + 1, h, hr, hm => by
    refine wp_out ?_
    rw [Rd_heirNamed_2]
    refine wp_R6_1 hO (wi_ne hd) (wp_gI hO (sh_Wi L hd) ?_)
    rw [h1]
    refine wp_neg (by omega) (wp_R6_4 hO ?_)
    rw [w32_id (z := 6 + (h : Int)) (by omega) (by omega), show 6 + (h : Int) = ((6 + h : Nat) : Int) by omega]
    refine wp_rL hO rfl (by omega) ?_
    rw [Int.toNat_natCast, hh h (by omega)]
    have e : hfd hn v (r + 1) h = if hn h = v then (h : Int) else hfd hn v r (h + 1) := rfl
    rw [e]
    refine wp_ite (fun q => wp_ret ?_) (fun q => ?_)
    · rw [if_pos (ocmp0.mp q)]
    · rw [if_neg (fun p => q (ocmp0.mpr p)), w32_id (z := (h : Int) + 1) (by omega) (by omega), show (h : Int) + 1 = ((h + 1 : Nat) : Int) by omega]
      exact wp_is (q_heirNamed2 hd hO hn6 h1 hh r m (h + 1) (by omega) (by omega)) rfl
theorem q_heirNamed {w : Wd} {hn : Nat → Int} {n : Nat} {v : Int} (hd : isWi dr) (hO : Ok L wl dr 7 w) (hn6 : n ≤ 6) (h1 : wI w dr 1 = (n : Int)) (hh : ∀ h, h < n → wL w 27 (6 + h) = hn h) : Rd_heirNamed 8 v w = some (hfd hn v n 0, w) := by
  unfold Rd_heirNamed Rd_heirNamed_0
  generalize hFU : FU = fu
  have hfu : 1000000 = fu := hFU
  rw [ok_gd (c := 6) (a := 8) hO rfl]
  exact q_heirNamed2 hd hO hn6 h1 hh n fu 0 (by omega) (by omega)
theorem hfd_bd (hn : Nat → Int) (v : Int) : ∀ r h, hfd hn v r h = -1 ∨ ((h : Int) ≤ hfd hn v r h ∧ hfd hn v r h < ((h + r : Nat) : Int) ∧ hn (hfd hn v r h).toNat = v)
  | 0, h => Or.inl rfl
  | r + 1, h => by
    have e : hfd hn v (r + 1) h = if hn h = v then (h : Int) else hfd hn v r (h + 1) := rfl
    rw [e]
    split
    · rename_i q
      exact Or.inr ⟨Int.le_refl _, by omega, by rw [Int.toNat_natCast]; exact q⟩
    · rcases hfd_bd hn v r (h + 1) with a | ⟨a, b, d⟩
      · exact Or.inl a
      · exact Or.inr ⟨by omega, by omega, d⟩
/-- names told, the class's rows -/
def NMC (w : Wd) (V : Vl) (hn : Nat → Int) (al : List Int) : Prop := (∀ h, h < nh V → wL w 27 (6 + h) = hn h) ∧ NMA w al ∧ (∀ j, j < 15 → (j < 6 → nl V ≤ j) → (6 ≤ j → j < 12 → nh V ≤ j - 6) → (12 ≤ j → nm V ≤ j - 12) → wL w 27 j = 0)
/-- the laws told -/
def CLW (w : Wd) (dr z0 : Nat) (V : Vl) : Prop := (∀ m, m < nm V → clawAt w (dr + 7) z0 (wI w (dr + 5) m) (lo V m)) ∧ (∀ h, h < 6 → clawAt w (dr + 7) z0 (wI w (dr + 6) h) (lo V (3 + h))) ∧ clawAt w (dr + 7) z0 (wI w dr 6) (lo V 9)
/-- the draft but for its laws -/
def CDF (w : Wd) (dr : Nat) (s : Sst) : Prop := (nl (sV s) ≤ 6 ∧ nh (sV s) ≤ 6 ∧ nm (sV s) ≤ 3) ∧ (wI w dr 0 = (nl (sV s) : Int) ∧ wI w dr 1 = (nh (sV s) : Int) ∧ wI w dr 2 = (nm (sV s) : Int) ∧ wI w dr 3 = (dy (sV s) : Int) ∧ wI w dr 4 = lm (sV s) ∧ wI w dr 5 = sd (sV s)) ∧ (∀ l, l < 6 → wI w (dr + 1) l = if l < nl (sV s) then sH s l else 0) ∧ (∀ h, h < nh (sV s) → wI w (dr + 2) h = sk (sV s) h ∧ wI w (dr + 3) h = tr (sV s) h) ∧ (∀ h, h < 6 → ∀ l, l < 6 → wI w (dr + 4) (6 * h + l) = if h < nh (sV s) then sS s h l else 50)
def CDR (c : Nat → Int) (N dr : Nat) (w : Wd) (s : Sst) (t : Nat) : Prop := CUR c N w t ∧ NTC c N w (sT s) ∧ CDF w dr s ∧ (∃ z0 : Nat, wI w (dr + 7) 0 = (z0 : Int) ∧ z0 ≤ t ∧ CLW w dr z0 (sV s)) ∧ NMC w (sV s) (sN s) (sA s)
theorem NMC.eq {w w1 : Wd} {V : Vl} {hn : Nat → Int} {al : List Int} (h : NMC w V hn al) (e : ∀ k, wL w1 27 k = wL w 27 k) : NMC w1 V hn al := by
  refine ⟨fun x hx => (e _).trans (h.1 x hx), fun v hv => ?_, fun j h1 h2 h3 h4 => (e j).trans (h.2.2 j h1 h2 h3 h4)⟩
  rw [← h.2.1 v hv]
  exact ⟨fun ⟨j, a, b⟩ => ⟨j, a, (e j).symm.trans b⟩, fun ⟨j, a, b⟩ => ⟨j, a, (e j).trans b⟩⟩
theorem CDF.eq {w w1 : Wd} {s : Sst} (h : CDF w dr s) (e : ∀ a k, dr ≤ a → a ≤ dr + 4 → wI w1 a k = wI w a k) : CDF w1 dr s := by
  obtain ⟨h0, ⟨h1, h2, h3, h4, h5, h6⟩, h7, h8, h9⟩ := h
  exact ⟨h0, ⟨(e _ _ (by omega) (by omega)).trans h1, (e _ _ (by omega) (by omega)).trans h2, (e _ _ (by omega) (by omega)).trans h3, (e _ _ (by omega) (by omega)).trans h4, (e _ _ (by omega) (by omega)).trans h5, (e _ _ (by omega) (by omega)).trans h6⟩, fun l hl => (e _ _ (by omega) (by omega)).trans (h7 l hl), fun x hx => ⟨(e _ _ (by omega) (by omega)).trans (h8 x hx).1, (e _ _ (by omega) (by omega)).trans (h8 x hx).2⟩, fun x hx l hl => (e _ _ (by omega) (by omega)).trans (h9 x hx l hl)⟩
theorem clawAt_ag {w w1 : Wd} {b z0 z1 : Nat} {v : Int} {q : Lo} (hz : z0 ≤ z1) (e : ∀ k, k < z0 → wI w1 (b + 1) k = wI w (b + 1) k ∧ wI w1 (b + 2) k = wI w (b + 2) k) (h : clawAt w b z0 v q) : clawAt w1 b z1 v q := by
  match q, h with
  | none, h => exact h
  | some (bs, x), ⟨f, h3, h4⟩ => exact ⟨f, h3, claw_ag hz _ _ _ (fun k _ k2 => e k k2) h4⟩
theorem CLW.ag {w w1 : Wd} {z0 z1 : Nat} {V : Vl} (h : CLW w dr z0 V) (hz : z0 ≤ z1) (e : ∀ k, k < z0 → wI w1 (dr + 7 + 1) k = wI w (dr + 7 + 1) k ∧ wI w1 (dr + 7 + 2) k = wI w (dr + 7 + 2) k) (e2 : ∀ a k, a = dr + 5 ∨ a = dr + 6 ∨ (a = dr ∧ k = 6) → wI w1 a k = wI w a k) : CLW w1 dr z1 V := by
  refine ⟨fun m hm => ?_, fun x hx => ?_, ?_⟩
  · rw [e2 _ _ (by omega)]; exact clawAt_ag hz e (h.1 m hm)
  · rw [e2 _ _ (by omega)]; exact clawAt_ag hz e (h.2.1 x hx)
  · rw [e2 _ _ (by omega)]; exact clawAt_ag hz e h.2.2
/-- a step forward changes nothing of it -/
theorem CDR.st {w w1 : Wd} {s : Sst} {t t' : Nat} (hd : isWi dr) (h : CDR c N dr w s t) (hC : CUR c N w1 t') (ht : t ≤ t') (f : FL PSt QSt w w1) : CDR c N dr w1 s t' := by
  have hb := wi_bd hd
  obtain ⟨-, h2, h3, ⟨z0, h4, h5, h6⟩, h7⟩ := h
  exact ⟨hC, h2.eq (fun k q => f.i 8 k (by unfold PSt; omega)), h3.eq (fun a k q1 q2 => f.i a k (by unfold PSt; omega)), ⟨z0, (f.i _ _ (by unfold PSt; omega)).trans h4, by omega, h6.ag (Nat.le_refl _) (fun k _ => ⟨f.i _ _ (by unfold PSt; omega), f.i _ _ (by unfold PSt; omega)⟩) (fun a k q => f.i _ _ (by unfold PSt; omega))⟩, h7.eq (fun k => f.l _ _ (by unfold QSt; omega))⟩
end CO
