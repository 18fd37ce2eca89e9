/-! Level 3, read: the class's reader, terms. -/
theorem tV_bd {c : Nat → Int} {N p : Nat} (h : tK c N p = 2) : 0 ≤ tV c N p ∧ tV c N p ≤ 9999 := by
  unfold tK at h
  split at h
  · omega
  · split at h
    · split at h
      · omega
      · rcases kdn_is (nmv c (tI c N p) (nmE c N (tI c N p) - tI c N p)) with ⟨y, a1, a2, a3⟩ | ⟨a1, a3⟩ <;> omega
    · split at h
      · split at h
        · omega
        · rename_i q
          have hi := adv_is bD c (N - tI c N p) (tI c N p)
          have hb := ivl_bd (c := c) (i := tI c N p) (inE c N (tI c N p) - tI c N p) (by omega) (fun j hj => hi.2.1 (tI c N p + j) (by omega) (by show tI c N p + j < inE c N (tI c N p); omega))
          have hc := ihi_bd (inE c N (tI c N p) - tI c N p) (by omega)
          unfold tV
          omega
      · unfold sgk at h
        repeat' split at h
        all_goals omega
theorem ccode_app {w : Wd} {c : Nat} (q : List Op) : ∀ (p : List Op) (f : Nat), ccode w c f p → ccode w c (f + p.length) q → ccode w c f (p ++ q)
  | [], f, _, h2 => h2
  | (k, z) :: p, f, h1, h2 => ⟨h1.1, h1.2.1, ccode_app q p (f + 1) h1.2.2 (by rw [show f + 1 + p.length = f + ((k, z) :: p).length by simp; omega]; exact h2)⟩
theorem ccode_ag {w w1 : Wd} {c : Nat} : ∀ (p : List Op) (f : Nat), (∀ k, f ≤ k → k < f + p.length → wI w1 (c + 1) k = wI w (c + 1) k ∧ wI w1 (c + 2) k = wI w (c + 2) k) → ccode w c f p → ccode w1 c f p
  | [], f, _, _ => trivial
  | (k, z) :: p, f, h, h1 => ⟨(h f (by omega) (by simp)).1.trans h1.1, (h f (by omega) (by simp)).2.trans h1.2.1, ccode_ag p (f + 1) (fun j h3 h4 => h j (by omega) (by simp; omega)) h1.2.2⟩
def PX (dr z a k : Nat) : Prop := (a = 8 ∧ (k = 5 ∨ k = 6)) ∨ (a = dr + 7 ∧ k = 0) ∨ ((a = dr + 8 ∨ a = dr + 9) ∧ z ≤ k)
/-- behind a term: its code stands from z on -/
def XOK (c : Nat → Int) (N dr : Nat) (w : Wd) (z : Nat) (q : Nat × List Op) (w1 : Wd) : Prop := CUR c N w1 q.1 ∧ FL (PX dr z) QSt w w1 ∧ wI w1 (dr + 7) 0 = ((z + q.2.length : Nat) : Int) ∧ ccode w1 (dr + 7) z q.2
def XP (L wl dr : Nat) (c : Nat → Int) (N : Nat) (f : Nat → Int → Wd → Option (Int × Wd)) (g : Nat → Nat → Xr) (d : Nat) : Prop := ∀ (w : Wd) (z t : Nat), Ok L wl dr 7 w → CT c N w → CUR c N w t → wI w (dr + 7) 0 = (z : Int) → z + 2 ≤ t → Wp (f 8 (d : Int) w) (RES (kP c N) dr w (g d t) (XOK c N dr w z))
theorem wp_res2 {α β : Type} {pl : Nat → Nat} {dr : Nat} {w w1 : Wd} {o : Option (Int × Wd)} {res : Sum Ft α} {f : α → Sum Ft β} {k : Int × Wd → Option (Int × Wd)} {ok : α → Wd → Prop} {ok' : β → Wd → Prop} (hf : FL (PRd dr) QRd w w1) (h : Wp o (RES pl dr w1 res ok)) (hk : ∀ a r, res = .inr a → FL (PRd dr) QRd w r.2 → r.1 = 1 → ok a r.2 → Wp (k r) (RES pl dr w (f a) ok')) : Wp (o.bind fun r => if (r.1 : Int) = 0 then some (0, r.2) else k r) (RES pl dr w (sb res f) ok') :=
  wp_res (wp_use h (fun _ hr => res_tr hf hr (fun _ _ q => q))) hk
theorem cks0 : ∀ k, k < 16 → (k ≤ 10 ∨ k = 13 ∨ k = 15) → ck k < 100 := by decide
section CE
variable {L wl dr : Nat} {c : Nat → Int} {N : Nat}
theorem px_rd {w w1 : Wd} {z : Nat} (f : FL (PX dr z) QSt w w1) : FL (PRd dr) QRd w w1 := f.mono (fun a k q => by unfold PX at q; unfold PRd; omega) (fun a k q => Or.inl q.1)
theorem st_px {w w1 : Wd} {z : Nat} (f : FL PSt QSt w w1) : FL (PX dr z) QSt w w1 := f.mono (fun a k q => Or.inl q) (fun a k q => q)
theorem px_mono {w w1 : Wd} {z z' : Nat} (h : z ≤ z') (f : FL (PX dr z') QSt w w1) : FL (PX dr z) QSt w w1 := f.mono (fun a k q => by unfold PX at q ⊢; omega) (fun a k q => q)
theorem CT.px {w w1 : Wd} {z : Nat} (hT : CT c N w) (hd : isWi dr) (f : FL (PX dr z) QSt w w1) : CT c N w1 := by
  have hb := wi_bd hd
  exact hT.fl (fun a k q => f.i a k (by unfold PX; omega)) (fun k => f.l 24 k (by unfold QSt; omega))
theorem rZ0 (w : Wd) : rZ 0 w = some (0, w) := rfl
/-- a step, then forward -/
theorem c_putpass {w : Wd} {z t k : Nat} {x y v : Int} (hd : isWi dr) (hO : Ok L wl dr 7 w) (hT : CT c N w) (hC : CUR c N w t) (hz : wI w (dr + 7) 0 = (z : Int)) (hzt : z + 2 ≤ t) (hk : kK c N t ≠ 0 ∧ kK c N t ≠ 3) (hx : x = cst k) (hy : y = cvl k v) : Wp ((Lw_put (dr + 7) x y w).bind fun r21 => (Rd_pass 8 r21).bind fun r25 => rZ r25.1 r25.2) (RES (kP c N) dr w (sb (ps1 t) (fun t' => .inr (t', [(k, v)]))) (XOK c N dr w z)) := by
  have hb := wi_bd hd
  have h4 := hC.1.1
  refine wp_call (c_put (isLw_of hd) hO (by omega) hz) (fun w1 g => ?_)
  obtain ⟨f1, g0, g1, g2⟩ := g
  have fl1 : FL (PX dr z) QSt w w1 := (f1.mono (R := PX dr z) (fun a k q => by unfold PX; omega)).fl
  have hO1 := fl1.ok hO
  have hT1 := hT.px hd fl1
  have hC1 : CUR c N w1 t := hC.eq (fun k q => f1.at 8 k (by omega)) (by rw [f1.2.2.2.1])
  refine wp_call (c_pass hO1 hT1 hC1 hk) (fun r hr => wp_rZr (res_01 hr) ?_)
  obtain ⟨h1, h2⟩ := hr
  refine ⟨(px_rd fl1).tr h1, ?_⟩
  generalize ps1 t = s at h2
  cases s with
  | inl e => exact h2
  | inr t' =>
    obtain ⟨h3, h4, h5⟩ := h2
    refine ⟨h3, h4, fl1.tr (st_px h5), ?_, ?_, ?_, trivial⟩
    · rw [h5.i _ _ (by unfold PSt; omega), g0]; rfl
    · rw [h5.i _ _ (by unfold PSt; omega), g1, hx]
    · rw [h5.i _ _ (by unfold PSt; omega), g2, hy]
theorem c_unit {rc : Nat → Int → Wd → Option (Int × Wd)} {rs : Nat → Nat → Xr} {d : Nat} (hd : isWi dr) (hd6 : d ≤ 6) (hr : d < 6 → XP L wl dr c N rc rs (d + 1)) : XP L wl dr c N (Rd_takeUnit rc) (un (kK c N) (kV c N) rs) d := by
  intro w z t hO hT hC hz hzt
  have hb := wi_bd hd
  have dn := wi_ne hd
  have hkv := kv_kK c N t
  unfold Rd_takeUnit Rd_takeUnit_0 Rd_takeUnit_103 Rd_takeUnit_160 Rd_takeUnit_161 un
  simp only [rZ0]
  refine wp_gd hO rfl (wp_gI hO rfl ?_)
  by_cases k2 : kK c N t = 2
  · rw [if_pos k2]
    refine wp_pos (show wI w 8 6 = 3 from (hC.is (k := 2) (by unfold kv; omega)).mpr k2) (wp_R6_1 hO dn (wp_R10_13 hO hd (wp_gL hO rfl ?_)))
    rw [hC.2.2.2.1 k2, w32_id (by have := (tV_bd k2).1; show -2147483648 ≤ tV c N (ps c N t); omega) (by have := (tV_bd k2).2; show tV c N (ps c N t) < 2147483648; omega)]
    exact c_putpass hd hO hT hC hz hzt (by omega) rfl rfl
  rw [if_neg k2]
  refine wp_neg (fun h => k2 ((hC.is (k := 2) (by unfold kv; omega)).mp h)) (wp_gI hO rfl ?_)
  by_cases k20 : kK c N t = 20
  · rw [if_pos k20]
    refine wp_pos (show wI w 8 6 = 256 from (hC.is (k := 20) (by unfold kv; omega)).mpr k20) (wp_R6_1 hO dn (wp_R10_13 hO hd ?_))
    exact c_putpass hd hO hT hC hz hzt (by omega) rfl rfl
  rw [if_neg k20]
  refine wp_neg (fun h => k20 ((hC.is (k := 20) (by unfold kv; omega)).mp h)) (wp_gI hO rfl ?_)
  have ckv : ∀ k, 20 ≤ k → ck k = 236 + (k : Int) := by
    intro k hk
    unfold ck
    repeat' rw [if_neg (by omega)]
  have cks : ∀ k, kv k → k < 20 → ck k < 100 := by
    intro k h1 hk
    unfold kv at h1
    exact cks0 k (by omega) (by omega)
  by_cases k31 : 31 ≤ kK c N t ∧ kK c N t ≤ 36
  · rw [if_pos k31]
    have e6 : wI w 8 6 = 236 + (kK c N t : Int) := by rw [hC.2.2.1, ckv _ (by omega)]
    rw [e6]
    refine wp_neg (by omega) (wp_gI hO rfl ?_)
    rw [e6]
    refine wp_neg (by omega) (wp_R6_1 hO dn (wp_R10_13 hO hd (wp_gI hO rfl ?_)))
    rw [e6, w32_id (z := 0 + (236 + (kK c N t : Int))) (by omega) (by omega), w32_id (by omega) (by omega)]
    refine c_putpass hd hO hT hC hz hzt (by omega) rfl ?_
    show _ = cix _
    unfold cix
    split
    · rw [if_pos rfl]; omega
    · rw [if_neg (by omega), if_neg (by omega)]; omega
  rw [if_neg k31]
  have key : Wp ((fgI w 8 6 6).bind fun v104 => if (v104 : Int) = 40 then if (d : Int) < 6 then (Rd_pass 8 w).bind fun r131 => if (r131.1 : Int) = 0 then some (0, r131.2) else (rc 8 (w32 ((d : Int) + 1)) r131.2).bind fun r141 => if (r141.1 : Int) = 0 then some (0, r141.2) else (Rd_take 8 41 r141.2).bind fun r150 => if (r150.1 : Int) = 0 then some (0, r150.2) else rZ 1 r150.2 else (Rd_refuse 8 2 w).bind fun r126 => rZ r126.1 r126.2 else (Rd_refuse 8 1 w).bind fun r114 => rZ r114.1 r114.2) (RES (kP c N) dr w (if kK c N t = 6 then (if d < 6 then sb (ps1 t) (fun t1 => sb (rs (d + 1) t1) (fun q => sb (ex (kK c N) 7 q.1) (fun t2 => .inr (t2, q.2)))) else .inl (2, t)) else .inl (1, t)) (XOK c N dr w z)) := by
    refine wp_gI hO rfl ?_
    by_cases k6 : kK c N t = 6
    · rw [if_pos k6]
      refine wp_pos (show wI w 8 6 = 40 from (hC.is (k := 6) (by unfold kv; omega)).mpr k6) ?_
      by_cases h6 : d < 6
      · rw [if_pos h6]
        rw [w32_id (by omega) (by omega), show (d : Int) + 1 = ((d + 1 : Nat) : Int) by omega]
        refine wp_pos (by omega) (wp_res (c_pass hO hT hC (by omega)) (fun t1 r1 e1 f1 _ h1 => ?_))
        obtain ⟨C1, F1⟩ := h1
        have hO1 := f1.ok hO
        have hT1 := hT.px hd (st_px (z := z) F1)
        have e1' := ps1_inr e1
        refine wp_res2 f1 (hr h6 r1.2 z t1 hO1 hT1 C1 ((F1.i _ _ (by unfold PSt; omega)).trans hz) (by omega)) (fun q r2 e2 f2 _ h2 => ?_)
        obtain ⟨C2, F2, S2, D2⟩ := h2
        refine wp_res2 f2 (c_take (k := 7) (f2.ok hO) (hT1.px hd F2) C2 (by unfold kv; omega) (by omega) rfl) (fun t3 r3 e3 f3 h3' h3 => ?_)
        refine wp_rZr (by decide) ⟨f3, rfl, h3.1, ((st_px F1).tr F2).tr (st_px h3.2), ?_, ?_⟩
        · rw [h3.2.i _ _ (by unfold PSt; omega)]; exact S2
        · exact ccode_ag _ _ (fun k _ _ => ⟨h3.2.i _ _ (by unfold PSt; omega), h3.2.i _ _ (by unfold PSt; omega)⟩) D2
      · rw [if_neg h6]
        exact wp_neg (by omega) (wp_call (refuse_res (x := 2) (ok := XOK c N dr w z) hO hT hC) (fun r h => wp_rZr (Or.inl h.2.1) h))
    · rw [if_neg k6]
      exact wp_neg (fun h => k6 ((hC.is (k := 6) (by unfold kv; omega)).mp h)) (wp_call (refuse_res (x := 1) (ok := XOK c N dr w z) hO hT hC) (fun r h => wp_rZr (Or.inl h.2.1) h))
  rw [hC.2.2.1]
  refine wp_ite (fun _ => key) (fun q => wp_gI hO rfl ?_)
  rw [hC.2.2.1]
  refine wp_ite (fun _ => key) (fun q2 => ?_)
  exfalso
  have hkv2 := hkv
  unfold kv at hkv2
  by_cases s20 : kK c N t < 20
  · have := cks _ hkv s20; omega
  · have := ckv (kK c N t) (by omega); omega
theorem c_prl {rc : Nat → Int → Wd → Option (Int × Wd)} {rs : Nat → Nat → Xr} {d : Nat} {w0 : Wd} {z : Nat} (hd : isWi dr) (hu : XP L wl dr c N (Rd_takeUnit rc) (un (kK c N) (kV c N) rs) d) (hg : ∀ t1 t2 e2, un (kK c N) (kV c N) rs d t1 = .inr (t2, e2) → GD (kK c N) (13 - 2 * d) t1 t2 e2) : ∀ (n m i t : Nat) (e : List Op) (w : Wd), 400 < n + t → n ≤ m → i ≤ t → Ok L wl dr 7 w → CT c N w → XOK c N dr w0 z (t, e) w → z + e.length + 2 ≤ t → Wp (Rd_takeProduct_12 rc m 8 (d : Int) (i : Int) w) (RES (kP c N) dr w0 (prl (kK c N) (kV c N) rs d n t e) (XOK c N dr w0 z))
  | 0, m, i, t, e, w, hn, _, _, _, _, hX, _ => absurd hn (by have := hX.1.1.1; show ¬ 400 < 0 + t; have h : t ≤ 400 := this; omega)
  | n + 1, 0, i, t, e, w, _, hm, _, _, _, _, _ => absurd hm (by omega)
  | n + 1, m + 1, i, t, e, w, hn, hm, hi, hO, hT, hX, hzt => by
    obtain ⟨hC, hF, hS, hD⟩ := hX
    have hC : CUR c N w t := hC
    have hS : wI w (dr + 7) 0 = ((z + e.length : Nat) : Int) := hS
    have h4 := hC.1.1
    have hb := wi_bd hd
    have dn := wi_ne hd
    have ep : prl (kK c N) (kV c N) rs d (n + 1) t e = if kK c N t = 10 ∨ kK c N t = 15 then sb (ps1 t) (fun t1 => sb (un (kK c N) (kV c N) rs d t1) (fun q => prl (kK c N) (kV c N) rs d n q.1 (e ++ q.2 ++ [(if kK c N t = 10 then 4 else 5, 0)]))) else .inr (t, e) := rfl
    rw [ep, Rd_takeProduct_12]
    have go : (kK c N t = 10 ∨ kK c N t = 15) → Wp (Rd_takeProduct_37 rc (Rd_takeProduct_12 rc m) 8 (d : Int) (i : Int) w) (RES (kP c N) dr w0 (if kK c N t = 10 ∨ kK c N t = 15 then sb (ps1 t) (fun t1 => sb (un (kK c N) (kV c N) rs d t1) (fun q => prl (kK c N) (kV c N) rs d n q.1 (e ++ q.2 ++ [(if kK c N t = 10 then 4 else 5, 0)]))) else .inr (t, e)) (XOK c N dr w0 z)) := by
      intro hk
      rw [if_pos hk]
      unfold Rd_takeProduct_37 Rd_takeProduct_57
      refine wp_gI hO rfl (wp_res2 (px_rd hF) (c_pass hO hT hC (by omega)) (fun t1 r1 e1 f1 _ h1 => ?_))
      obtain ⟨C1, F1⟩ := h1
      have e1' := ps1_inr e1
      have hO1 := (st_rd (dr := dr) F1).ok hO
      have hT1 := hT.px hd (st_px (z := z) F1)
      refine wp_res2 f1 (hu r1.2 (z + e.length) t1 hO1 hT1 C1 ((F1.i _ _ (by unfold PSt; omega)).trans hS) (by omega)) (fun q r2 e2 f2 _ h2 => ?_)
      obtain ⟨t2, e2l⟩ := q
      obtain ⟨C2, F2, S2, D2⟩ := h2
      have C2 : CUR c N r2.2 t2 := C2
      have S2 : wI r2.2 (dr + 7) 0 = ((z + e.length + e2l.length : Nat) : Int) := S2
      have D2 : ccode r2.2 (dr + 7) (z + e.length) e2l := D2
      have G := hg _ _ _ e2
      have hO2 := (px_rd F2).ok hO1
      have hT2 := hT1.px hd F2
      refine wp_R6_1 hO2 dn (wp_R10_13 hO2 hd (wp_call (c_put (isLw_of hd) hO2 (by have := G.2.1; have := G.2.2.1; omega) S2) (fun w3 g => ?_)))
      obtain ⟨f3, g0, g1, g2⟩ := g
      have fl3 : FL (PX dr z) QSt r2.2 w3 := (f3.mono (R := PX dr z) (fun a k q => by unfold PX; omega)).fl
      have n3 : ∀ k, k < z + e.length + e2l.length → wI w3 (dr + 7 + 1) k = wI r2.2 (dr + 7 + 1) k ∧ wI w3 (dr + 7 + 2) k = wI r2.2 (dr + 7 + 2) k := fun k hk => ⟨f3.at _ _ (by omega), f3.at _ _ (by omega)⟩
      have n2 : ∀ k, k < z + e.length → wI r2.2 (dr + 7 + 1) k = wI w (dr + 7 + 1) k ∧ wI r2.2 (dr + 7 + 2) k = wI w (dr + 7 + 2) k := fun k hk => ⟨(F2.i _ _ (by unfold PX; omega)).trans (F1.i _ _ (by unfold PSt; omega)), (F2.i _ _ (by unfold PX; omega)).trans (F1.i _ _ (by unfold PSt; omega))⟩
      rw [w32_id (z := (i : Int) + 1) (by omega) (by omega), show (i : Int) + 1 = ((i + 1 : Nat) : Int) by omega]
      have G1 := G.1
      have G3 := G.2.2.1
      refine c_prl hd hu hg n m (i + 1) t2 _ w3 (by omega) (by omega) (by omega) (fl3.ok hO2) (hT2.px hd fl3) ⟨C2.eq (fun k q => f3.at 8 k (by omega)) (by rw [f3.2.2.2.1]), ((hF.tr (st_px F1)).tr (px_mono (by omega) F2)).tr fl3, ?_, ?_⟩ ?_
      · rw [g0]; simp only [List.length_append, List.length_cons, List.length_nil]; omega
      · refine ccode_app _ _ _ (ccode_app _ _ _ ?_ ?_) ?_
        · exact ccode_ag _ _ (fun k k1 k2 => ⟨(n3 k (by omega)).1.trans (n2 k (by omega)).1, (n3 k (by omega)).2.trans (n2 k (by omega)).2⟩) hD
        · exact ccode_ag _ _ (fun k k1 k2 => n3 k (by omega)) D2
        · rw [List.length_append, ← Nat.add_assoc]
          refine ⟨?_, ?_, trivial⟩
          · rw [g1, hC.2.2.1]
            rcases hk with k | k <;> (rw [k]; rfl)
          · rw [g2]
            rcases hk with k | k <;> (rw [k]; rfl)
      · simp only [List.length_append, List.length_cons, List.length_nil]; omega
    refine wp_neg (by omega) (wp_gI hO rfl ?_)
    refine wp_ite (fun q => go (Or.inl ((hC.is (k := 10) (by unfold kv; omega)).mp q))) (fun q => wp_gI hO rfl (wp_ite (fun q2 => go (Or.inr ((hC.is (k := 15) (by unfold kv; omega)).mp q2))) (fun q2 => ?_)))
    rw [if_neg (fun h => h.elim (fun h => q ((hC.is (k := 10) (by unfold kv; omega)).mpr h)) (fun h => q2 ((hC.is (k := 15) (by unfold kv; omega)).mpr h)))]
    exact wp_ret ⟨px_rd hF, rfl, hC, hF, hS, hD⟩
theorem c_prod {rc : Nat → Int → Wd → Option (Int × Wd)} {rs : Nat → Nat → Xr} {d : Nat} (hd : isWi dr) (hu : XP L wl dr c N (Rd_takeUnit rc) (un (kK c N) (kV c N) rs) d) (hg : ∀ t1 t2 e2, un (kK c N) (kV c N) rs d t1 = .inr (t2, e2) → GD (kK c N) (13 - 2 * d) t1 t2 e2) : XP L wl dr c N (Rd_takeProduct rc) (prd (kK c N) (kV c N) rs) d := by
  intro w z t hO hT hC hz hzt
  unfold Rd_takeProduct Rd_takeProduct_0 prd
  generalize hFU : FU = fu; have hfu : 1000000 = fu := hFU
  refine wp_gd hO rfl (wp_res (hu w z t hO hT hC hz hzt) (fun q r e f _ h => ?_))
  obtain ⟨t2, e2⟩ := q
  have G := hg _ _ _ e
  have G1 := G.1
  have G3 := G.2.2.1
  have h4 := G.2.1
  exact c_prl hd hu hg 401 fu 0 t2 e2 r.2 (by omega) (by omega) (by omega) (f.ok hO) (hT.px hd h.2.1) h (by omega)
end CE
