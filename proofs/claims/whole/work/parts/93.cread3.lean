/-! Level 3, read: the class's reader, sums. -/
section CF
variable {L wl dr : Nat} {c : Nat → Int} {N : Nat}
theorem c_sml {rc : Nat → Int → Wd → Option (Int × Wd)} {rs : Nat → Nat → Xr} {d : Nat} {w0 : Wd} {z : Nat} (hd : isWi dr) (hu : XP L wl dr c N (Rd_takeProduct rc) (prd (kK c N) (kV c N) rs) d) (hg : ∀ t1 t2 e2, prd (kK c N) (kV c N) rs d t1 = .inr (t2, e2) → GD (kK c N) (14 - 2 * d) t1 t2 e2) : ∀ (n m i t : Nat) (e : List Op) (w : Wd), 400 < n + t → n ≤ m → i ≤ t → Ok L wl dr 7 w → CT c N w → XOK c N dr w0 z (t, e) w → z + e.length + 2 ≤ t → Wp (Rd_takeSum_12 rc m 8 (d : Int) (i : Int) w) (RES (kP c N) dr w0 (sml (kK c N) (kV c N) rs d n t e) (XOK c N dr w0 z))
  | 0, m, i, t, e, w, hn, _, _, _, _, hX, _ => absurd hn (by have := hX.1.1.1; show ¬ 400 < 0 + t; have h : t ≤ 400 := this; omega)
  | n + 1, 0, i, t, e, w, _, hm, _, _, _, _, _ => absurd hm (by omega)
  | n + 1, m + 1, i, t, e, w, hn, hm, hi, hO, hT, hX, hzt => by
    obtain ⟨hC, hF, hS, hD⟩ := hX
    have hC : CUR c N w t := hC
    have hS : wI w (dr + 7) 0 = ((z + e.length : Nat) : Int) := hS
    have h4 := hC.1.1
    have hb := wi_bd hd
    have dn := wi_ne hd
    have ep : sml (kK c N) (kV c N) rs d (n + 1) t e = if kK c N t = 8 ∨ kK c N t = 9 then sb (ps1 t) (fun t1 => sb (prd (kK c N) (kV c N) rs d t1) (fun q => sml (kK c N) (kV c N) rs d n q.1 (e ++ q.2 ++ [(if kK c N t = 8 then 2 else 3, 0)]))) else .inr (t, e) := rfl
    rw [ep, Rd_takeSum_12]
    have go : (kK c N t = 8 ∨ kK c N t = 9) → Wp (Rd_takeSum_37 rc (Rd_takeSum_12 rc m) 8 (d : Int) (i : Int) w) (RES (kP c N) dr w0 (if kK c N t = 8 ∨ kK c N t = 9 then sb (ps1 t) (fun t1 => sb (prd (kK c N) (kV c N) rs d t1) (fun q => sml (kK c N) (kV c N) rs d n q.1 (e ++ q.2 ++ [(if kK c N t = 8 then 2 else 3, 0)]))) else .inr (t, e)) (XOK c N dr w0 z)) := by
      intro hk
      rw [if_pos hk]
      unfold Rd_takeSum_37 Rd_takeSum_57
      refine wp_gI hO rfl (wp_res2 (px_rd hF) (c_pass hO hT hC (by omega)) (fun t1 r1 e1 f1 _ h1 => ?_))
      obtain ⟨C1, F1⟩ := h1
      have e1' := ps1_inr e1
      have hO1 := (st_rd (dr := dr) F1).ok hO
      have hT1 := hT.px hd (st_px (z := z) F1)
      refine wp_res2 f1 (hu r1.2 (z + e.length) t1 hO1 hT1 C1 ((F1.i _ _ (by unfold PSt; omega)).trans hS) (by omega)) (fun q r2 e2 f2 _ h2 => ?_)
      obtain ⟨t2, e2l⟩ := q
      obtain ⟨C2, F2, S2, D2⟩ := h2
      have C2 : CUR c N r2.2 t2 := C2
      have S2 : wI r2.2 (dr + 7) 0 = ((z + e.length + e2l.length : Nat) : Int) := S2
      have D2 : ccode r2.2 (dr + 7) (z + e.length) e2l := D2
      have G := hg _ _ _ e2
      have hO2 := (px_rd F2).ok hO1
      have hT2 := hT1.px hd F2
      refine wp_R6_1 hO2 dn (wp_R10_13 hO2 hd (wp_call (c_put (isLw_of hd) hO2 (by have := G.2.1; have := G.2.2.1; omega) S2) (fun w3 g => ?_)))
      obtain ⟨f3, g0, g1, g2⟩ := g
      have fl3 : FL (PX dr z) QSt r2.2 w3 := (f3.mono (R := PX dr z) (fun a k q => by unfold PX; omega)).fl
      have n3 : ∀ k, k < z + e.length + e2l.length → wI w3 (dr + 7 + 1) k = wI r2.2 (dr + 7 + 1) k ∧ wI w3 (dr + 7 + 2) k = wI r2.2 (dr + 7 + 2) k := fun k hk => ⟨f3.at _ _ (by omega), f3.at _ _ (by omega)⟩
      have n2 : ∀ k, k < z + e.length → wI r2.2 (dr + 7 + 1) k = wI w (dr + 7 + 1) k ∧ wI r2.2 (dr + 7 + 2) k = wI w (dr + 7 + 2) k := fun k hk => ⟨(F2.i _ _ (by unfold PX; omega)).trans (F1.i _ _ (by unfold PSt; omega)), (F2.i _ _ (by unfold PX; omega)).trans (F1.i _ _ (by unfold PSt; omega))⟩
      rw [w32_id (z := (i : Int) + 1) (by omega) (by omega), show (i : Int) + 1 = ((i + 1 : Nat) : Int) by omega]
      have G1 := G.1
      have G3 := G.2.2.1
      refine c_sml hd hu hg n m (i + 1) t2 _ w3 (by omega) (by omega) (by omega) (fl3.ok hO2) (hT2.px hd fl3) ⟨C2.eq (fun k q => f3.at 8 k (by omega)) (by rw [f3.2.2.2.1]), ((hF.tr (st_px F1)).tr (px_mono (by omega) F2)).tr fl3, ?_, ?_⟩ ?_
      · rw [g0]; simp only [List.length_append, List.length_cons, List.length_nil]; omega
      · refine ccode_app _ _ _ (ccode_app _ _ _ ?_ ?_) ?_
        · exact ccode_ag _ _ (fun k k1 k2 => ⟨(n3 k (by omega)).1.trans (n2 k (by omega)).1, (n3 k (by omega)).2.trans (n2 k (by omega)).2⟩) hD
        · exact ccode_ag _ _ (fun k k1 k2 => n3 k (by omega)) D2
        · rw [List.length_append, ← Nat.add_assoc]
          refine ⟨?_, ?_, trivial⟩
          · rw [g1, hC.2.2.1]
            rcases hk with k | k <;> (rw [k]; rfl)
          · rw [g2]
            rcases hk with k | k <;> (rw [k]; rfl)
      · simp only [List.length_append, List.length_cons, List.length_nil]; omega
    refine wp_neg (by omega) (wp_gI hO rfl ?_)
    refine wp_ite (fun q => go (Or.inl ((hC.is (k := 8) (by unfold kv; omega)).mp q))) (fun q => wp_gI hO rfl (wp_ite (fun q2 => go (Or.inr ((hC.is (k := 9) (by unfold kv; omega)).mp q2))) (fun q2 => ?_)))
    rw [if_neg (fun h => h.elim (fun h => q ((hC.is (k := 8) (by unfold kv; omega)).mpr h)) (fun h => q2 ((hC.is (k := 9) (by unfold kv; omega)).mpr h)))]
    exact wp_ret ⟨px_rd hF, rfl, hC, hF, hS, hD⟩
theorem c_smd {rc : Nat → Int → Wd → Option (Int × Wd)} {rs : Nat → Nat → Xr} {d : Nat} (hd : isWi dr) (hu : XP L wl dr c N (Rd_takeProduct rc) (prd (kK c N) (kV c N) rs) d) (hg : ∀ t1 t2 e2, prd (kK c N) (kV c N) rs d t1 = .inr (t2, e2) → GD (kK c N) (14 - 2 * d) t1 t2 e2) : XP L wl dr c N (G_Rd_takeSum rc) (smd (kK c N) (kV c N) rs) d := by
  intro w z t hO hT hC hz hzt
  unfold G_Rd_takeSum Rd_takeSum_0 smd
  generalize hFU : FU = fu; have hfu : 1000000 = fu := hFU
  refine wp_gd hO rfl (wp_res (hu w z t hO hT hC hz hzt) (fun q r e f _ h => ?_))
  obtain ⟨t2, e2⟩ := q
  have G := hg _ _ _ e
  have G1 := G.1
  have G3 := G.2.2.1
  have h4 := G.2.1
  exact c_sml hd hu hg 401 fu 0 t2 e2 r.2 (by omega) (by omega) (by omega) (f.ok hO) (hT.px hd h.2.1) h (by omega)
theorem c_sumx (hd : isWi dr) : ∀ (n d : Nat), d ≤ 6 → 7 ≤ d + n → XP L wl dr c N (Rd_takeSum n) (smx (kK c N) (kV c N) n) d
  | 0, d, h1, h2 => absurd h2 (by omega)
  | n + 1, d, h1, h2 => by
    have hgu : ∀ t1 t2 e2, un (kK c N) (kV c N) (smx (kK c N) (kV c N) n) d t1 = .inr (t2, e2) → GD (kK c N) (13 - 2 * d) t1 t2 e2 := fun t1 t2 e2 h => gd_un h1 (fun h6 t3 t4 e4 h3 => by
      have := gd_smx n (d + 1) t3 t4 e4 (by omega) h3
      rw [show 15 - 2 * (d + 1) = 13 - 2 * d by omega] at this
      exact this) h
    have hgp : ∀ t1 t2 e2, prd (kK c N) (kV c N) (smx (kK c N) (kV c N) n) d t1 = .inr (t2, e2) → GD (kK c N) (14 - 2 * d) t1 t2 e2 := fun t1 t2 e2 h => gd_prd hgu h1 h
    have hu := c_unit (L := L) (wl := wl) (c := c) (N := N) hd h1 (fun h6 => c_sumx hd n (d + 1) (by omega) (by omega))
    exact c_smd hd (c_prod hd hu hgu) hgp
end CF
