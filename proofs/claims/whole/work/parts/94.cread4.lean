/-! Level 3, read: the class's reader, laws. -/
def blen : Bs → Nat
  | [] => 0
  | (a, b, t) :: bs => a.length + b.length + 1 + t.length + 1 + blen bs
def cbr (w : Wd) (c z0 f : Nat) (a b t : List Op) : Prop := ccode w c f a ∧ ccode w c (f + a.length) b ∧ wI w (c + 1) (f + a.length + b.length) = 3 ∧ wI w (c + 2) (f + a.length + b.length) = ((f + a.length + b.length + 1 + t.length + 1 : Nat) : Int) ∧ ccode w c (f + a.length + b.length + 1) t ∧ wI w (c + 1) (f + a.length + b.length + 1 + t.length) = 4 ∧ wk 15 a 0 = some 1 ∧ wk 15 b 0 = some 1 ∧ wk 15 t 0 = some 1 ∧ f + a.length + b.length + 1 + t.length < z0
theorem cbr_ag {w w1 : Wd} {c z0 z1 f : Nat} {a b t : List Op} (h : cbr w c z0 f a b t) (e : ∀ k, f ≤ k → k < z0 → wI w1 (c + 1) k = wI w (c + 1) k ∧ wI w1 (c + 2) k = wI w (c + 2) k) (hz : z0 ≤ z1) : cbr w1 c z1 f a b t := by
  obtain ⟨h1, h2, h3, h4, h5, h6, h7, h8, h9, ha⟩ := h
  exact ⟨ccode_ag _ _ (fun k k1 k2 => e k (by omega) (by omega)) h1, ccode_ag _ _ (fun k k1 k2 => e k (by omega) (by omega)) h2, (e _ (by omega) (by omega)).1.trans h3, (e _ (by omega) (by omega)).2.trans h4, ccode_ag _ _ (fun k k1 k2 => e k (by omega) (by omega)) h5, (e _ (by omega) (by omega)).1.trans h6, h7, h8, h9, by omega⟩
theorem claw_ag {w w1 : Wd} {c z0 z1 : Nat} (hz : z0 ≤ z1) : ∀ (bs : Bs) (f : Nat) (e : List Op), (∀ k, f ≤ k → k < z0 → wI w1 (c + 1) k = wI w (c + 1) k ∧ wI w1 (c + 2) k = wI w (c + 2) k) → claw w c z0 f bs e → claw w1 c z1 f bs e
  | [], f, e, ha, hm => ⟨ccode_ag _ _ (fun k k1 k2 => ha k (by omega) (by have := hm.2.2.2; omega)) hm.1, hm.2.1, (ha _ (by omega) (by have := hm.2.2.2; omega)).1.trans hm.2.2.1, by have := hm.2.2.2; omega⟩
  | (a, b, t) :: bs, f, e, ha, hm => ⟨cbr_ag (w := w) hm.1 ha hz, claw_ag hz bs _ e (fun k k1 k2 => ha k (by omega) k2) hm.2⟩
def cpre (w : Wd) (c z0 : Nat) : Nat → Bs → Prop
  | _, [] => True
  | f, (a, b, t) :: bs => cbr w c z0 f a b t ∧ cpre w c z0 (f + a.length + b.length + 1 + t.length + 1) bs
theorem cpre_ag {w w1 : Wd} {c z0 z1 : Nat} (hz : z0 ≤ z1) : ∀ (bs : Bs) (f : Nat), (∀ k, f ≤ k → k < z0 → wI w1 (c + 1) k = wI w (c + 1) k ∧ wI w1 (c + 2) k = wI w (c + 2) k) → cpre w c z0 f bs → cpre w1 c z1 f bs
  | [], f, _, _ => trivial
  | (a, b, t) :: bs, f, ha, hm => ⟨cbr_ag hm.1 ha hz, cpre_ag hz bs _ (fun k k1 k2 => ha k (by omega) k2) hm.2⟩
theorem cpre_snoc {w : Wd} {c z0 : Nat} {a b t : List Op} : ∀ (bs : Bs) (f : Nat), cpre w c z0 f bs → cbr w c z0 (f + blen bs) a b t → cpre w c z0 f (bs ++ [(a, b, t)])
  | [], f, _, h => ⟨h, trivial⟩
  | (a', b', t') :: bs, f, h1, h2 => ⟨h1.1, cpre_snoc bs _ h1.2 (by
      have e : f + blen ((a', b', t') :: bs) = f + a'.length + b'.length + 1 + t'.length + 1 + blen bs := by
        show f + (a'.length + b'.length + 1 + t'.length + 1 + blen bs) = _
        omega
      rw [e] at h2
      exact h2)⟩
theorem blen_snoc {a b t : List Op} : ∀ bs : Bs, blen (bs ++ [(a, b, t)]) = blen bs + (a.length + b.length + 1 + t.length + 1)
  | [] => by show a.length + b.length + 1 + t.length + 1 + 0 = 0 + _; omega
  | (a', b', t') :: bs => by
    show a'.length + b'.length + 1 + t'.length + 1 + blen (bs ++ [(a, b, t)]) = a'.length + b'.length + 1 + t'.length + 1 + blen bs + _
    rw [blen_snoc bs]
    omega
theorem claw_of {w : Wd} {c z0 : Nat} {e : List Op} : ∀ (bs : Bs) (f : Nat), cpre w c z0 f bs → (ccode w c (f + blen bs) e ∧ wk 15 e 0 = some 1 ∧ wI w (c + 1) (f + blen bs + e.length) = 4 ∧ f + blen bs + e.length < z0) → claw w c z0 f bs e
  | [], f, _, h => h
  | (a', b', t') :: bs, f, h1, h2 => ⟨h1.1, claw_of bs _ h1.2 (by
      have e : f + blen ((a', b', t') :: bs) = f + a'.length + b'.length + 1 + t'.length + 1 + blen bs := by
        show f + (a'.length + b'.length + 1 + t'.length + 1 + blen bs) = _
        omega
      rw [e] at h2
      exact h2)⟩
/-- behind a law -/
def LOK (c : Nat → Int) (N dr : Nat) (w : Wd) (z : Nat) (q : Nat × (Bs × List Op)) (w1 : Wd) : Prop := CUR c N w1 q.1 ∧ FL (PX dr z) QSt w w1 ∧ ∃ z1 : Nat, wI w1 (dr + 7) 0 = (z1 : Int) ∧ z1 + 1 ≤ q.1 ∧ z < z1 ∧ claw w1 (dr + 7) z1 z q.2.1 q.2.2
section CL
variable {L wl dr : Nat} {c : Nat → Int} {N : Nat}
theorem c_lead' {w : Wd} {b z p : Nat} (hb : isLw b) (hO : Ok L wl dr 7 w) (hp : p < 400) (h0 : wI w b 0 = (z : Int)) : Wp (Lw_leadHere b (p : Int) w) (fun w1 => w1 = sI w (b + 2) p (z : Int)) := by
  unfold Lw_leadHere Lw_leadHere_0 Lw_leadHere_21
  refine wp_gd hO (sh_Lw L hb) (wp_neg (by omega) (wp_neg (by omega) (wp_R2_2 hO hb (wp_gI hO (sh_Lw L hb) ?_))))
  rw [h0]
  refine wp_wI hO (sh_Lw_2 L hb) (by omega) (wp_ret ?_)
  rw [Int.toNat_natCast]
theorem c_lw147 {w w0 : Wd} {z t : Nat} {bs : Bs} (hd : isWi dr) (hO : Ok L wl dr 7 w) (hT : CT c N w) (hC : CUR c N w t) (hS : wI w (dr + 7) 0 = ((z + blen bs : Nat) : Int)) (hzt : z + blen bs + 2 ≤ t) (hP : cpre w (dr + 7) (z + blen bs) z bs) (hF : FL (PX dr z) QSt w0 w) : Wp (Rd_takeLaw_147 8 (dr + 7) w) (RES (kP c N) dr w0 (sb (smx (kK c N) (kV c N) 20 0 t) (fun q => .inr (q.1, (bs, q.2)))) (LOK c N dr w0 z)) := by
  have hb := wi_bd hd
  unfold Rd_takeLaw_147
  refine wp_res2 (px_rd hF) (c_sumx hd 20 0 (by omega) (by omega) w _ t hO hT hC hS hzt) (fun q r e f _ h => ?_)
  obtain ⟨t2, e2⟩ := q
  obtain ⟨C2, F2, S2, D2⟩ := h
  have C2 : CUR c N r.2 t2 := C2
  have S2 : wI r.2 (dr + 7) 0 = ((z + blen bs + e2.length : Nat) : Int) := S2
  have G := gd_smx _ _ _ _ _ (by omega) e
  have G2 := G.2.1
  have G3 := G.2.2.1
  have hO2 := f.ok (hO.sm ⟨hF.2.1.1.symm, hF.2.1.2.symm⟩)
  refine wp_call (c_put (isLw_of hd) hO2 (by omega) S2) (fun w3 g => ?_)
  obtain ⟨f3, g0, g1, g2⟩ := g
  have fl3 : FL (PX dr z) QSt r.2 w3 := (f3.mono (R := PX dr z) (fun a k q => by unfold PX; omega)).fl
  have fl : FL (PX dr z) QSt w0 w3 := (hF.tr (px_mono (by omega) F2)).tr fl3
  refine wp_ret ⟨px_rd fl, rfl, C2.eq (fun k q => f3.at 8 k (by omega)) (by rw [f3.2.2.2.1]), fl, z + blen bs + e2.length + 1, g0, by show z + blen bs + e2.length + 1 + 1 ≤ t2; omega, by omega, ?_⟩
  show claw w3 (dr + 7) (z + blen bs + e2.length + 1) z bs e2
  refine claw_of _ _ (cpre_ag (by omega) _ _ (fun k k1 k2 => ⟨?_, ?_⟩) hP) ⟨ccode_ag _ _ (fun k k1 k2 => ⟨f3.at _ _ (by omega), f3.at _ _ (by omega)⟩) D2, G.2.2.2.2, g1, by omega⟩
  · rw [f3.at _ _ (by omega), F2.i _ _ (by unfold PX; omega)]
  · rw [f3.at _ _ (by omega), F2.i _ _ (by unfold PX; omega)]
theorem sb_as {α β γ : Type} (r : Sum Ft α) (f : α → Sum Ft β) (g : β → Sum Ft γ) : sb (sb r f) g = sb r (fun a => sb (f a) g) := by cases r <;> rfl
/-- the test of a branch -/
def lwA (K : Nat → Nat) (Iv : Nat → Int) (t : Nat) : Sum Ft (Nat × (List Op × List Op)) := sb (ps1 t) (fun t1 => sb (smx K Iv 20 0 t1) (fun a => sb (ex K 13 a.1) (fun t2 => sb (smx K Iv 20 0 t2) (fun b => sb (ex K 29 b.1) (fun t3 => .inr (t3, (a.2, b.2)))))))
theorem lw1_A (K : Nat → Nat) (Iv : Nat → Int) (t : Nat) : lw1 K Iv t = sb (lwA K Iv t) (fun q => sb (smx K Iv 20 0 q.1) (fun c => sb (ex K 30 c.1) (fun t4 => .inr (t4, (q.2.1, q.2.2, c.2))))) := by
  unfold lw1 lwA
  simp only [sb_as]
  rfl
theorem c_brA {β : Type} {w w0 : Wd} {z t : Nat} {f : Nat × (List Op × List Op) → Sum Ft β} {ok' : β → Wd → Prop} {k : Int × Wd → Option (Int × Wd)} (hd : isWi dr) (hO : Ok L wl dr 7 w) (hT : CT c N w) (hC : CUR c N w t) (hS : wI w (dr + 7) 0 = (z : Int)) (hzt : z + 2 ≤ t) (hF : FL (PRd dr) QRd w0 w) (k28 : kK c N t = 28)
    (hk : ∀ (t5 : Nat) (a b : List Op) (r : Int × Wd), CT c N r.2 → CUR c N r.2 t5 → FL (PX dr z) QSt w r.2 → wI r.2 (dr + 7) 0 = ((z + a.length + b.length : Nat) : Int) → ccode r.2 (dr + 7) z a → ccode r.2 (dr + 7) (z + a.length) b → wk 15 a 0 = some 1 → wk 15 b 0 = some 1 → z + a.length + b.length + 4 ≤ t5 → Wp (k r) (RES (kP c N) dr w0 (f (t5, (a, b))) ok')) :
    Wp ((Rd_pass 8 w).bind fun r56 => if (r56.1 : Int) = 0 then some (0, r56.2) else (Rd_takeSum 20 8 0 r56.2).bind fun r64 => if (r64.1 : Int) = 0 then some (0, r64.2) else (Rd_take 8 60 r64.2).bind fun r73 => if (r73.1 : Int) = 0 then some (0, r73.2) else (Rd_takeSum 20 8 0 r73.2).bind fun r81 => if (r81.1 : Int) = 0 then some (0, r81.2) else (Rd_take 8 265 r81.2).bind fun r91 => if (r91.1 : Int) = 0 then some (0, r91.2) else k r91) (RES (kP c N) dr w0 (sb (lwA (kK c N) (kV c N) t) f) ok') := by
  have hb := wi_bd hd
  unfold lwA
  rw [sb_as]
  refine wp_res2 hF (c_pass hO hT hC (by omega)) (fun t1 r1 e1 f1 _ h1 => ?_)
  obtain ⟨C1, F1⟩ := h1
  have e1' := ps1_inr e1
  have hO1 := (st_rd (dr := dr) F1).ok hO
  have hT1 := hT.px hd (st_px (z := z) F1)
  have S1 : wI r1.2 (dr + 7) 0 = (z : Int) := (F1.i _ _ (by unfold PSt; omega)).trans hS
  rw [sb_as]
  refine wp_res2 f1 (c_sumx hd 20 0 (by omega) (by omega) r1.2 _ t1 hO1 hT1 C1 S1 (by omega)) (fun qa r2 e2 f2 _ h2 => ?_)
  obtain ⟨t2, a⟩ := qa
  obtain ⟨C2, F2, S2, D2⟩ := h2
  have C2 : CUR c N r2.2 t2 := C2
  have S2 : wI r2.2 (dr + 7) 0 = ((z + a.length : Nat) : Int) := S2
  have D2 : ccode r2.2 (dr + 7) z a := D2
  have G2 := gd_smx _ _ _ _ _ (by omega) e2
  have g22 := G2.2.2.1
  have hO2 := (px_rd F2).ok hO1
  have hT2 := hT1.px hd F2
  rw [sb_as]
  refine wp_res2 f2 (c_take (k := 13) hO2 hT2 C2 (by unfold kv; omega) (by omega) rfl) (fun t3 r3 e3 f3 _ h3 => ?_)
  obtain ⟨C3, F3⟩ := h3
  have e3' := ex_inr e3
  have hO3 := (st_rd (dr := dr) F3).ok hO2
  have hT3 := hT2.px hd (st_px (z := z) F3)
  have S3 : wI r3.2 (dr + 7) 0 = ((z + a.length : Nat) : Int) := (F3.i _ _ (by unfold PSt; omega)).trans S2
  rw [sb_as]
  refine wp_res2 f3 (c_sumx hd 20 0 (by omega) (by omega) r3.2 _ t3 hO3 hT3 C3 S3 (by omega)) (fun qb r4 e4 f4 _ h4 => ?_)
  obtain ⟨t4, b⟩ := qb
  obtain ⟨C4, F4, S4, D4⟩ := h4
  have C4 : CUR c N r4.2 t4 := C4
  have S4 : wI r4.2 (dr + 7) 0 = ((z + a.length + b.length : Nat) : Int) := S4
  have D4 : ccode r4.2 (dr + 7) (z + a.length) b := D4
  have G4 := gd_smx _ _ _ _ _ (by omega) e4
  have g42 := G4.2.2.1
  have hO4 := (px_rd F4).ok hO3
  have hT4 := hT3.px hd F4
  rw [sb_as]
  refine wp_res2 f4 (c_take (k := 29) hO4 hT4 C4 (by unfold kv; omega) (by omega) rfl) (fun t5 r5 e5 f5 _ h5 => ?_)
  obtain ⟨C5, F5⟩ := h5
  have e5' := ex_inr e5
  refine hk t5 a b r5 (hT4.px hd (st_px (z := z) F5)) C5 (((((st_px F1).tr F2).tr (st_px F3)).tr (px_mono (by omega) F4)).tr (st_px F5)) ((F5.i _ _ (by unfold PSt; omega)).trans S4) (ccode_ag _ _ (fun k k1 k2 => ⟨?_, ?_⟩) D2) (ccode_ag _ _ (fun k k1 k2 => ⟨F5.i _ _ (by unfold PSt; omega), F5.i _ _ (by unfold PSt; omega)⟩) D4) G2.2.2.2.2 G4.2.2.2.2 (by omega)
  · rw [F5.i _ _ (by unfold PSt; omega), F4.i _ _ (by unfold PX; omega), F3.i _ _ (by unfold PSt; omega)]
  · rw [F5.i _ _ (by unfold PSt; omega), F4.i _ _ (by unfold PX; omega), F3.i _ _ (by unfold PSt; omega)]
theorem c_brB {β : Type} {w w0 : Wd} {z t : Nat} {f : Nat × List Op → Sum Ft β} {ok' : β → Wd → Prop} {k : Wd → Option (Int × Wd)} (hd : isWi dr) (hO : Ok L wl dr 7 w) (hT : CT c N w) (hC : CUR c N w t) (hS : wI w (dr + 7) 0 = (z : Int)) (hzt : z + 4 ≤ t) (hF : FL (PRd dr) QRd w0 w)
    (hk : ∀ (t8 : Nat) (cc : List Op) (w1 : Wd), CT c N w1 → CUR c N w1 t8 → FL (PX dr z) QSt w w1 → wI w1 (dr + 7) 0 = ((z + 1 + cc.length + 1 : Nat) : Int) → wI w1 (dr + 7 + 1) z = 3 → wI w1 (dr + 7 + 2) z = ((z + 1 + cc.length + 1 : Nat) : Int) → ccode w1 (dr + 7) (z + 1) cc → wI w1 (dr + 7 + 1) (z + 1 + cc.length) = 4 → wk 15 cc 0 = some 1 → z + 1 + cc.length + 1 + 2 ≤ t8 → Wp (k w1) (RES (kP c N) dr w0 (f (t8, cc)) ok')) :
    Wp ((Lw_put (dr + 7) 3 0 w).bind fun r107 => (Rd_takeSum 20 8 0 r107).bind fun r112 => if (r112.1 : Int) = 0 then some (0, r112.2) else (Rd_take 8 266 r112.2).bind fun r122 => if (r122.1 : Int) = 0 then some (0, r122.2) else (Lw_put (dr + 7) 4 0 r122.2).bind fun r133 => (Lw_leadHere (dr + 7) (z : Int) r133).bind fun r138 => k r138) (RES (kP c N) dr w0 (sb (smx (kK c N) (kV c N) 20 0 t) (fun q => sb (ex (kK c N) 30 q.1) (fun t4 => f (t4, q.2)))) ok') := by
  have hb := wi_bd hd
  have h4 := hC.1.1
  refine wp_call (c_put (isLw_of hd) hO (by omega) hS) (fun w6 g6 => ?_)
  obtain ⟨f6, S6, u6, v6⟩ := g6
  have fl6 : FL (PX dr z) QSt w w6 := (f6.mono (R := PX dr z) (fun a k q => by unfold PX; omega)).fl
  have hO6 := fl6.ok hO
  have hT6 := hT.px hd fl6
  have C6 : CUR c N w6 t := hC.eq (fun k q => f6.at 8 k (by omega)) (by rw [f6.2.2.2.1])
  refine wp_res2 (hF.tr (px_rd fl6)) (c_sumx hd 20 0 (by omega) (by omega) w6 _ t hO6 hT6 C6 S6 (by omega)) (fun qc r7 e7 f7 _ h7 => ?_)
  obtain ⟨t7, cc⟩ := qc
  obtain ⟨C7, F7, S7, D7⟩ := h7
  have C7 : CUR c N r7.2 t7 := C7
  have S7 : wI r7.2 (dr + 7) 0 = ((z + 1 + cc.length : Nat) : Int) := S7
  have D7 : ccode r7.2 (dr + 7) (z + 1) cc := D7
  have G7 := gd_smx _ _ _ _ _ (by omega) e7
  have g71 := G7.2.1
  have g72 := G7.2.2.1
  have hO7 := (px_rd F7).ok hO6
  have hT7 := hT6.px hd F7
  refine wp_res2 f7 (c_take (k := 30) hO7 hT7 C7 (by unfold kv; omega) (by omega) rfl) (fun t8 r8 e8 f8 _ h8 => ?_)
  obtain ⟨C8, F8⟩ := h8
  have e8' := ex_inr e8
  have hO8 := (st_rd (dr := dr) F8).ok hO7
  have hT8 := hT7.px hd (st_px (z := z) F8)
  have S8 : wI r8.2 (dr + 7) 0 = ((z + 1 + cc.length : Nat) : Int) := (F8.i _ _ (by unfold PSt; omega)).trans S7
  refine wp_call (c_put (isLw_of hd) hO8 (by omega) S8) (fun w9 g9 => ?_)
  obtain ⟨f9, S9, u9, v9⟩ := g9
  have fl9 : FL (PX dr z) QSt r8.2 w9 := (f9.mono (R := PX dr z) (fun a k q => by unfold PX; omega)).fl
  have hO9 := fl9.ok hO8
  have hT9 := hT8.px hd fl9
  refine wp_call (c_lead' (p := z) (isLw_of hd) hO9 (by omega) S9) (fun w10 hw10 => ?_)
  have fl10 : FL (PX dr z) QSt w9 w10 := by rw [hw10]; exact (FL.rf w9).sI (by unfold PX; omega)
  refine hk t8 cc w10 (hT9.px hd fl10) ?_ ((((fl6.tr (px_mono (by omega) F7)).tr (st_px F8)).tr fl9).tr fl10) ?_ ?_ ?_ (ccode_ag _ _ (fun k k1 k2 => ⟨?_, ?_⟩) D7) ?_ G7.2.2.2.2 (by omega)
  · rw [hw10]
    exact (C8.eq (w1 := w9) (fun k q => f9.at 8 k (by omega)) (by rw [f9.2.2.2.1])).eq (fun k q => wI_ne (by omega)) (wL_sI _ _ _ _ _ _)
  · rw [hw10, wI_ne (by omega), S9]
  · rw [hw10, wI_ne (by omega), f9.at _ _ (by omega), F8.i _ _ (by unfold PSt; omega), F7.i _ _ (by unfold PX; omega), u6]
  · rw [hw10, wI_eq]
  · rw [hw10, wI_ne (by omega), f9.at _ _ (by omega), F8.i _ _ (by unfold PSt; omega)]
  · rw [hw10, wI_ne (by omega), f9.at _ _ (by omega), F8.i _ _ (by unfold PSt; omega)]
  · rw [hw10, wI_ne (by omega), u9]
theorem c_lw29 {w0 : Wd} {z : Nat} (hd : isWi dr) : ∀ (n m i t : Nat) (bs : Bs) (w : Wd), i + n = 4 → n < m → Ok L wl dr 7 w → CT c N w → CUR c N w t → wI w (dr + 7) 0 = ((z + blen bs : Nat) : Int) → z + blen bs + 2 ≤ t → cpre w (dr + 7) (z + blen bs) z bs → FL (PX dr z) QSt w0 w → Wp (Rd_takeLaw_29 m 8 (dr + 7) (i : Int) w) (RES (kP c N) dr w0 (lwl (kK c N) (kV c N) n t bs) (LOK c N dr w0 z))
  | n, 0, i, t, bs, w, _, hm, _, _, _, _, _, _, _ => absurd hm (by omega)
  | 0, m + 1, i, t, bs, w, hi, hm, hO, hT, hC, hS, hzt, hP, hF => by
    have el : lwl (kK c N) (kV c N) 0 t bs = if kK c N t = 28 then .inl (2, t) else sb (smx (kK c N) (kV c N) 20 0 t) (fun q => .inr (q.1, (bs, q.2))) := rfl
    rw [el, Rd_takeLaw_29]
    unfold Rd_takeLaw_49
    refine wp_neg (by omega) (wp_gI hO rfl (wp_ite (fun q => wp_pos (by omega) ?_) (fun q => ?_)))
    · rw [if_pos ((hC.is (k := 28) (by unfold kv; omega)).mp q)]
      refine wp_call (refuse_res (x := 2) (ok := LOK c N dr w0 z) hO hT hC) (fun r h => wp_rZr (Or.inl h.2.1) ?_)
      exact ⟨(px_rd hF).tr h.1, h.2⟩
    · rw [if_neg (fun h => q ((hC.is (k := 28) (by unfold kv; omega)).mpr h))]
      exact c_lw147 hd hO hT hC hS hzt hP hF
  | n + 1, m + 1, i, t, bs, w, hi, hm, hO, hT, hC, hS, hzt, hP, hF => by
    have el : lwl (kK c N) (kV c N) (n + 1) t bs = if kK c N t = 28 then sb (lw1 (kK c N) (kV c N) t) (fun q => lwl (kK c N) (kV c N) n q.1 (bs ++ [q.2])) else sb (smx (kK c N) (kV c N) 20 0 t) (fun q => .inr (q.1, (bs, q.2))) := rfl
    rw [el, Rd_takeLaw_29]
    refine wp_neg (by omega) (wp_gI hO rfl (wp_ite (fun q => wp_neg (by omega) ?_) (fun q => ?_)))
    · have k28 := (hC.is (k := 28) (by unfold kv; omega)).mp q
      rw [if_pos k28, lw1_A, sb_as]
      unfold Rd_takeLaw_97 Rd_takeLaw_128
      refine c_brA hd hO hT hC hS hzt (px_rd hF) k28 (fun t5 a b r5 hT5 C5 F5 S5 D5 E5 W5 V5 B5 => ?_)
      have hO5 := (px_rd F5).ok hO
      refine wp_gI hO5 (sh_Lw L (isLw_of hd)) ?_
      rw [S5]
      have shp : sb (sb (smx (kK c N) (kV c N) 20 0 (t5, (a, b)).1) (fun c_1 => sb (ex (kK c N) 30 c_1.1) (fun t4 => Sum.inr (t4, ((t5, (a, b)).2.1, (t5, (a, b)).2.2, c_1.2))))) (fun q => lwl (kK c N) (kV c N) n q.1 (bs ++ [q.2])) = sb (smx (kK c N) (kV c N) 20 0 t5) (fun q => sb (ex (kK c N) 30 q.1) (fun t4 => (fun p : Nat × List Op => lwl (kK c N) (kV c N) n p.1 (bs ++ [(a, b, p.2)])) (t4, q.2))) := by
        simp only [sb_as]
        rfl
      rw [shp]
      refine c_brB (f := fun p : Nat × List Op => lwl (kK c N) (kV c N) n p.1 (bs ++ [(a, b, p.2)])) (k := fun r138 => Rd_takeLaw_29 m 8 (dr + 7) (w32 ((i : Int) + 1)) r138) hd hO5 hT5 C5 S5 B5 ((px_rd hF).tr (px_rd F5)) (fun t8 cc w1 hT8 C8 F8 S8 u8 v8 D8 x8 W8 B8 => ?_)
      have bl := blen_snoc (a := a) (b := b) (t := cc) bs
      have hb := wi_bd hd
      rw [w32_id (z := (i : Int) + 1) (by omega) (by omega), show (i : Int) + 1 = ((i + 1 : Nat) : Int) by omega]
      have ez : z + (blen bs + (a.length + b.length + 1 + cc.length + 1)) = z + blen bs + a.length + b.length + 1 + cc.length + 1 := by omega
      refine c_lw29 hd n m (i + 1) t8 (bs ++ [(a, b, cc)]) w1 (by omega) (by omega) ((px_rd F8).ok hO5) hT8 C8 (by rw [S8, bl, ez]) (by rw [bl, ez]; exact B8) ?_ ((hF.tr (px_mono (by omega) F5)).tr (px_mono (by omega) F8))
      rw [bl, ez]
      refine cpre_snoc _ _ (cpre_ag (by omega) _ _ (fun k k1 k2 => ⟨?_, ?_⟩) hP) ⟨ccode_ag _ _ (fun k k1 k2 => ⟨F8.i _ _ (by unfold PX; omega), F8.i _ _ (by unfold PX; omega)⟩) D5, ccode_ag _ _ (fun k k1 k2 => ⟨F8.i _ _ (by unfold PX; omega), F8.i _ _ (by unfold PX; omega)⟩) E5, u8, v8, D8, x8, W5, V5, W8, by omega⟩
      · rw [F8.i _ _ (by unfold PX; omega), F5.i _ _ (by unfold PX; omega)]
      · rw [F8.i _ _ (by unfold PX; omega), F5.i _ _ (by unfold PX; omega)]
    · rw [if_neg (fun h => q ((hC.is (k := 28) (by unfold kv; omega)).mpr h))]
      exact c_lw147 hd hO hT hC hS hzt hP hF
/-- a law as a whole; where it starts is noted -/
theorem c_takeLaw {w : Wd} {z t : Nat} (hd : isWi dr) (hO : Ok L wl dr 7 w) (hT : CT c N w) (hC : CUR c N w t) (hS : wI w (dr + 7) 0 = (z : Int)) (hzt : z + 1 ≤ t) : Wp (Rd_takeLaw 8 w) (RES (kP c N) dr w (law' (kK c N) (kV c N) t) (fun q w1 => LOK c N dr (sI w 8 9 (z : Int)) z q w1)) := by
  have hb := wi_bd hd
  have dn := wi_ne hd
  unfold Rd_takeLaw Rd_takeLaw_0 law'
  generalize hFU : FU = fu; have hfu : 1000000 = fu := hFU
  refine wp_gd hO rfl (wp_R6_1 hO dn (wp_R10_13 hO hd (wp_gI hO (sh_Lw L (isLw_of hd)) ?_)))
  rw [hS]
  refine wp_pI hO rfl ?_
  generalize hw1 : sI w 8 9 (z : Int) = w1
  have hO1 : Ok L wl dr 7 w1 := by rw [← hw1]; exact hO.sI
  have f1 : FL (PRd dr) QRd w w1 := by rw [← hw1]; exact (FL.rf w).sI (Or.inl rfl)
  have hT1 : CT c N w1 := hT.fl (fun a k q => by rw [← hw1]; exact wI_ne (by omega)) (fun k => by rw [← hw1, wL_sI])
  have C1 : CUR c N w1 t := hC.eq (fun k q => by rw [← hw1]; exact wI_ne (by omega)) (by rw [← hw1, wL_sI])
  refine wp_res2 f1 (c_take (k := 5) hO1 hT1 C1 (by unfold kv; omega) (by omega) rfl) (fun t2 r2 e2 f2 _ h2 => ?_)
  obtain ⟨C2, F2⟩ := h2
  have e2' := ex_inr e2
  refine wp_use (c_lw29 (w0 := w1) (z := z) hd 4 fu 0 t2 [] r2.2 (by omega) (by omega) ((st_rd (dr := dr) F2).ok hO1) (hT1.px hd (st_px (z := z) F2)) C2 ?_ (by show z + 0 + 2 ≤ t2; omega) trivial (st_px F2)) (fun r hr => res_tr f1 hr (fun _ _ q => q))
  rw [F2.i _ _ (by unfold PSt; omega), ← hw1, wI_ne (by omega), hS]
  rfl
end CL
