/-! Level 3, read: the reference's masters, learning, drift. -/
section MR
variable {L wl dr tx : Nat} {c : Nat → Int} {N d : Nat} {w : Wd}
theorem lm_ms {w1 : Wd} {b z : Nat} {ix x : Int} (hbl : 130 * d ≤ b) (hcz : 420 * d ≤ z) (hix : ix = if 0 ≤ x then 10 * (d : Int) + x else -1) (hx : x ≤ 9) (f : Fr (PLm (130 * d) (420 * d) b z ix) w w1) : FL (PMs d) QMs w w1 := by
  have h10 : ix = -1 ∨ (10 * (d : Int) ≤ ix ∧ ix < 10 * (d : Int) + 10) := by
    rw [hix]
    split <;> omega
  refine (f.mono (fun a k q => ?_)).fl
  unfold PLm at q
  unfold PMs RG
  rcases q with q | q | q | q | q
  · omega
  · omega
  · omega
  · omega
  · refine Or.inr (Or.inr (Or.inr (Or.inr (Or.inr (Or.inr (Or.inr (Or.inl ?_)))))))
    omega
theorem mlx_law {w1 : Wd} {t b z : Nat} {ix x : Int} {q : Bs × List Op} {V V1 : Vl} (hbl : 130 * d ≤ b) (h7 : MLS w d b z V) (f : Fr (PLm (130 * d) (420 * d) b z ix) w w1) (hix : ix = if 0 ≤ x then 10 * (d : Int) + x else -1) (hL : LMO c N (130 * d) (420 * d) b z ix x (t, q) w1) (hV : ∀ k, k < 10 → lo V1 k = if (k : Int) = x then some q else lo V k) : MLX w1 d t V1 := by
  obtain ⟨-, -, b1, z1, e35, e41, eb, z2, z3, z4, b4, ml, hx⟩ := hL
  have eb : b1 = b + q.1.length + 1 := eb
  refine ⟨b1, z1, e35, e41, by omega, b4, z2, z4, fun k hk => ?_⟩
  rw [hV k hk]
  by_cases e : (k : Int) = x
  · rw [if_pos e]
    rw [if_pos (by omega)] at hix
    obtain ⟨u1, u2⟩ := hx (by omega)
    have ei : ix.toNat = 10 * d + k := by omega
    rw [ei] at u1 u2
    obtain ⟨bs, x'⟩ := q
    exact ⟨b, u1, by rw [u2, eb], ml⟩
  · rw [if_neg e]
    have ne : ((10 * d + k : Nat) : Int) ≠ ix := by rw [hix]; split <;> omega
    refine mlo_ag (h7 k hk) ⟨fun a k q1 q2 q3 q4 => f.at a k (by unfold PLm; omega), fun a k q q3 q4 => f.at a k (by unfold PLm; omega)⟩ (by omega) z3 ⟨f.at _ _ ?_, f.at _ _ ?_⟩
    · unfold PLm; omega
    · unfold PLm; omega
theorem lwG_as {t : Nat} (u : Bs × List Op → Sst) : sb (law' (kK c N) (kV c N) t) (fun q => sb (ex (kK c N) 4 q.1) (fun t3 => .inr (t3, u q.2))) = sb (sb (law' (kK c N) (kV c N) t) (lwG c N)) (fun q => .inr (q.1, u q.2)) := by
  rw [sb_as]
  refine congrArg (sb _) (funext fun q => ?_)
  show _ = sb (sb (ex (kK c N) 4 q.1) (fun t' => .inr (t', q.2))) _
  rw [sb_as]
  rfl
theorem m_lawstF {t : Nat} {V : Vl} {x : Int} {e : Ft} (hd : d ≤ 1) (ht : t ≤ 400) (hO : Ok L wl dr tx w) (hE : ERR c N w e) (hL : MLX w d t V) : Wp (Mo_tellLaw 223 x w) (fun w1 => FL (PMs d) QMs w w1 ∧ ERR c N w1 e) := by
  obtain ⟨b, z, g1, g2, g3, g4, g5, g6, g7⟩ := hL
  exact wp_use (m_tellLawF (bb := 130 * d) (cb := 420 * d) (z00 := 420 * d) (ix := -1) (by omega) hO hE g1 (by omega)) (fun w1 g => ⟨lm_ms (x := -1) g3 (Nat.le_refl _) (by rw [if_neg (by omega)]) (by omega) g.1, g.2⟩)
/-- a law told, all but the law's own stays -/
theorem m_lawst {t t0 : Nat} {V : Vl} {x : Int} (hd : d ≤ 1) (hx : x ≤ 9) (hO : Ok L wl dr tx w) (hT : MT c N w) (a13 : wI w 223 13 = 0) (a12 : wI w 223 12 = 0) (a19 : wI w 223 19 = (d : Int)) (hC : MCU c N w t) (hL : MLX w d t0 V) (ht : t0 < t) : Wp (Mo_tellLaw 223 x w) (fun w1 => FL (PMs d) QMs w w1 ∧ (∀ a k, (a = 223 ∧ (k = 15 ∨ k = 16 ∨ k = 19 ∨ k = 20)) ∨ (224 ≤ a ∧ a ≤ 242) → wI w1 a k = wI w a k) ∧ (∀ k, wL w1 231 k = wL w 231 k) ∧ match sb (law' (kK c N) (kV c N) t) (lwG c N) with
    | .inl e => ERR c N w1 e
    | .inr q => wI w1 223 13 = 0 ∧ wI w1 223 12 = 0 ∧ MCU c N w1 q.1 ∧ ∀ V1 : Vl, (∀ k, k < 10 → lo V1 k = if (k : Int) = x then some q.2 else lo V k) → MLX w1 d q.1 V1) := by
  obtain ⟨b, z, g1, g2, g3, g4, g5, g6, g7⟩ := hL
  refine wp_use (m_tellLaw (bb := 130 * d) (cb := 420 * d) (by omega) (by omega) hd hx rfl hO hT a13 hC a12 g1 g2 g5 (by omega) g3 (by omega) a19) (fun w1 g => ?_)
  obtain ⟨f, g⟩ := g
  refine ⟨lm_ms g3 g5 rfl hx f, fun a k q => f.at a k (by unfold PLm; omega), fun k => by rw [f.2.2.2.1], ?_⟩
  generalize sb (law' (kK c N) (kV c N) t) (lwG c N) = y at g
  cases y with
  | inl e => exact g
  | inr q => exact ⟨g.1, g.2.2.1, g.2.1, fun V1 hV => mlx_law g3 g7 f rfl g.2 hV⟩
/-- drift, behind its word -/
theorem m_drift {t t0 : Nat} {s : Sst} (hd : d ≤ 1) (hO : Ok L wl dr tx w) (hT : MT c N w) (h : MDR c N d w s t) (hL : MLX w d t0 (sV s)) (ht : t0 < t) : Wp (Mo_tellLaw 223 9 w) (SMR c N d w (sb (law' (kK c N) (kV c N) t) (fun q => sb (ex (kK c N) 4 q.1) (fun t3 => .inr (t3, uDrift s q.2))))) := by
  obtain ⟨⟨a13, a12, a19⟩, hC, hN, hD, -, hM⟩ := h
  rw [lwG_as]
  refine wp_use (m_lawst hd (by omega) hO hT a13 a12 a19 hC hL ht) (fun w1 g => ?_)
  obtain ⟨f, i1, l1, g⟩ := g
  refine ⟨f, ?_⟩
  generalize hy : sb (law' (kK c N) (kV c N) t) (lwG c N) = y at g
  cases y with
  | inl e => exact g
  | inr q =>
    obtain ⟨p1, p2, p3, p4⟩ := g
    have hq : t ≤ q.1 := by
      obtain ⟨q0, k1, k2⟩ := sb_inr hy
      have := law_lt k1
      obtain ⟨t3, k3, k4⟩ := sb_inr k2
      have := ex_inr k3
      rw [← Sum.inr.inj k4]
      show t ≤ t3
      omega
    exact ⟨⟨p1, p2, (i1 _ _ (by omega)).trans a19⟩, p3, hN.eq (fun k q => i1 _ _ (by omega)) hq, hD.eq (fun a k q1 q2 => i1 _ _ (by omega)), p4 _ (fun k hk => by show (if k = 9 then some q.2 else lo (sV s) k) = _; by_cases e : k = 9 <;> simp [e] <;> omega), hM.eq (i1 _ _ (by omega)) (fun k => i1 _ _ (by omega)) l1⟩
theorem hfd_rg (hn : Nat → Int) (v : Int) : ∀ r k, hfd hn v r k = -1 ∨ ((k : Int) ≤ hfd hn v r k ∧ hfd hn v r k < (k : Int) + (r : Int))
  | 0, k => Or.inl rfl
  | r + 1, k => by
    unfold hfd
    by_cases e : hn k = v
    · rw [if_pos e]; omega
    · rw [if_neg e]
      have := hfd_rg hn v r (k + 1)
      omega
/-- learning, behind its word -/
theorem m_learn {t1 t0 : Nat} {s : Sst} (hd : d ≤ 1) (hO : Ok L wl dr tx w) (hT : MT c N w) (h : MDR c N d w s t1) (hL : MLX w d t0 (sV s)) (ht : t0 < t1) : Wp ((Mo_known 223 w).bind fun r147 => if (0 : Int) ≤ r147.1 then Mo_tellText_163 (w32 (3 + r147.1)) 223 r147.2 else Mo_tellText_163 (-1) 223 r147.2) (SMR c N d w (sb (ex (kK c N) 1 t1) (fun t2 => sb (law' (kK c N) (kV c N) t2) (fun q => sb (ex (kK c N) 4 q.1) (fun t3 => .inr (t3, uLearn (kN c N) s t1 q.2)))))) := by
  obtain ⟨⟨a13, a12, a19⟩, hC, hN, hD, -, hM⟩ := h
  have hb := hD.1
  have t4 := hC.1.1
  refine wp_call (m_known (by omega) hO hT a13 hC hN hM) (fun r g => ?_)
  obtain ⟨x, w1⟩ := r
  obtain ⟨f1, g⟩ := g
  have f1 : Fr PBd w w1 := f1
  have hO1 := f1.ok hO
  have hT1 := hT.bd f1
  have i1 : ∀ a k, (a = 223 → k = 12 ∨ k = 19 ∨ k = 20 ∨ k = 35 ∨ k = 41) → wI w1 a k = wI w a k := fun a k q => f1.at a k (by unfold PBd; omega)
  have hL1 : MLX w1 d t0 (sV s) := mlx_eq hL (fun a k q1 q2 => i1 _ _ (by omega)) (fun k q => i1 _ _ (by omega)) (Nat.le_refl _) rfl
  show Wp (if (0 : Int) ≤ x then Mo_tellText_163 (w32 (3 + x)) 223 w1 else Mo_tellText_163 (-1) 223 w1) _
  have g : match ex (kK c N) 1 t1 with
    | .inl e => ERR c N w1 e ∧ x = -1
    | .inr t' => wI w1 223 13 = 0 ∧ MCU c N w1 t' ∧ x = hfd (sN s) (kN c N t1) (nh (sV s)) 0 ∧ NTM c N w1 (if hfd (sN s) (kN c N t1) (nh (sV s)) 0 = -1 then (if (sT s).1 = 0 then (4, t1) else sT s) else sT s) t' := g
  unfold Mo_tellText_163 Mo_tellText_273
  generalize hx1 : ex (kK c N) 1 t1 = y1 at g
  cases y1 with
  | inl e =>
    rw [g.2]
    exact wp_neg (by omega) (wp_call (m_lawstF hd (by omega) hO1 g.1 hL1) (fun w2 g2 => wp_ret ⟨(bd_ms f1).tr g2.1, g2.2⟩))
  | inr t2 =>
    have e1 := ex_inr hx1
    obtain ⟨c13, cC, cx, cN⟩ := g
    have e2 : ∀ u, sb (law' (kK c N) (kV c N) t2) (fun q => sb (ex (kK c N) 4 q.1) (fun t3 => .inr (t3, uLearn (kN c N) s t1 q.2))) = u → sb (Sum.inr t2) (fun t2 => sb (law' (kK c N) (kV c N) t2) (fun q => sb (ex (kK c N) 4 q.1) (fun t3 => .inr (t3, uLearn (kN c N) s t1 q.2)))) = u := fun u hu => hu
    rw [e2 _ (lwG_as (fun q => uLearn (kN c N) s t1 q))]
    have hf := hfd_rg (sN s) (kN c N t1) (nh (sV s)) 0
    rw [← cx] at hf cN
    -- the law itself
    have go : ∀ y : Int, y = (if x = -1 then -1 else 3 + x) → Wp ((Mo_tellLaw 223 y w1).bind fun r163 => some r163) (SMR c N d w (sb (sb (law' (kK c N) (kV c N) t2) (lwG c N)) (fun q => .inr (q.1, uLearn (kN c N) s t1 q.2)))) := by
      intro y hy
      have y9 : y ≤ 9 := by rw [hy]; split <;> omega
      refine wp_call (m_lawst hd y9 hO1 hT1 c13 ((i1 _ _ (by omega)).trans a12) ((i1 _ _ (by omega)).trans a19) cC hL1 (by omega)) (fun w2 g => wp_ret ?_)
      obtain ⟨f2, i2, l2, g⟩ := g
      refine ⟨(bd_ms f1).tr f2, ?_⟩
      generalize hyy : sb (law' (kK c N) (kV c N) t2) (lwG c N) = yy at g
      cases yy with
      | inl e => exact g
      | inr q =>
        obtain ⟨p1, p2, p3, p4⟩ := g
        have hq : t2 ≤ q.1 := by
          obtain ⟨q0, k1, k2⟩ := sb_inr hyy
          have := law_lt k1
          obtain ⟨t3, k3, k4⟩ := sb_inr k2
          have := ex_inr k3
          rw [← Sum.inr.inj k4]
          show t2 ≤ t3
          omega
        have D2 : MDF w2 d s := hD.eq (fun a k q1 q2 => (i2 _ _ (by omega)).trans (i1 _ _ (by omega)))
        have N2 : NTM c N w2 (if x = -1 then (if (sT s).1 = 0 then (4, t1) else sT s) else sT s) q.1 := cN.eq (fun k q => i2 _ _ (by omega)) hq
        have M2 : NMM w2 (sV s) (sN s) (sA s) := hM.eq ((i2 _ _ (by omega)).trans (i1 _ _ (by omega))) (fun k => (i2 _ _ (by omega)).trans (i1 _ _ (by omega))) (fun k => by rw [l2, f1.2.2.2.1])
        have A2 : wI w2 223 13 = 0 ∧ wI w2 223 12 = 0 ∧ wI w2 223 19 = (d : Int) := ⟨p1, p2, by rw [i2 _ _ (by omega), i1 _ _ (by omega), a19]⟩
        show MDR c N d w2 (uLearn (kN c N) s t1 q.2) q.1
        unfold uLearn
        rw [← cx]
        by_cases e : x = -1
        · rw [if_pos e] at hy N2 ⊢
          exact ⟨A2, p3, N2, D2, p4 (sV s) (fun k hk => by rw [if_neg (by omega)]), M2⟩
        · rw [if_neg e] at hy N2 ⊢
          refine ⟨A2, p3, N2, D2, p4 _ (fun k hk => ?_), M2⟩
          show (if k = 3 + x.toNat then some q.2 else lo (sV s) k) = _
          by_cases ek : k = 3 + x.toNat
          · rw [if_pos ek, if_pos (by omega)]
          · rw [if_neg ek, if_neg (by omega)]
    refine wp_ite (fun q => go _ ?_) (fun q => go _ ?_)
    · rw [if_neg (by omega), w32_id (by omega) (by omega)]
    · rw [if_pos (by omega)]
end MR
