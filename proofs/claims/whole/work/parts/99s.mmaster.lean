/-! Level 3, read: the reference tells a master. -/
section MS
variable {L wl dr tx : Nat} {c : Nat → Int} {N d : Nat} {w : Wd}
theorem m_tellMaster {t1 t0 : Nat} {s : Sst} (hd : d ≤ 1) (hO : Ok L wl dr tx w) (hT : MT c N w) (h : MDR c N d w s t1) (hL : MLX w d t0 (sV s)) (ht : t0 < t1) (h6 : nm (sV s) < 3) : Wp (Mo_tellMaster 223 w) (SMR c N d w (sb (ex (kK c N) 1 t1) (fun t2 => sb (law' (kK c N) (kV c N) t2) (fun q => sb (ex (kK c N) 4 q.1) (fun t3 => .inr (t3, uMaster (kN c N) s t1 q.2)))))) := by
  obtain ⟨⟨a13, a12, a19⟩, hC, hN, hD, -, hM⟩ := h
  obtain ⟨⟨b1, b2, b3⟩, ⟨d0, d1, d2, d3, d4, d5⟩, d6, d7, d8⟩ := hD
  have t4 := hC.1.1
  unfold Mo_tellMaster Mo_tellMaster_0
  refine wp_gd hO rfl (wp_call (m_named (by omega) hO hT a13 hC hN hM) (fun r g => ?_))
  obtain ⟨r1, w1⟩ := r
  obtain ⟨g0, f1, g⟩ := g
  have g0 : r1 = (t1 : Int) := g0
  have f1 : Fr PBd w w1 := f1
  have g : match ex (kK c N) 1 t1 with
    | .inl e => ERR c N w1 e
    | .inr t' => wI w1 223 13 = 0 ∧ MCU c N w1 t' ∧ NTM c N w1 (nmd (kN c N) (sA s) (sT s) t1) t' := g
  have hO1 := f1.ok hO
  have hT1 := hT.bd f1
  have i1 : ∀ a k, (a = 223 → k = 12 ∨ k = 19 ∨ k = 20 ∨ k = 35 ∨ k = 41) → wI w1 a k = wI w a k := fun a k q => f1.at a k (by unfold PBd; omega)
  have hL1 : MLX w1 d t0 (sV s) := mlx_eq hL (fun a k q1 q2 => i1 _ _ (by omega)) (fun k q => i1 _ _ (by omega)) (Nat.le_refl _) rfl
  show Wp ((fgR w1 223 12 29).bind _) _
  refine wp_R12_29 hO1 (wp_gI hO1 rfl ?_)
  rw [i1 223 19 (by omega), a19]
  refine wp_rI hO1 rfl (by omega) ?_
  rw [Int.toNat_natCast, i1 239 d (by omega), d2]
  generalize hx1 : ex (kK c N) 1 t1 = y1 at g
  cases y1 with
  | inl e =>
    refine wp_call (m_lawstF hd (by omega) hO1 g hL1) (fun w2 g2 => ?_)
    have p2 := err_pos g2.2
    exact wp_gI (g2.1.ok hO1) rfl (wp_neg (by omega) (wp_ret ⟨(bd_ms f1).tr g2.1, g2.2⟩))
  | inr t2 =>
    have e1 := ex_inr hx1
    obtain ⟨c13, cC, cN⟩ := g
    have e2 : ∀ u, sb (law' (kK c N) (kV c N) t2) (fun q => sb (ex (kK c N) 4 q.1) (fun t3 => .inr (t3, uMaster (kN c N) s t1 q.2))) = u → sb (Sum.inr t2) (fun t2 => sb (law' (kK c N) (kV c N) t2) (fun q => sb (ex (kK c N) 4 q.1) (fun t3 => .inr (t3, uMaster (kN c N) s t1 q.2)))) = u := fun u hu => hu
    rw [e2 _ (lwG_as (fun q => uMaster (kN c N) s t1 q))]
    refine wp_call (m_lawst (x := (nm (sV s) : Int)) hd (by omega) hO1 hT1 c13 ((i1 _ _ (by omega)).trans a12) ((i1 _ _ (by omega)).trans a19) cC hL1 (by omega)) (fun w4 g => ?_)
    obtain ⟨f2, i2, l2, g⟩ := g
    have f4 : FL (PMs d) QMs w w4 := (bd_ms f1).tr f2
    have hO4 := f2.ok hO1
    refine wp_gI hO4 rfl ?_
    generalize hyy : sb (law' (kK c N) (kV c N) t2) (lwG c N) = yy at g
    cases yy with
    | inl e =>
      have p4 := err_pos g
      exact wp_neg (by omega) (wp_ret ⟨f4, g⟩)
    | inr q =>
      obtain ⟨p1, p2, p3, p4⟩ := g
      have hq : t2 ≤ q.1 := by
        obtain ⟨q0, k1, k2⟩ := sb_inr hyy
        have := law_lt k1
        obtain ⟨t3, k3, k4⟩ := sb_inr k2
        have := ex_inr k3
        rw [← Sum.inr.inj k4]
        show t2 ≤ t3
        omega
      have i4 : ∀ a k, (a = 223 ∧ (k = 19 ∨ k = 20)) ∨ (224 ≤ a ∧ a ≤ 242) → wI w4 a k = wI w a k := fun a k q => (i2 a k (by omega)).trans (i1 a k (by omega))
      have l4 : ∀ k, wL w4 231 k = wL w 231 k := fun k => by rw [l2, f1.2.2.2.1]
      have h20 : wI w4 223 20 = ((nl (sV s) + nh (sV s) + nm (sV s) : Nat) : Int) := (i4 _ _ (by omega)).trans hM.1
      have X4 := p4 (sV (uMaster (kN c N) s t1 q.2)) (fun k hk => by
        show (if k = nm (sV s) then some q.2 else lo (sV s) k) = _
        by_cases e : k = nm (sV s)
        · rw [if_pos e, if_pos (by omega)]
        · rw [if_neg e, if_neg (by omega)])
      refine wp_pos (by omega) ?_
      show Wp ((Mo_notes 223 r1 (-1) w4).bind _) _
      rw [g0]
      refine wp_call (m_notes (x := -1) hO4 (hT.ms f4) hC.1 e1.1 h20 (by omega)) (fun w5 g => ?_)
      obtain ⟨f5, x20, x236, x235⟩ := g
      have hO5 := f5.ok hO4
      refine wp_R12_29 hO5 (wp_gI hO5 rfl ?_)
      rw [f5.i 223 19 (by omega), i4 223 19 (by omega), a19]
      refine wp_rI hO5 rfl (by omega) ?_
      rw [Int.toNat_natCast, f5.i 239 d (by omega), i4 239 d (by omega), d2, w32_id (by omega) (by omega)]
      refine wp_wI hO5 rfl (by omega) (wp_ret ?_)
      rw [Int.toNat_natCast]
      generalize hw6 : sI w5 239 d ((nm (sV s) : Int) + 1) = w6
      have f6 : FL (PMs d) QMs w w6 := by rw [← hw6]; exact (f4.tr (f5.mono (fun a k q => by unfold PMs; omega) (fun a k q => q.1))).sI (by unfold PMs RG; omega)
      have n6 : ∀ a k, a ≠ 239 → wI w6 a k = wI w5 a k := fun a k q => by rw [← hw6, wI_ne (by omega)]
      have v6 : wI w6 239 d = (nm (sV s) : Int) + 1 := by rw [← hw6, wI_eq]
      have l6 : ∀ k, wL w6 231 k = wL w5 231 k := fun k => by rw [← hw6, wL_sI]
      clear hw6
      have j6 : ∀ a k, a ≠ 239 → (a = 223 → k ≠ 20) → (a = 232 → k ≠ nl (sV s) + nh (sV s) + nm (sV s)) → wI w6 a k = wI w4 a k := fun a k q0 q1 q2 => by rw [n6 a k q0, f5.i a k (by omega)]
      have i6 : ∀ a k, a ≠ 239 → (a = 223 ∧ k = 19) ∨ (224 ≤ a ∧ a ≤ 242) → (a = 232 → k ≠ nl (sV s) + nh (sV s) + nm (sV s)) → wI w6 a k = wI w a k := fun a k q0 q1 q2 => by rw [j6 a k q0 (by omega) q2, i4 a k (by omega)]
      refine ⟨f6, ⟨(j6 _ _ (by omega) (by omega) (by omega)).trans p1, (j6 _ _ (by omega) (by omega) (by omega)).trans p2, (i6 _ _ (by omega) (by omega) (by omega)).trans a19⟩, ⟨p3.1, (j6 _ _ (by omega) (by omega) (by omega)).trans p3.2⟩, cN.eq (fun k q => (j6 _ _ (by omega) (by omega) (by omega)).trans (i2 _ _ (by omega))) hq, ⟨⟨b1, b2, by show nm (sV s) + 1 ≤ 3; omega⟩, ⟨?_, ?_, ?_, ?_, ?_, ?_⟩, fun l hl => ?_, fun x hx => ?_, fun x hx l hl => ?_⟩, mlx_eq X4 (fun a k q1 q2 => j6 a k (by omega) (by omega) (by omega)) (fun k q => j6 _ _ (by omega) (by omega) (by omega)) (Nat.le_refl _) rfl, ?_⟩
      · exact (i6 _ _ (by omega) (by omega) (by omega)).trans d0
      · exact (i6 _ _ (by omega) (by omega) (by omega)).trans d1
      · rw [v6]; show (nm (sV s) : Int) + 1 = ((nm (sV s) + 1 : Nat) : Int); omega
      · exact (i6 _ _ (by omega) (by omega) (by omega)).trans d3
      · exact (i6 _ _ (by omega) (by omega) (by omega)).trans d4
      · exact (i6 _ _ (by omega) (by omega) (by omega)).trans d5
      · exact (i6 _ _ (by omega) (by omega) (by omega)).trans (d6 l hl)
      · exact ⟨(i6 _ _ (by omega) (by omega) (by omega)).trans (d7 x hx).1, (i6 _ _ (by omega) (by omega) (by omega)).trans (d7 x hx).2⟩
      · exact (i6 _ _ (by omega) (by omega) (by omega)).trans (d8 x hx l hl)
      · refine nmm_add hM rfl ((n6 _ _ (by omega)).trans x20) (fun k hk => i6 _ _ (by omega) (by omega) (by omega)) (fun k hk => ?_) ((n6 _ _ (by omega)).trans x236) ((l6 _).trans x235) ?_ (fun i hi => rfl) (Or.inl ⟨rfl, rfl⟩)
        · rw [l6, f5.l 231 k (by omega), l4]
        · show nl (sV s) + nh (sV s) + (nm (sV s) + 1) = _; omega
end MS
