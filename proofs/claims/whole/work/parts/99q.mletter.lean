/-! Level 3, read: the reference tells a letter. -/
section MQ
variable {L wl dr tx : Nat} {c : Nat → Int} {N d : Nat} {w : Wd}
theorem m_tellLetter {t1 : Nat} {s : Sst} (hd : d ≤ 1) (hO : Ok L wl dr tx w) (hT : MT c N w) (h : MDR c N d w s t1) (h6 : nl (sV s) < 6) : Wp (Mo_tellLetter 223 w) (SMR c N d w (sb (ex (kK c N) 1 t1) (fun t2 => sb (ex (kK c N) 2 t2) (fun t3 => sb (ex (kK c N) 4 t3) (fun t4 => .inr (t4, uLetter (kV c N) (kN c N) s t1 t2)))))) := by
  obtain ⟨⟨a13, a12, a19⟩, hC, hN, hD, hL, hM⟩ := h
  obtain ⟨⟨b1, b2, b3⟩, ⟨d0, d1, d2, d3, d4, d5⟩, d6, d7, d8⟩ := hD
  unfold Mo_tellLetter Mo_tellLetter_0
  refine wp_gd hO rfl (wp_call (m_named (by omega) hO hT a13 hC hN hM) (fun r g => ?_))
  obtain ⟨r1, w1⟩ := r
  obtain ⟨g0, f1, g⟩ := g
  have g0 : r1 = (t1 : Int) := g0
  have f1 : Fr PBd w w1 := f1
  have g : match ex (kK c N) 1 t1 with
    | .inl e => ERR c N w1 e
    | .inr t' => wI w1 223 13 = 0 ∧ MCU c N w1 t' ∧ NTM c N w1 (nmd (kN c N) (sA s) (sT s) t1) t' := g
  have hO1 := f1.ok hO
  have i1 : ∀ a k, (a = 223 → k = 12 ∨ k = 19 ∨ k = 20 ∨ k = 35 ∨ k = 41) → wI w1 a k = wI w a k := fun a k q => f1.at a k (by unfold PBd; omega)
  show Wp ((fgR w1 223 12 24).bind _) _
  refine wp_R12_24 hO1 (wp_gI hO1 rfl (wp_R12_23 hO1 (wp_gI hO1 rfl ?_)))
  rw [i1 223 19 (by omega), a19]
  refine wp_rI hO1 rfl (by omega) ?_
  rw [Int.toNat_natCast, i1 233 d (by omega), d0, w32_id (z := 6 * (d : Int)) (by omega) (by omega), w32_id (by omega) (by omega), show 6 * (d : Int) + (nl (sV s) : Int) = ((6 * d + nl (sV s) : Nat) : Int) by omega]
  generalize hx1 : ex (kK c N) 1 t1 = y1 at g
  cases y1 with
  | inl e =>
    refine wp_eq (m_boundedF hO1 (err_pos g)) (wp_wI hO1 rfl (by omega) ?_)
    rw [Int.toNat_natCast]
    have E2 : ERR c N (sI w1 234 (6 * d + nl (sV s)) 0) e := g.eq (fun k q => wI_ne (by omega))
    have p2 := err_pos E2
    show Wp ((Mo_must 223 4 (sI w1 234 (6 * d + nl (sV s)) 0)).bind _) _
    exact wp_eq (m_mustF hO1.sI p2) (wp_gI hO1.sI rfl (wp_neg (by omega) (wp_ret ⟨(bd_ms f1).sI (by unfold PMs; omega), E2⟩)))
  | inr t2 =>
    have e1 := ex_inr hx1
    obtain ⟨c13, cC, cN⟩ := g
    refine wp_call (m_bounded (most := 99) hO1 (hT.bd f1) c13 cC cN) (fun r g => ?_)
    obtain ⟨v2, w2⟩ := r
    obtain ⟨f2, g⟩ := g
    have f2 : Fr PBd w1 w2 := f2
    have f2' : Fr PBd w w2 := f1.tr f2
    have hO2 := f2.ok hO1
    show Wp ((wrI w2 234 ((6 * d + nl (sV s) : Nat) : Int) v2).bind _) (SMR c N d w (sb (ex (kK c N) 2 t2) (fun t3 => sb (ex (kK c N) 4 t3) (fun t4 => .inr (t4, uLetter (kV c N) (kN c N) s t1 t2)))))
    have g : match ex (kK c N) 2 t2 with
      | .inl e => ERR c N w2 e
      | .inr t' => wI w2 223 13 = 0 ∧ MCU c N w2 t' ∧ NTM c N w2 (ind (kV c N) 99 (nmd (kN c N) (sA s) (sT s) t1) t2) t' ∧ v2 = kV c N t2 := g
    refine wp_wI hO2 rfl (by omega) ?_
    rw [Int.toNat_natCast]
    generalize hw3 : sI w2 234 (6 * d + nl (sV s)) v2 = w3
    have hO3 : Ok L wl dr tx w3 := by rw [← hw3]; exact hO2.sI
    have f3 : FL (PMs d) QMs w w3 := by rw [← hw3]; exact (bd_ms f2').sI (by unfold PMs; omega)
    have n3 : ∀ a k, a ≠ 234 ∨ k ≠ 6 * d + nl (sV s) → wI w3 a k = wI w2 a k := fun a k q => by rw [← hw3, wI_ne q]
    have v3 : wI w3 234 (6 * d + nl (sV s)) = v2 := by rw [← hw3, wI_eq]
    have l3 : ∀ a k, wL w3 a k = wL w a k := fun a k => by rw [← hw3, wL_sI, f2'.2.2.2.1]
    clear hw3
    generalize hx2 : ex (kK c N) 2 t2 = y2 at g
    cases y2 with
    | inl e =>
      have E3 : ERR c N w3 e := g.eq (fun k q => n3 _ _ (by omega))
      have p3 := err_pos E3
      exact wp_eq (m_mustF hO3 p3) (wp_gI hO3 rfl (wp_neg (by omega) (wp_ret ⟨f3, E3⟩)))
    | inr t3 =>
      have e2 := ex_inr hx2
      obtain ⟨g13, gC, gN, gv⟩ := g
      refine wp_call (m_must (x := 4) hO3 (hT.ms f3) ⟨gC.1, (n3 _ _ (by omega)).trans gC.2⟩ ((n3 _ _ (by omega)).trans g13) (by omega)) (fun w4 g => ?_)
      obtain ⟨f4, g⟩ := g
      have hO4 := f4.ok hO3
      have f4' : FL (PMs d) QMs w w4 := f3.tr (go_ms f4)
      show Wp _ (SMR c N d w (sb (ex (kK c N) 4 t3) (fun t4 => .inr (t4, uLetter (kV c N) (kN c N) s t1 t2))))
      generalize hx4 : ex (kK c N) 4 t3 = y4 at g
      refine wp_gI hO4 rfl ?_
      cases y4 with
      | inl e =>
        have p4 := err_pos g
        exact wp_neg (by omega) (wp_ret ⟨f4', g⟩)
      | inr t4 =>
        have e4 := ex_inr hx4
        obtain ⟨k13, kC⟩ := g.symm
        have i4 : ∀ a k, (a = 223 → k = 12 ∨ k = 19 ∨ k = 20 ∨ k = 35 ∨ k = 41) → (a = 234 → k ≠ 6 * d + nl (sV s)) → wI w4 a k = wI w a k := fun a k q1 q2 => by rw [f4.at a k (by unfold PGo; omega), n3 a k (by omega), f2'.at a k (by unfold PBd; omega)]
        have l4 : ∀ a k, wL w4 a k = wL w a k := fun a k => by rw [f4.2.2.2.1]; exact l3 a k
        have v4 : wI w4 234 (6 * d + nl (sV s)) = kV c N t2 := by rw [f4.at _ _ (by unfold PGo; omega), v3, gv]
        have N4 : NTM c N w4 (ind (kV c N) 99 (nmd (kN c N) (sA s) (sT s) t1) t2) t4 := gN.eq (fun k q => (f4.at _ _ (by unfold PGo; omega)).trans (n3 _ _ (by omega))) (by omega)
        have h20 : wI w4 223 20 = ((nl (sV s) + nh (sV s) + nm (sV s) : Nat) : Int) := (i4 _ _ (by omega) (by omega)).trans hM.1
        show Wp ((if wI w4 223 13 ≤ 0 then _ else _)) _
        refine wp_pos (by omega) ?_
        rw [g0]
        refine wp_call (m_notes (x := -1) hO4 (hT.ms f4') hC.1 e1.1 h20 (by omega)) (fun w5 g => ?_)
        obtain ⟨f5, x20, x236, x235⟩ := g
        have hO5 := f5.ok hO4
        refine wp_R12_23 hO5 (wp_gI hO5 rfl ?_)
        rw [f5.i 223 19 (by omega), i4 223 19 (by omega) (by omega), a19]
        refine wp_rI hO5 rfl (by omega) ?_
        rw [Int.toNat_natCast, f5.i 233 d (by omega), i4 233 d (by omega) (by omega), d0, w32_id (by omega) (by omega)]
        refine wp_wI hO5 rfl (by omega) (wp_ret ?_)
        rw [Int.toNat_natCast]
        generalize hw6 : sI w5 233 d ((nl (sV s) : Int) + 1) = w6
        have f6 : FL (PMs d) QMs w w6 := by rw [← hw6]; exact (f4'.tr (f5.mono (fun a k q => by unfold PMs; omega) (fun a k q => q.1))).sI (by unfold PMs RG; omega)
        have n6 : ∀ a k, a ≠ 233 → wI w6 a k = wI w5 a k := fun a k q => by rw [← hw6, wI_ne (by omega)]
        have v6 : wI w6 233 d = (nl (sV s) : Int) + 1 := by rw [← hw6, wI_eq]
        have l6 : ∀ k, wL w6 231 k = wL w5 231 k := fun k => by rw [← hw6, wL_sI]
        clear hw6
        have i6 : ∀ a k, a ≠ 233 → (a = 223 → k = 12 ∨ k = 19 ∨ k = 35 ∨ k = 41) → (a = 232 → k ≠ nl (sV s) + nh (sV s) + nm (sV s)) → (a = 234 → k ≠ 6 * d + nl (sV s)) → wI w6 a k = wI w a k := fun a k q0 q1 q2 q3 => by rw [n6 a k q0, f5.i a k (by omega), i4 a k (by omega) q3]
        refine ⟨f6, ⟨?_, (i6 _ _ (by omega) (by omega) (by omega) (by omega)).trans a12, (i6 _ _ (by omega) (by omega) (by omega) (by omega)).trans a19⟩, ⟨kC.1, ?_⟩, N4.eq (fun k q => (n6 _ _ (by omega)).trans (f5.i _ _ (by omega))) (Nat.le_refl _), ⟨⟨by show nl (sV s) + 1 ≤ 6; omega, b2, b3⟩, ⟨?_, ?_, ?_, ?_, ?_, ?_⟩, fun l hl => ?_, fun x hx => ?_, fun x hx l hl => ?_⟩, mlx_eq hL (fun a k q1 q2 => i6 a k (by omega) (by omega) (by omega) (by omega)) (fun k q => i6 _ _ (by omega) (by omega) (by omega) (by omega)) (by show t1 ≤ t4; omega) rfl, ?_⟩
        · rw [n6 _ _ (by omega), f5.i _ _ (by omega), k13]
        · rw [n6 _ _ (by omega), f5.i _ _ (by omega)]; exact kC.2
        · rw [v6]; show (nl (sV s) : Int) + 1 = ((nl (sV s) + 1 : Nat) : Int); omega
        · exact (i6 _ _ (by omega) (by omega) (by omega) (by omega)).trans d1
        · exact (i6 _ _ (by omega) (by omega) (by omega) (by omega)).trans d2
        · exact (i6 _ _ (by omega) (by omega) (by omega) (by omega)).trans d3
        · exact (i6 _ _ (by omega) (by omega) (by omega) (by omega)).trans d4
        · exact (i6 _ _ (by omega) (by omega) (by omega) (by omega)).trans d5
        · have hl : l < nl (sV s) + 1 := hl
          show wI w6 234 (6 * d + l) = if l = nl (sV s) then kV c N t2 else sH s l
          by_cases e : l = nl (sV s)
          · rw [if_pos e, e, n6 _ _ (by omega), f5.i _ _ (by omega), v4]
          · rw [if_neg e]
            exact (i6 _ _ (by omega) (by omega) (by omega) (by omega)).trans (d6 l (by omega))
        · exact ⟨(i6 _ _ (by omega) (by omega) (by omega) (by omega)).trans (d7 x hx).1, (i6 _ _ (by omega) (by omega) (by omega) (by omega)).trans (d7 x hx).2⟩
        · exact (i6 _ _ (by omega) (by omega) (by omega) (by omega)).trans (d8 x hx l hl)
        · refine nmm_add hM rfl ((n6 _ _ (by omega)).trans x20) (fun k hk => i6 _ _ (by omega) (by omega) (by omega) (by omega)) (fun k hk => ?_) ((n6 _ _ (by omega)).trans x236) ((l6 _).trans x235) ?_ (fun i hi => rfl) (Or.inl ⟨rfl, rfl⟩)
          · rw [l6, f5.l 231 k (by omega), l4]
          · show nl (sV s) + 1 + nh (sV s) + nm (sV s) = _; omega
end MQ
