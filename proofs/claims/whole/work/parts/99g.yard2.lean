/-! Level 3, read: the reference's terms: ends, closings, operands. -/
section YB
variable {L wl dr tx : Nat} {c : Nat → Int} {N cb z0 : Nat} {w w0 : Wd}
/-- neither an operator nor a closing one: the term ends here, or it is a fault -/
theorem y_end {Q : Wd → Prop} {S : List Nat} {m t d cc : Nat} {k12 : Nat → Int → Int → Wd → Option Wd} (hcb : cb ≤ 420) (hO0 : Ok L wl dr tx w0) (hT0 : MT c N w0) (hm : 0 < m) (hY : YS c N cb w S cc t d) (hF : Fr (PE cb z0) w0 w) (h0 : z0 ≤ cc) (hk : kK c N t ≠ 8 ∧ kK c N t ≠ 9 ∧ kK c N t ≠ 10 ∧ kK c N t ≠ 15) (hk7 : kK c N t ≠ 7 ∨ d = 0)
    (hbad : 0 < d → ∀ w1, ERR c N w1 (1, t) → Fr (PE cb z0) w0 w1 → Q w1)
    (hfin : d = 0 → ∀ q S1 w1, S = q ++ S1 → outs false q → stops false S1 → wI w1 223 13 = 0 → MCU c N w1 t → wI w1 223 12 = 0 → wI w1 223 41 = ((cc + q.length : Nat) : Int) → mcode w1 cc (fls q) → KEEP w w1 cc → Fr (PE cb z0) w0 w1 → Q w1) :
    Wp (Mo_expression_96 k12 m 223 0 w) Q := by
  obtain ⟨y1, y2, y3, ⟨y4, y5, y6⟩, y7, y8, y9, y10⟩ := hY
  have hO := hF.ok hO0
  have hT := hT0.pe hF
  have h4 := y2.1.1
  obtain ⟨m', rfl⟩ : ∃ m', m = m' + 1 := ⟨m - 1, by omega⟩
  have key : Wp (Mo_expression_145 k12 223 0 w) Q := by
    have i8 := q_is (x := 8) hO hT y2 y1
    have i9 := q_is (x := 9) hO hT y2 y1
    have i10 := q_is (x := 10) hO hT y2 y1
    have i15 := q_is (x := 15) hO hT y2 y1
    rw [if_neg hk.1] at i8
    rw [if_neg hk.2.1] at i9
    rw [if_neg hk.2.2.1] at i10
    rw [if_neg hk.2.2.2] at i15
    unfold Mo_expression_145
    refine wp_eq i8 (wp_pos rfl (wp_eq i9 (wp_pos rfl (wp_eq i10 (wp_pos rfl (wp_eq i15 (wp_pos rfl ?_)))))))
    unfold Mo_expression_186 Mo_expression_191
    refine wp_pos rfl (wp_gI hO rfl ?_)
    show Wp (if wI w 223 12 ≤ 0 then _ else _) _
    rw [y3]
    by_cases d0 : d = 0
    · refine wp_pos (by omega) (y_last (z0 := z0) hcb hO y5 y6 y4 y7 (by omega) (by omega) h0 (fun q S1 w1 e1 e2 e3 f1 n1 g1 g2 g3 => ?_))
      exact hfin d0 q S1 w1 e1 e2 e3 ((n1 13 (by omega) (by omega)).trans y1) ⟨y2.1, (n1 11 (by omega) (by omega)).trans y2.2⟩ (by rw [n1 12 (by omega) (by omega), y3, d0]; rfl) g1 g2 g3 (hF.tr f1)
    · refine wp_neg (by omega) (wp_call (m_fail (x := 1) (by omega) hO hT y2 y1) (fun w1 g => ?_))
      obtain ⟨f1, g⟩ := g
      have f1' : Fr (PE cb z0) w0 w1 := hF.tr (f1.mono (fun a k q => by unfold PFl at q; unfold PE; omega))
      exact y_last (z0 := z0) hcb (f1.ok hO) (wst_eq _ (fun k _ => f1.at 252 k (by unfold PFl; omega)) y5) y6 ((f1.at 223 45 (by unfold PFl; omega)).trans y4) ((f1.at 223 41 (by unfold PFl; omega)).trans y7) (by omega) (by omega) h0 (fun q S1 w2 _ _ _ f2 n2 _ _ _ => hbad (by omega) w2 (g.eq (fun k q => n2 k (by omega) (by omega))) (f1'.tr f2))
  rw [Mo_expression_96]
  refine wp_eq (q_is (x := 7) hO hT y2 y1) ?_
  by_cases k7 : kK c N t = 7
  · rw [if_pos k7]
    refine wp_neg (show ¬ (1 : Int) = 0 by decide) (wp_gI hO rfl ?_)
    show Wp (if wI w 223 12 ≤ 0 then _ else _) _
    rw [y3]
    exact wp_pos (by omega) key
  · rw [if_neg k7]
    exact wp_pos rfl key
/-- a closing one -/
theorem y_close {Q : Wd → Prop} {q S : List Nat} {m t d cc : Nat} {k12 : Nat → Int → Int → Wd → Option Wd} (hcb : cb ≤ 420) (hO0 : Ok L wl dr tx w0) (hT0 : MT c N w0) (hm : 1 < m) (hY : YS c N cb w (q ++ 6 :: S) cc t (d + 1)) (hF : Fr (PE cb z0) w0 w) (h0 : z0 ≤ cc) (hk : kK c N t = 7) (hq : outs false q) (hS : S.length ≤ 3 * d + 2)
    (h400 : ∀ e, ps1 t = .inl e → ∀ w1, ERR c N w1 e → Fr (PE cb z0) w0 w1 → Q w1)
    (hgo : ps1 t = .inr (t + 1) → ∀ w1, YS c N cb w1 S (cc + q.length) (t + 1) d → mcode w1 cc (fls q) → KEEP w w1 cc → Fr (PE cb z0) w0 w1 → Wp (Mo_expression_96 k12 (m - 1) 223 0 w1) Q) :
    Wp (Mo_expression_96 k12 m 223 0 w) Q := by
  obtain ⟨y1, y2, y3, ⟨y4, y5, y6⟩, y7, y8, y9, y10⟩ := hY
  have hO := hF.ok hO0
  have hT := hT0.pe hF
  have h4 := y2.1.1
  have hn := nop_app (S := 6 :: S) q hq
  have hn6 : nop (6 :: S) = nop S := by show (if (6 : Nat) = 6 then 0 else 1) + nop S = nop S; rw [if_pos rfl]; omega
  have hql : (q ++ 6 :: S).length = q.length + (S.length + 1) := by simp
  obtain ⟨m', rfl⟩ : ∃ m', m = m' + 1 := ⟨m - 1, by omega⟩
  rw [Mo_expression_96]
  have i7 := q_is (x := 7) hO hT y2 y1
  rw [if_pos hk] at i7
  refine wp_eq i7 (wp_neg (show ¬ (1 : Int) = 0 by decide) (wp_gI hO rfl ?_))
  show Wp (if wI w 223 12 ≤ 0 then _ else _) _
  rw [y3]
  refine wp_neg (by omega) (wp_call (m_out (b := false) (S := 6 :: S) rfl (Or.inl rfl) hO hq y5 y4 y7 (by omega) (by omega)) (fun w1 g => ?_))
  obtain ⟨g1, g2, g3, g4, g5⟩ := g
  have f1 : Fr (PE cb z0) w0 w1 := hF.tr (co_pe g1 h0 (by omega))
  have hO1 := g1.ok hO
  refine wp_gI hO1 rfl ?_
  rw [g3, show ((6 :: S).length : Int) = (S.length : Int) + 1 by simp, w32_id (by omega) (by omega), show (S.length : Int) + 1 - 1 = (S.length : Int) by omega]
  refine wp_pI hO1 rfl ?_
  generalize hw2 : sI w1 223 45 (S.length : Int) = w2
  have hO2 : Ok L wl dr tx w2 := by rw [← hw2]; exact hO1.sI
  have f2 : Fr (PE cb z0) w0 w2 := by rw [← hw2]; exact f1.sI (by unfold PE; omega)
  have n2 : ∀ a k, a ≠ 223 ∨ k ≠ 45 → wI w2 a k = wI w1 a k := fun a k q => by rw [← hw2, wI_ne (by omega)]
  have v2 : wI w2 223 45 = (S.length : Int) := by rw [← hw2, wI_eq]
  clear hw2
  refine wp_gI hO2 rfl ?_
  rw [n2 _ _ (by omega), g1.at 223 12 (by unfold PCo; omega), y3, w32_id (by omega) (by omega), show ((d + 1 : Nat) : Int) - 1 = (d : Int) by omega]
  refine wp_pI hO2 rfl ?_
  generalize hw3 : sI w2 223 12 (d : Int) = w3
  have hO3 : Ok L wl dr tx w3 := by rw [← hw3]; exact hO2.sI
  have f3 : Fr (PE cb z0) w0 w3 := by rw [← hw3]; exact f2.sI (by unfold PE; omega)
  have n3 : ∀ a k, a ≠ 223 ∨ (k ≠ 45 ∧ k ≠ 12) → wI w3 a k = wI w1 a k := fun a k q => by rw [← hw3, wI_ne (by omega), n2 a k (by omega)]
  have v3 : wI w3 223 45 = (S.length : Int) := by rw [← hw3, wI_ne (by omega), v2]
  have u3 : wI w3 223 12 = (d : Int) := by rw [← hw3, wI_eq]
  clear hw3
  have C3 : MCU c N w3 t := ⟨y2.1, (n3 _ _ (by omega)).trans ((g1.at 223 11 (by unfold PCo; omega)).trans y2.2)⟩
  have z3 : wI w3 223 13 = 0 := by rw [n3 _ _ (by omega), g1.at 223 13 (by unfold PCo; omega), y1]
  refine wp_call (m_goesOn hO3 (hT0.pe f3) C3 z3 (by omega)) (fun w4 g => ?_)
  obtain ⟨f4, g⟩ := g
  have f4' : Fr (PE cb z0) w0 w4 := f3.tr (f4.mono (fun a k q => by unfold PGo at q; unfold PE; omega))
  have hO4 := f4'.ok hO0
  have s4 : wst w4 S := wst_eq _ (fun k _ => (f4.at 252 k (by unfold PGo; omega)).trans (n3 _ _ (by omega))) g2.2
  have v4 : vst S := fun k hk' => y6 k (List.mem_append_right _ (List.mem_cons_of_mem _ hk'))
  have w45 : wI w4 223 45 = (S.length : Int) := (f4.at 223 45 (by unfold PGo; omega)).trans v3
  have w41 : wI w4 223 41 = ((cc + q.length : Nat) : Int) := by rw [f4.at 223 41 (by unfold PGo; omega), n3 _ _ (by omega), g4]
  generalize hp : ps1 t = p at g
  cases p with
  | inl e => exact y_dead (z0 := z0) hcb (by omega) hO4 g s4 v4 w45 w41 (by omega) (by omega) (by omega) f4' (fun w5 h5 f5 => h400 e hp w5 h5 f5)
  | inr t' =>
    obtain ⟨g6, g7⟩ := g
    obtain ⟨p1, rfl⟩ := ps1_inr hp
    refine hgo hp w4 ⟨g7, g6, (f4.at 223 12 (by unfold PGo; omega)).trans u3, ⟨w45, s4, v4⟩, w41, by omega, hS, by omega⟩ (mcode_ag _ _ (fun k k1 k2 => ⟨(f4.at 250 k (by unfold PGo; omega)).trans (n3 _ _ (by omega)), (f4.at 251 k (by unfold PGo; omega)).trans (n3 _ _ (by omega))⟩) g5) (fun k hk' => ⟨?_, ?_⟩) f4'
    · rw [f4.at 250 k (by unfold PGo; omega), n3 _ _ (by omega), g1.at 250 k (by unfold PCo; omega)]
    · rw [f4.at 251 k (by unfold PGo; omega), n3 _ _ (by omega), g1.at 251 k (by unfold PCo; omega)]
theorem m_unitF (hO : Ok L wl dr tx w) (h0 : 0 < wI w 223 13) : Mo_unit 223 w = some w := by
  refine wp_out ?_
  unfold Mo_unit Mo_unit_0 Mo_unit_125 Mo_unit_130
  refine wp_gd hO rfl (wp_eq (q_isF hO h0) (wp_pos rfl (wp_gI hO rfl (wp_neg ?_ (wp_eq (m_failF hO h0) (wp_ret rfl))))))
  show ¬ wI w 223 13 = 0
  omega
/-- behind a fault no operand is looked for -/
theorem y_deadop {Q : Wd → Prop} {e : Ft} {m : Nat} {k12 : Nat → Int → Int → Wd → Option Wd} (hm : 0 < m) (hO : Ok L wl dr tx w) (hE : ERR c N w e) (hq : Q w) : Wp (Mo_expression_23 k12 m 223 0 w) Q := by
  have hf : 0 < wI w 223 13 := by have := hE.1; have := hE.2.1; omega
  obtain ⟨m', rfl⟩ : ∃ m', m = m' + 1 := ⟨m - 1, by omega⟩
  rw [Mo_expression_23]
  unfold Mo_expression_84
  refine wp_eq (q_isF hO hf) (wp_pos rfl (wp_eq (m_unitF hO hf) (wp_gI hO rfl (wp_neg ?_ (wp_ret hq)))))
  show ¬ wI w 223 13 ≤ 0
  omega
/-- an operand that is one token -/
theorem m_unit1 {t cc : Nat} {k : Nat} {v : Int} (hcb : cb ≤ 420) (hO : Ok L wl dr tx w) (hT : MT c N w) (hC : MCU c N w t) (h13 : wI w 223 13 = 0) (h41 : wI w 223 41 = (cc : Int)) (hz : cc + 2 ≤ cb + t) (hk : (kK c N t = 2 ∧ k = 0 ∧ v = kV c N t) ∨ (kK c N t = 20 ∧ k = 1 ∧ v = 1) ∨ ((31 ≤ kK c N t ∧ kK c N t ≤ 36) ∧ k = 1 ∧ v = if kK c N t = 31 then 0 else (kK c N t : Int) - 30)) : Wp (Mo_unit 223 w) (fun w1 => Fr (fun a i => (a = 223 ∧ (i = 11 ∨ i = 13 ∨ i = 14 ∨ i = 41)) ∨ ((a = 250 ∨ a = 251) ∧ i = cc)) w w1 ∧ wI w1 223 41 = ((cc + 1 : Nat) : Int) ∧ wI w1 250 cc = (k : Int) ∧ wI w1 251 cc = v ∧ match ps1 t with
    | .inl e => ERR c N w1 e
    | .inr t' => MCU c N w1 t' ∧ wI w1 223 13 = 0) := by
  have h4 := hC.1.1
  have em : ∀ (x y : Int), x = (k : Int) → y = v → kK c N t ≠ 0 → Wp ((Mo_emit 223 x y w).bind fun r19 => (Mo_goesOn 223 r19).bind fun r23 => some r23) (fun w1 => Fr (fun a i => (a = 223 ∧ (i = 11 ∨ i = 13 ∨ i = 14 ∨ i = 41)) ∨ ((a = 250 ∨ a = 251) ∧ i = cc)) w w1 ∧ wI w1 223 41 = ((cc + 1 : Nat) : Int) ∧ wI w1 250 cc = (k : Int) ∧ wI w1 251 cc = v ∧ match ps1 t with
    | .inl e => ERR c N w1 e
    | .inr t' => MCU c N w1 t' ∧ wI w1 223 13 = 0) := by
    intro x y hx hy hk0
    rw [hx, hy]
    refine wp_call (m_emit hO (by omega) h41) (fun w1 g => ?_)
    obtain ⟨f1, g0, g1, g2⟩ := g
    have hO1 := f1.ok hO
    have hT1 : MT c N w1 := hT.eq (fun a k q1 q2 => f1.at a k (by omega)) (fun k => by rw [f1.2.2.2.1])
    have C1 : MCU c N w1 t := ⟨hC.1, (f1.at 223 11 (by omega)).trans hC.2⟩
    refine wp_call (m_goesOn hO1 hT1 C1 ((f1.at 223 13 (by omega)).trans h13) hk0) (fun w2 g => wp_ret ?_)
    obtain ⟨f2, g⟩ := g
    exact ⟨(f1.mono (fun a i q => by omega)).tr (f2.mono (fun a i q => by unfold PGo at q; omega)), (f2.at 223 41 (by unfold PGo; omega)).trans g0, (f2.at 250 cc (by unfold PGo; omega)).trans g1, (f2.at 251 cc (by unfold PGo; omega)).trans g2, g⟩
  unfold Mo_unit Mo_unit_0 Mo_unit_64 Mo_unit_73 Mo_unit_115 Mo_unit_130
  have i2 := q_is (x := 2) hO hT hC h13
  have i20 := q_is (x := 20) hO hT hC h13
  have i31 := q_is (x := 31) hO hT hC h13
  obtain ⟨r1, r2, r3, r4⟩ := hT t hC.1.1 hC.1.2
  rcases hk with ⟨hk, hk1, hv⟩ | ⟨hk, hk1, hv⟩ | ⟨hk, hk1, hv⟩
  · rw [if_pos hk] at i2
    refine wp_gd hO rfl (wp_eq i2 (wp_neg one_ne (wp_R12_7 hO (wp_gI hO rfl ?_))))
    rw [show wI (1, w).2 223 11 = wI w 223 11 from rfl, hC.2]
    refine wp_rI hO rfl (by omega) ?_
    rw [Int.toNat_natCast, show wI (1, w).2 228 t = wI w 228 t from rfl, r3 hk]
    exact em 0 _ (by rw [hk1]; rfl) hv.symm (by omega)
  · rw [if_neg (by omega)] at i2
    rw [if_pos hk] at i20
    refine wp_gd hO rfl (wp_eq i2 (wp_pos rfl (wp_gI hO rfl (wp_pos h13 (wp_R12_5 hO (wp_gI hO rfl ?_))))))
    rw [show wI (0, w).2 223 11 = wI w 223 11 from rfl, hC.2]
    refine wp_rI hO rfl (by omega) ?_
    rw [Int.toNat_natCast, show wI (0, w).2 226 t = wI w 226 t from rfl, r1]
    refine wp_pos (by omega) (wp_eq i20 (wp_neg one_ne (wp_eq i20 (wp_neg one_ne ?_))))
    exact em 1 1 (by rw [hk1]; rfl) hv.symm (by omega)
  · rw [if_neg (by omega)] at i2 i20
    refine wp_gd hO rfl (wp_eq i2 (wp_pos rfl (wp_gI hO rfl (wp_pos h13 (wp_R12_5 hO (wp_gI hO rfl ?_))))))
    rw [show wI (0, w).2 223 11 = wI w 223 11 from rfl, hC.2]
    refine wp_rI hO rfl (by omega) ?_
    rw [Int.toNat_natCast, show wI (0, w).2 226 t = wI w 226 t from rfl, r1]
    refine wp_neg (by omega) (wp_R12_5 hO (wp_gI hO rfl ?_))
    rw [show wI (0, w).2 223 11 = wI w 223 11 from rfl, hC.2]
    refine wp_rI hO rfl (by omega) ?_
    rw [Int.toNat_natCast, show wI (0, w).2 226 t = wI w 226 t from rfl, r1]
    refine wp_pos (by omega) (wp_eq i20 (wp_pos rfl (wp_eq i31 ?_)))
    by_cases k31 : kK c N t = 31
    · rw [if_pos k31] at hv ⊢
      exact wp_neg one_ne (em 1 0 (by rw [hk1]; rfl) hv.symm (by omega))
    · rw [if_neg k31] at hv ⊢
      refine wp_pos rfl (wp_R12_5 hO (wp_gI hO rfl ?_))
      rw [show wI (0, w).2 223 11 = wI w 223 11 from rfl, hC.2]
      refine wp_rI hO rfl (by omega) ?_
      rw [Int.toNat_natCast, show wI (0, w).2 226 t = wI w 226 t from rfl, r1, w32_id (z := (kK c N t : Int) - 32) (by omega) (by omega), w32_id (by omega) (by omega)]
      exact em 1 _ (by rw [hk1]; rfl) (by rw [hv]; omega) (by omega)
theorem m_unit0 {t : Nat} (hO : Ok L wl dr tx w) (hT : MT c N w) (hC : MCU c N w t) (h13 : wI w 223 13 = 0) (hk : kK c N t ≠ 2 ∧ kK c N t ≠ 20 ∧ ¬ (31 ≤ kK c N t ∧ kK c N t ≤ 36)) : Wp (Mo_unit 223 w) (fun w1 => Fr PFl w w1 ∧ ERR c N w1 (1, t)) := by
  have h4 := hC.1.1
  have i2 := q_is (x := 2) hO hT hC h13
  have i20 := q_is (x := 20) hO hT hC h13
  rw [if_neg hk.1] at i2
  rw [if_neg hk.2.1] at i20
  have fl : Wp ((Mo_is 223 20 w).bind fun r67 => if (r67.1 : Int) = 0 then (Mo_fail 223 1 r67.2).bind fun r127 => some r127 else Mo_unit_73 223 r67.2) (fun w1 => Fr PFl w w1 ∧ ERR c N w1 (1, t)) := wp_eq i20 (wp_pos rfl (wp_call (m_fail (x := 1) (by omega) hO hT hC h13) (fun w1 g => wp_ret g)))
  obtain ⟨r1, r2, r3, r4⟩ := hT t hC.1.1 hC.1.2
  unfold Mo_unit Mo_unit_0 Mo_unit_64 Mo_unit_125 Mo_unit_130
  refine wp_gd hO rfl (wp_eq i2 (wp_pos rfl (wp_gI hO rfl (wp_pos h13 (wp_R12_5 hO (wp_gI hO rfl ?_))))))
  rw [show wI (0, w).2 223 11 = wI w 223 11 from rfl, hC.2]
  refine wp_rI hO rfl (by omega) ?_
  rw [Int.toNat_natCast, show wI (0, w).2 226 t = wI w 226 t from rfl, r1]
  refine wp_ite (fun _ => fl) (fun q => wp_R12_5 hO (wp_gI hO rfl ?_))
  rw [show wI (0, w).2 223 11 = wI w 223 11 from rfl, hC.2]
  refine wp_rI hO rfl (by omega) ?_
  rw [Int.toNat_natCast, show wI (0, w).2 226 t = wI w 226 t from rfl, r1]
  exact wp_neg (by omega) fl
end YB
