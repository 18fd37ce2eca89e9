/-! Level 3, read: the reference tells an heir, whole. -/
section MU
variable {L wl dr tx : Nat} {c : Nat → Int} {N d : Nat} {w : Wd}
theorem m_tellHeir {t1 : Nat} {s : Sst} (hd : d ≤ 1) (hO : Ok L wl dr tx w) (hT : MT c N w) (h : MDR c N d w s t1) (h6 : nh (sV s) < 6) : Wp (Mo_tellHeir 223 w) (SMR c N d w (sb (ex (kK c N) 1 t1) (fun t2 => sb (ex (kK c N) 2 t2) (fun t3 => sb (ex (kK c N) 2 t3) (fun t4 => sb (hsh (kK c N) (kV c N) 6 0 t4 (fun _ => 50) (ind (kV c N) 9 (ind (kV c N) 99 (nmd (kN c N) (sA s) (sT s) t1) t2) t3)) (fun q => sb (ex (kK c N) 4 q.1) (fun t5 => .inr (t5, uHeir (kV c N) (kN c N) s t1 t2 t3 q.2.1 q.2.2)))))))) := by
  have hh := h
  obtain ⟨⟨a13, a12, a19⟩, hC, hN, hD, -, hM⟩ := h
  obtain ⟨⟨b1, b2, b3⟩, ⟨d0, d1, d2, d3, d4, d5⟩, d6, d7, d8⟩ := hD
  unfold Mo_tellHeir Mo_tellHeir_0
  generalize hFU : FU = fu; have hfu : 1000000 = fu := hFU
  refine wp_gd hO rfl (wp_gI hO rfl (wp_R12_25 hO (wp_gI hO rfl ?_)))
  rw [a19]
  refine wp_rI hO rfl (by omega) ?_
  rw [Int.toNat_natCast, d1, w32_id (z := 6 * (d : Int)) (by omega) (by omega), w32_id (z := 6 * (d : Int) + (nh (sV s) : Int)) (by omega) (by omega), show 6 * (d : Int) + (nh (sV s) : Int) = ((6 * d + nh (sV s) : Nat) : Int) by omega]
  generalize hX : 6 * d + nh (sV s) = X
  have hX12 : X < 12 := by omega
  refine wp_call (m_named (by omega) hO hT a13 hC hN hM) (fun r g => ?_)
  obtain ⟨r1, w1⟩ := r
  obtain ⟨g0, f1, g⟩ := g
  have g0 : r1 = (t1 : Int) := g0
  have f1 : Fr PBd w w1 := f1
  have g : match ex (kK c N) 1 t1 with
    | .inl e => ERR c N w1 e
    | .inr t' => wI w1 223 13 = 0 ∧ MCU c N w1 t' ∧ NTM c N w1 (nmd (kN c N) (sA s) (sT s) t1) t' := g
  clear d0 d1 d2 d3 d4 d5 d6 d7 d8 hM hN
  have hO1 := f1.ok hO
  have bad : ∀ (w3 : Wd) (e : Ft), ERR c N w3 e → FL (PMs d) QMs w w3 → Wp (Mo_tellHeir_51 fu 223 (X : Int) r1 0 w3) (SMR c N d w (.inl e)) := fun w3 e E3 f3 => wp_use (m_hF hX12 (by omega) (f3.ok hO) E3) (fun w4 g => ⟨f3.tr (g.1.mono (fun a k q => by unfold P42 at q; unfold PMs; omega)).fl, g.2⟩)
  have bad2 : ∀ (w3 : Wd) (e : Ft), ERR c N w3 e → FL (PMs d) QMs w w3 → Wp ((fgR w3 223 12 27).bind fun v37 => (Mo_bounded 223 0 9 w3).bind fun r45 => (wrI r45.2 v37 (X : Int) r45.1).bind fun w48 => Mo_tellHeir_51 fu 223 (X : Int) r1 0 w48) (SMR c N d w (.inl e)) := fun w3 e E3 f3 => by
    have hO3 := f3.ok hO
    refine wp_R12_27 hO3 (wp_eq (m_boundedF hO3 (err_pos E3)) (wp_wI hO3 rfl (by omega) ?_))
    rw [Int.toNat_natCast]
    exact bad _ e (E3.eq (fun k q => wI_ne (by omega))) (f3.sI (by unfold PMs RG; omega))
  show Wp ((fgR w1 223 12 26).bind fun v24 => (Mo_bounded 223 0 99 w1).bind fun r32 => (wrI r32.2 v24 (X : Int) r32.1).bind fun w35 => (fgR w35 223 12 27).bind fun v37 => (Mo_bounded 223 0 9 w35).bind fun r45 => (wrI r45.2 v37 (X : Int) r45.1).bind fun w48 => Mo_tellHeir_51 fu 223 (X : Int) r1 0 w48) _
  refine wp_R12_26 hO1 ?_
  generalize hx1 : ex (kK c N) 1 t1 = y1 at g
  cases y1 with
  | inl e =>
    refine wp_eq (m_boundedF hO1 (err_pos g)) (wp_wI hO1 rfl (by omega) ?_)
    rw [Int.toNat_natCast]
    exact bad2 _ e (g.eq (fun k q => wI_ne (by omega))) ((bd_ms f1).sI (by unfold PMs RG; omega))
  | inr t2 =>
    have e1 := ex_inr hx1
    obtain ⟨c13, cC, cN⟩ := g
    refine wp_call (m_bounded (most := 99) hO1 (hT.bd f1) c13 cC cN) (fun r g => ?_)
    obtain ⟨v2, w2⟩ := r
    obtain ⟨f2, g⟩ := g
    have f2' : Fr PBd w w2 := f1.tr f2
    have hO2 := f2'.ok hO
    have g : match ex (kK c N) 2 t2 with
      | .inl e => ERR c N w2 e
      | .inr t' => wI w2 223 13 = 0 ∧ MCU c N w2 t' ∧ NTM c N w2 (ind (kV c N) 99 (nmd (kN c N) (sA s) (sT s) t1) t2) t' ∧ v2 = kV c N t2 := g
    clear f1 f2 cC cN c13 hO1
    show Wp ((wrI w2 236 (X : Int) v2).bind _) (SMR c N d w (sb (ex (kK c N) 2 t2) (fun t3 => sb (ex (kK c N) 2 t3) (fun t4 => sb (hsh (kK c N) (kV c N) 6 0 t4 (fun _ => 50) (ind (kV c N) 9 (ind (kV c N) 99 (nmd (kN c N) (sA s) (sT s) t1) t2) t3)) (fun q => sb (ex (kK c N) 4 q.1) (fun t5 => .inr (t5, uHeir (kV c N) (kN c N) s t1 t2 t3 q.2.1 q.2.2)))))))
    refine wp_wI hO2 rfl (by omega) ?_
    rw [Int.toNat_natCast]
    generalize hw3 : sI w2 236 X v2 = w3
    have hO3 : Ok L wl dr tx w3 := by rw [← hw3]; exact hO2.sI
    have f3 : FL (PMs d) QMs w w3 := by rw [← hw3]; exact (bd_ms f2').sI (by unfold PMs RG; omega)
    have n3 : ∀ a k, a ≠ 236 ∨ k ≠ X → wI w3 a k = wI w2 a k := fun a k q => by rw [← hw3, wI_ne q]
    have v3 : wI w3 236 X = v2 := by rw [← hw3, wI_eq]
    have l3 : ∀ k, wL w3 231 k = wL w 231 k := fun k => by rw [← hw3, wL_sI, f2'.2.2.2.1]
    clear hw3
    generalize hx2 : ex (kK c N) 2 t2 = y2 at g
    cases y2 with
    | inl e => exact bad2 w3 e (g.eq (fun k q => n3 _ _ (by omega))) f3
    | inr t3 =>
      have e2 := ex_inr hx2
      obtain ⟨g13, gC, gN, gv⟩ := g
      refine wp_R12_27 hO3 (wp_call (m_bounded (most := 9) hO3 (hT.ms f3) ((n3 _ _ (by omega)).trans g13) ⟨gC.1, (n3 _ _ (by omega)).trans gC.2⟩ (gN.eq (fun k q => n3 _ _ (by omega)) (Nat.le_refl _))) (fun r g => ?_))
      obtain ⟨v4, w4⟩ := r
      obtain ⟨f4, g⟩ := g
      have f4 : Fr PBd w3 w4 := f4
      have hO4 := f4.ok hO3
      have g : match ex (kK c N) 2 t3 with
        | .inl e => ERR c N w4 e
        | .inr t' => wI w4 223 13 = 0 ∧ MCU c N w4 t' ∧ NTM c N w4 (ind (kV c N) 9 (ind (kV c N) 99 (nmd (kN c N) (sA s) (sT s) t1) t2) t3) t' ∧ v4 = kV c N t3 := g
      show Wp ((wrI w4 237 (X : Int) v4).bind _) (SMR c N d w (sb (ex (kK c N) 2 t3) (fun t4 => sb (hsh (kK c N) (kV c N) 6 0 t4 (fun _ => 50) (ind (kV c N) 9 (ind (kV c N) 99 (nmd (kN c N) (sA s) (sT s) t1) t2) t3)) (fun q => sb (ex (kK c N) 4 q.1) (fun t5 => .inr (t5, uHeir (kV c N) (kN c N) s t1 t2 t3 q.2.1 q.2.2))))))
      refine wp_wI hO4 rfl (by omega) ?_
      rw [Int.toNat_natCast]
      generalize hw5 : sI w4 237 X v4 = w5
      have hO5 : Ok L wl dr tx w5 := by rw [← hw5]; exact hO4.sI
      have f5 : FL (PMs d) QMs w w5 := by rw [← hw5]; exact (f3.tr (bd_ms f4)).sI (by unfold PMs RG; omega)
      have n5 : ∀ a k, a ≠ 237 ∨ k ≠ X → wI w5 a k = wI w4 a k := fun a k q => by rw [← hw5, wI_ne q]
      have v5 : wI w5 237 X = v4 := by rw [← hw5, wI_eq]
      have l5 : ∀ k, wL w5 231 k = wL w 231 k := fun k => by rw [← hw5, wL_sI, f4.2.2.2.1]; exact l3 k
      clear hw5
      generalize hx3 : ex (kK c N) 2 t3 = y3 at g
      cases y3 with
      | inl e => exact bad w5 e (g.eq (fun k q => n5 _ _ (by omega))) f5
      | inr t4 =>
        have e3 := ex_inr hx3
        obtain ⟨k13, kC, kN', kv'⟩ := g
        have i5 : ∀ a k, (a = 223 → k = 12 ∨ k = 19 ∨ k = 20 ∨ k = 35 ∨ k = 41) → ((a = 236 ∨ a = 237) → k ≠ X) → wI w5 a k = wI w a k := fun a k q1 q2 => by rw [n5 a k (by omega), f4.at a k (by unfold PBd; omega), n3 a k (by omega), f2'.at a k (by unfold PBd; omega)]
        have u240 : wI w5 236 X = kV c N t2 := by rw [n5 _ _ (by omega), f4.at _ _ (by unfold PBd; omega), v3, gv]
        have u241 : wI w5 237 X = kV c N t3 := by rw [v5, kv']
        have hT5 := hT.ms f5
        show Wp (Mo_tellHeir_51 fu 223 (X : Int) r1 ((0 : Nat) : Int) w5) (SMR c N d w (sb (hsh (kK c N) (kV c N) 6 0 t4 (fun _ => 50) (ind (kV c N) 9 (ind (kV c N) 99 (nmd (kN c N) (sA s) (sT s) t1) t2) t3)) (fun q => sb (ex (kK c N) 4 q.1) (fun t5 => .inr (t5, uHeir (kV c N) (kN c N) s t1 t2 t3 q.2.1 q.2.2)))))
        refine m_h51 hX12 hO5 (fun w6 f6 u6 => ?_) 6 fu 0 w5 rfl (by omega) (Fr.rf w5) (fun j hj => absurd hj (by omega))
        unfold Mo_tellHeir_76
        rw [hFU]
        have p6 : ∀ k, wI w6 223 k = wI w5 223 k := fun k => f6.at _ _ (by unfold P42; omega)
        have fh : ∀ w7, Fr (PHr X) w5 w7 → FL (PMs d) QMs w w7 := fun w7 f7 => f5.tr (f7.mono (fun a k q => by unfold PHr PBd P42 at q; unfold PMs; omega)).fl
        refine m_h78 (tm := t4) (F := fun q => sb (ex (kK c N) 4 q.1) (fun t5 => .inr (t5, uHeir (kV c N) (kN c N) s t1 t2 t3 q.2.1 q.2.2))) (Q := SMR c N d w) hX12 hO5 hT5 (fun e w7 f7 E7 => ⟨fh w7 f7, E7⟩) (fun t' f' n' w7 f7 z7 C7 N7 u7 ht7 => ?_) 6 fu 0 t4 _ _ w6 rfl (by omega) (Nat.le_refl _) (f6.mono (fun a k q => Or.inr q)) (by rw [p6, n5 _ _ (by omega), k13]) ⟨kC.1, by rw [p6, n5 _ _ (by omega)]; exact kC.2⟩ (kN'.eq (fun k q => (p6 k).trans (n5 _ _ (by omega))) (Nat.le_refl _)) u6
        rw [g0]
        refine m_h136 hd hO hT hh h6 e1.1 (by omega) (fh w7 f7) (fun a k q1 q2 q3 => ?_) (fun k => by rw [f7.2.2.2.1]; exact l5 k) ?_ ?_ (fun j hj => ?_) z7 C7 N7
        · rw [f7.at a k (by unfold PHr PBd P42; omega), i5 a k q1 (by rw [← hX]; exact q2)]
        · rw [hX, f7.at _ _ (by unfold PHr PBd P42; omega), u240]
        · rw [hX, f7.at _ _ (by unfold PHr PBd P42; omega), u241]
        · rw [show 36 * d + 6 * nh (sV s) + j = 6 * X + j by omega]
          exact u7 j hj
end MU
