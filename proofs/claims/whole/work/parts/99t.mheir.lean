/-! Level 3, read: the reference tells an heir. -/
section MT1
variable {L wl dr tx : Nat} {c : Nat → Int} {N d X : Nat} {x2 : Int} {w0 : Wd}
def P42 (X a k : Nat) : Prop := a = 238 ∧ 6 * X ≤ k ∧ k < 6 * X + 6
theorem m_h51 {Q : Wd → Prop} (hX : X < 12) (hO0 : Ok L wl dr tx w0) (kk : ∀ w1, Fr (P42 X) w0 w1 → (∀ j, j < 6 → wI w1 238 (6 * X + j) = 50) → Wp (Mo_tellHeir_76 223 (X : Int) x2 w1) Q) : ∀ (r m l : Nat) (w : Wd), l + r = 6 → r < m → Fr (P42 X) w0 w → (∀ j, j < l → wI w 238 (6 * X + j) = 50) → Wp (Mo_tellHeir_51 m 223 (X : Int) x2 (l : Int) w) Q
  | _, 0, _, _, _, hm, _, _ => absurd hm (by omega)
  | 0, m + 1, l, w, hl, _, hF, hv => by
    rw [Mo_tellHeir_51]
    exact wp_pos (by omega) (kk w hF (fun j hj => hv j (by omega)))
  | r + 1, m + 1, l, w, hl, hm, hF, hv => by
    have hO := hF.ok hO0
    rw [Mo_tellHeir_51]
    refine wp_neg (by omega) (wp_R12_28 hO ?_)
    rw [w32_id (z := 6 * (X : Int)) (by omega) (by omega), w32_id (z := 6 * (X : Int) + (l : Int)) (by omega) (by omega), w32_id (z := (l : Int) + 1) (by omega) (by omega), show 6 * (X : Int) + (l : Int) = ((6 * X + l : Nat) : Int) by omega, show (l : Int) + 1 = ((l + 1 : Nat) : Int) by omega]
    refine wp_wI hO rfl (by omega) ?_
    rw [Int.toNat_natCast]
    refine m_h51 hX hO0 kk r m (l + 1) _ (by omega) (by omega) (hF.sI (by unfold P42; omega)) (fun j hj => ?_)
    by_cases e : j = l
    · rw [e, wI_eq]
    · rw [wI_ne (by omega)]; exact hv j (by omega)
theorem m_h136F {w : Wd} {e : Ft} (hO : Ok L wl dr tx w) (hE : ERR c N w e) : Mo_tellHeir_136 223 x2 w = some w := by
  refine wp_out ?_
  unfold Mo_tellHeir_136
  have := err_pos hE
  exact wp_eq (m_mustF hO this) (wp_gI hO rfl (wp_neg (by omega) (wp_ret rfl)))
theorem m_h78F {w : Wd} {e : Ft} {m : Nat} {l : Int} (hm : 0 < m) (hO : Ok L wl dr tx w) (hE : ERR c N w e) : Mo_tellHeir_78 m 223 (X : Int) x2 l w = some w := by
  obtain ⟨m', rfl⟩ : ∃ m', m = m' + 1 := ⟨m - 1, by omega⟩
  refine wp_out ?_
  rw [Mo_tellHeir_78]
  have := err_pos hE
  exact wp_gI hO rfl (wp_neg (by omega) ⟨w, m_h136F hO hE, rfl⟩)
theorem m_hF {w : Wd} {e : Ft} {m : Nat} (hX : X < 12) (hm : 6 < m) (hO : Ok L wl dr tx w) (hE : ERR c N w e) : Wp (Mo_tellHeir_51 m 223 (X : Int) x2 0 w) (fun w1 => Fr (P42 X) w w1 ∧ ERR c N w1 e) := by
  refine m_h51 hX hO (fun w1 f v => ?_) 6 m 0 w rfl hm (Fr.rf w) (fun j hj => absurd hj (by omega))
  unfold Mo_tellHeir_76
  generalize hFU : FU = fu; have hfu : 1000000 = fu := hFU
  have E1 : ERR c N w1 e := hE.eq (fun k q => f.at _ _ (by unfold P42; omega))
  exact ⟨w1, m_h78F (by omega) (f.ok hO) E1, f, E1⟩
def PHr (X a k : Nat) : Prop := PBd a k ∨ P42 X a k
/-- the shapes told -/
theorem m_h78 {tm : Nat} {F : Nat × (Nat → Int) × Ft → Sum Ft (Nat × Sst)} {Q : Sum Ft (Nat × Sst) → Wd → Prop} (hX : X < 12) (hO0 : Ok L wl dr tx w0) (hT0 : MT c N w0) (kR : ∀ e w1, Fr (PHr X) w0 w1 → ERR c N w1 e → Q (.inl e) w1) (kk : ∀ t' f' n' w1, Fr (PHr X) w0 w1 → wI w1 223 13 = 0 → MCU c N w1 t' → NTM c N w1 n' t' → (∀ j, j < 6 → wI w1 238 (6 * X + j) = f' j) → tm ≤ t' → Wp (Mo_tellHeir_136 223 x2 w1) (Q (F (t', f', n')))) : ∀ (r m l t : Nat) (f : Nat → Int) (n : Ft) (w : Wd), l + r = 6 → r < m → tm ≤ t → Fr (PHr X) w0 w → wI w 223 13 = 0 → MCU c N w t → NTM c N w n t → (∀ j, j < 6 → wI w 238 (6 * X + j) = f j) → Wp (Mo_tellHeir_78 m 223 (X : Int) x2 (l : Int) w) (Q (sb (hsh (kK c N) (kV c N) r l t f n) F))
  | _, 0, _, _, _, _, _, _, hm, _, _, _, _, _, _ => absurd hm (by omega)
  | 0, m + 1, l, t, f, n, w, hl, hm, hq, hF, h13, hC, hN, hv => by
    have hO := hF.ok hO0
    have hT : MT c N w := hT0.eq (fun a k q1 q2 => hF.at a k (by unfold PHr PBd P42; omega)) (fun k => by rw [hF.2.2.2.1])
    rw [Mo_tellHeir_78]
    refine wp_gI hO rfl (wp_pos h13 (wp_eq (q_is (x := 2) hO hT hC h13) ?_))
    unfold hsh
    by_cases k : kK c N t = 2
    · rw [if_pos k, if_pos k]
      refine wp_neg one_ne (wp_pos (by omega) (wp_call (m_fail (x := 2) (by omega) hO hT hC h13) (fun w1 g => ?_)))
      unfold Mo_tellHeir_104
      have := err_pos g.2
      have f1 : Fr (PHr X) w0 w1 := hF.tr (g.1.mono (fun a k q => by unfold PFl at q; unfold PHr PBd; omega))
      exact wp_gI (f1.ok hO0) rfl (wp_neg (by omega) (wp_ret (kR _ _ f1 g.2)))
    · rw [if_neg k, if_neg k]
      exact wp_pos rfl (kk t f n w hF h13 hC hN hv hq)
  | r + 1, m + 1, l, t, f, n, w, hl, hm, hq, hF, h13, hC, hN, hv => by
    have hO := hF.ok hO0
    have hT : MT c N w := hT0.eq (fun a k q1 q2 => hF.at a k (by unfold PHr PBd P42; omega)) (fun k => by rw [hF.2.2.2.1])
    rw [Mo_tellHeir_78]
    refine wp_gI hO rfl (wp_pos h13 (wp_eq (q_is (x := 2) hO hT hC h13) ?_))
    unfold hsh
    by_cases k : kK c N t = 2
    · rw [if_pos k, if_pos k]
      refine wp_neg one_ne (wp_neg (by omega) ?_)
      unfold Mo_tellHeir_104
      refine wp_gI hO rfl (wp_pos (by show wI w 223 13 ≤ 0; omega) (wp_R12_28 hO (wp_call (m_bounded (most := 99) hO hT h13 hC hN) (fun p g => ?_))))
      obtain ⟨v1, w1⟩ := p
      obtain ⟨f1, g⟩ := g
      have f1 : Fr PBd w w1 := f1
      have hO1 := f1.ok hO
      have g : match ex (kK c N) 2 t with
        | .inl e => ERR c N w1 e
        | .inr t' => wI w1 223 13 = 0 ∧ MCU c N w1 t' ∧ NTM c N w1 (ind (kV c N) 99 n t) t' ∧ v1 = kV c N t := g
      unfold ex at g
      rw [if_pos k] at g
      show Wp ((wrI w1 238 (w32 (w32 (6 * (X : Int)) + (l : Int))) v1).bind fun w129 => Mo_tellHeir_78 m 223 (X : Int) x2 (w32 ((l : Int) + 1)) w129) _
      rw [w32_id (z := 6 * (X : Int)) (by omega) (by omega), w32_id (z := 6 * (X : Int) + (l : Int)) (by omega) (by omega), w32_id (z := (l : Int) + 1) (by omega) (by omega), show 6 * (X : Int) + (l : Int) = ((6 * X + l : Nat) : Int) by omega, show (l : Int) + 1 = ((l + 1 : Nat) : Int) by omega]
      refine wp_wI hO1 rfl (by omega) ?_
      rw [Int.toNat_natCast]
      generalize hw2 : sI w1 238 (6 * X + l) v1 = w2
      have f2 : Fr (PHr X) w0 w2 := by rw [← hw2]; exact (hF.tr (f1.mono (fun a k q => Or.inl q))).sI (by unfold PHr P42; omega)
      have n2 : ∀ a k, a ≠ 238 ∨ k ≠ 6 * X + l → wI w2 a k = wI w1 a k := fun a k q => by rw [← hw2, wI_ne q]
      have v2 : wI w2 238 (6 * X + l) = v1 := by rw [← hw2, wI_eq]
      clear hw2
      generalize hp : ps1 t = p at g
      cases p with
      | inl e =>
        have E2 : ERR c N w2 e := g.eq (fun k q => n2 _ _ (by omega))
        exact ⟨w2, m_h78F (by omega) (f2.ok hO0) E2, kR _ _ f2 E2⟩
      | inr t' =>
        obtain ⟨g1, g2, g3, g4⟩ := g
        have := ps1_inr hp
        refine m_h78 hX hO0 hT0 kR kk r m (l + 1) t' _ _ w2 (by omega) (by omega) (by omega) f2 ((n2 _ _ (by omega)).trans g1) ⟨g2.1, (n2 _ _ (by omega)).trans g2.2⟩ (g3.eq (fun k q => n2 _ _ (by omega)) (Nat.le_refl _)) (fun j hj => ?_)
        by_cases e : j = l
        · rw [if_pos e, e, v2, g4]
        · rw [if_neg e, n2 _ _ (by omega), f1.at _ _ (by unfold PBd; omega)]
          exact hv j hj
    · rw [if_neg k, if_neg k]
      exact wp_pos rfl (kk t f n w hF h13 hC hN hv hq)
/-- an heir's end -/
theorem m_h136 {w w5 : Wd} {t1 t2 t3 t5 : Nat} {s : Sst} {f : Nat → Int} {n : Ft} (hd : d ≤ 1) (hO : Ok L wl dr tx w) (hT : MT c N w) (h : MDR c N d w s t1) (h6 : nh (sV s) < 6) (hk : kK c N t1 = 1) (ht : t1 ≤ t5) (F5 : FL (PMs d) QMs w w5) (i5 : ∀ a k, (a = 223 → k = 12 ∨ k = 19 ∨ k = 20 ∨ k = 35 ∨ k = 41) → ((a = 236 ∨ a = 237) → k ≠ 6 * d + nh (sV s)) → (a = 238 → k < 36 * d + 6 * nh (sV s) ∨ 36 * d + 6 * nh (sV s) + 6 ≤ k) → wI w5 a k = wI w a k) (l5 : ∀ k, wL w5 231 k = wL w 231 k) (u240 : wI w5 236 (6 * d + nh (sV s)) = kV c N t2) (u241 : wI w5 237 (6 * d + nh (sV s)) = kV c N t3) (u242 : ∀ j, j < 6 → wI w5 238 (36 * d + 6 * nh (sV s) + j) = f j) (z13 : wI w5 223 13 = 0) (C5 : MCU c N w5 t5) (N5 : NTM c N w5 n t5) : Wp (Mo_tellHeir_136 223 (t1 : Int) w5) (SMR c N d w (sb (ex (kK c N) 4 t5) (fun t6 => .inr (t6, uHeir (kV c N) (kN c N) s t1 t2 t3 f n)))) := by
  obtain ⟨⟨a13, a12, a19⟩, hC, hN, hD, hL, hM⟩ := h
  obtain ⟨⟨b1, b2, b3⟩, ⟨d0, d1, d2, d3, d4, d5⟩, d6, d7, d8⟩ := hD
  have hO5 := F5.ok hO
  unfold Mo_tellHeir_136
  refine wp_call (m_must (x := 4) hO5 (hT.ms F5) C5 z13 (by omega)) (fun w4 g => ?_)
  obtain ⟨f4, g⟩ := g
  have hO4 := f4.ok hO5
  have f4' : FL (PMs d) QMs w w4 := F5.tr (go_ms f4)
  generalize hx4 : ex (kK c N) 4 t5 = y4 at g
  refine wp_gI hO4 rfl ?_
  cases y4 with
  | inl e =>
    have p4 := err_pos g
    exact wp_neg (by omega) (wp_ret ⟨f4', g⟩)
  | inr t4 =>
    have e4 := ex_inr hx4
    obtain ⟨k13, kC⟩ := g.symm
    have j4 : ∀ a k, (a = 223 → k = 12 ∨ k = 15 ∨ k = 16 ∨ k = 19 ∨ k = 20 ∨ k = 35 ∨ k = 41) → wI w4 a k = wI w5 a k := fun a k q => f4.at a k (by unfold PGo; omega)
    have l4 : ∀ k, wL w4 231 k = wL w 231 k := fun k => by rw [f4.2.2.2.1]; exact l5 k
    have h20 : wI w4 223 20 = ((nl (sV s) + nh (sV s) + nm (sV s) : Nat) : Int) := by rw [j4 _ _ (by omega), i5 _ _ (by omega) (by omega) (by omega)]; exact hM.1
    have h19 : wI w4 223 19 = (d : Int) := by rw [j4 _ _ (by omega), i5 _ _ (by omega) (by omega) (by omega)]; exact a19
    have h239 : wI w4 235 d = (nh (sV s) : Int) := by rw [j4 _ _ (by omega), i5 _ _ (by omega) (by omega) (by omega)]; exact d1
    refine wp_pos (by omega) (wp_R12_25 hO4 (wp_gI hO4 rfl ?_))
    rw [h19]
    refine wp_rI hO4 rfl (by omega) ?_
    rw [Int.toNat_natCast, h239]
    refine wp_call (m_notes (x := (nh (sV s) : Int)) hO4 (hT.ms f4') hC.1 hk h20 (by omega)) (fun w5' g => ?_)
    obtain ⟨f5, x20, x236, x235⟩ := g
    have hO5' := f5.ok hO4
    refine wp_R12_25 hO5' (wp_gI hO5' rfl ?_)
    rw [f5.i 223 19 (by omega), h19]
    refine wp_rI hO5' rfl (by omega) ?_
    rw [Int.toNat_natCast, f5.i 235 d (by omega), h239, w32_id (by omega) (by omega)]
    refine wp_wI hO5' rfl (by omega) (wp_ret ?_)
    rw [Int.toNat_natCast]
    generalize hw6 : sI w5' 235 d ((nh (sV s) : Int) + 1) = w6
    have f6 : FL (PMs d) QMs w w6 := by rw [← hw6]; exact (f4'.tr (f5.mono (fun a k q => by unfold PMs; omega) (fun a k q => q.1))).sI (by unfold PMs RG; omega)
    have n6 : ∀ a k, a ≠ 235 → wI w6 a k = wI w5' a k := fun a k q => by rw [← hw6, wI_ne (by omega)]
    have v6 : wI w6 235 d = (nh (sV s) : Int) + 1 := by rw [← hw6, wI_eq]
    have l6 : ∀ k, wL w6 231 k = wL w5' 231 k := fun k => by rw [← hw6, wL_sI]
    clear hw6
    have j6 : ∀ a k, a ≠ 235 → (a = 223 → k = 12 ∨ k = 15 ∨ k = 16 ∨ k = 19 ∨ k = 35 ∨ k = 41) → (a = 232 → k ≠ nl (sV s) + nh (sV s) + nm (sV s)) → wI w6 a k = wI w5 a k := fun a k q0 q1 q2 => by rw [n6 a k q0, f5.i a k (by omega), j4 a k (by omega)]
    have i6 : ∀ a k, a ≠ 235 → (a = 223 → k = 12 ∨ k = 19 ∨ k = 35 ∨ k = 41) → (a = 232 → k ≠ nl (sV s) + nh (sV s) + nm (sV s)) → ((a = 236 ∨ a = 237) → k ≠ 6 * d + nh (sV s)) → (a = 238 → k < 36 * d + 6 * nh (sV s) ∨ 36 * d + 6 * nh (sV s) + 6 ≤ k) → wI w6 a k = wI w a k := fun a k q0 q1 q2 q3 q4 => by rw [j6 a k q0 (by omega) q2, i5 a k (by omega) q3 q4]
    refine ⟨f6, ⟨?_, (i6 _ _ (by omega) (by omega) (by omega) (by omega) (by omega)).trans a12, (i6 _ _ (by omega) (by omega) (by omega) (by omega) (by omega)).trans a19⟩, ⟨kC.1, ?_⟩, N5.eq (fun k q => j6 _ _ (by omega) (by omega) (by omega)) (by show t5 ≤ t4; omega), ⟨⟨b1, by show nh (sV s) + 1 ≤ 6; omega, b3⟩, ⟨?_, ?_, ?_, ?_, ?_, ?_⟩, fun l hl => ?_, fun x hx => ?_, fun x hx l hl => ?_⟩, mlx_eq hL (fun a k q1 q2 => i6 a k (by omega) (by omega) (by omega) (by omega) (by omega)) (fun k q => i6 _ _ (by omega) (by omega) (by omega) (by omega) (by omega)) (by show t1 ≤ t4; omega) rfl, ?_⟩
    · rw [n6 _ _ (by omega), f5.i _ _ (by omega), k13]
    · rw [n6 _ _ (by omega), f5.i _ _ (by omega)]; exact kC.2
    · exact (i6 _ _ (by omega) (by omega) (by omega) (by omega) (by omega)).trans d0
    · rw [v6]; show (nh (sV s) : Int) + 1 = ((nh (sV s) + 1 : Nat) : Int); omega
    · exact (i6 _ _ (by omega) (by omega) (by omega) (by omega) (by omega)).trans d2
    · exact (i6 _ _ (by omega) (by omega) (by omega) (by omega) (by omega)).trans d3
    · exact (i6 _ _ (by omega) (by omega) (by omega) (by omega) (by omega)).trans d4
    · exact (i6 _ _ (by omega) (by omega) (by omega) (by omega) (by omega)).trans d5
    · exact (i6 _ _ (by omega) (by omega) (by omega) (by omega) (by omega)).trans (d6 l hl)
    · have hx : x < nh (sV s) + 1 := hx
      show wI w6 236 (6 * d + x) = (if x = nh (sV s) then kV c N t2 else sk (sV s) x) ∧ wI w6 237 (6 * d + x) = (if x = nh (sV s) then kV c N t3 else tr (sV s) x)
      by_cases e : x = nh (sV s)
      · rw [if_pos e, if_pos e, e, j6 _ _ (by omega) (by omega) (by omega), j6 _ _ (by omega) (by omega) (by omega)]
        exact ⟨u240, u241⟩
      · rw [if_neg e, if_neg e]
        exact ⟨(i6 _ _ (by omega) (by omega) (by omega) (by omega) (by omega)).trans (d7 x (by omega)).1, (i6 _ _ (by omega) (by omega) (by omega) (by omega) (by omega)).trans (d7 x (by omega)).2⟩
    · have hx : x < nh (sV s) + 1 := hx
      show wI w6 238 (36 * d + 6 * x + l) = if x = nh (sV s) then f l else sS s x l
      by_cases e : x = nh (sV s)
      · rw [if_pos e, e, j6 _ _ (by omega) (by omega) (by omega)]
        exact u242 l hl
      · rw [if_neg e]
        exact (i6 _ _ (by omega) (by omega) (by omega) (by omega) (by omega)).trans (d8 x (by omega) l hl)
    · refine nmm_add hM rfl ((n6 _ _ (by omega)).trans x20) (fun k hk => i6 _ _ (by omega) (by omega) (by omega) (by omega) (by omega)) (fun k hk => ?_) ((n6 _ _ (by omega)).trans x236) ((l6 _).trans x235) ?_ (fun i hi => ?_) (Or.inr ⟨rfl, rfl, ?_⟩)
      · rw [l6, f5.l 231 k (by omega), l4]
      · show nl (sV s) + (nh (sV s) + 1) + nm (sV s) = _; omega
      · show (if i = nh (sV s) then kN c N t1 else sN s i) = _
        rw [if_neg (by omega)]
      · show (if nh (sV s) = nh (sV s) then kN c N t1 else _) = _
        rw [if_pos rfl]
end MT1
