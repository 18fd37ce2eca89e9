/-! Level 3, read: the reference tells a statement. -/
section MV
variable {L wl dr tx : Nat} {c : Nat → Int} {N d : Nat} {w : Wd}
theorem rm_inr {a b t t1 : Nat} (h : rm a b t = .inr t1) : a ≠ b ∧ t < 400 ∧ t1 = t + 1 := by
  unfold rm at h
  by_cases e : a = b
  · rw [if_pos e] at h; cases h
  · rw [if_neg e] at h; exact ⟨e, ps1_inr h⟩
theorem rm_sb {β : Type} {a b t : Nat} (f : Nat → Sum Ft β) : (if a = b then .inl (2, t) else sb (ps1 t) f) = sb (rm a b t) f := by
  unfold rm
  by_cases e : a = b
  · rw [if_pos e, if_pos e]; rfl
  · rw [if_neg e, if_neg e]
/-- a statement with room asked for -/
theorem m_room {t a b : Nat} {s : Sst} {f : Nat → Sum Ft (Nat × Sst)} {g : Wd → Option Wd} (hO : Ok L wl dr tx w) (hT : MT c N w) (h : MDR c N d w s t) (hk : kK c N t ≠ 0) (kk : ∀ t1 w1, Ok L wl dr tx w1 → MT c N w1 → MDR c N d w1 s t1 → MLX w1 d t (sV s) → t < t1 → a ≠ b → Wp (g w1) (SMR c N d w1 (f t1))) : Wp ((Mo_roomFor 223 (a : Int) (b : Int) w).bind fun r68 => (fgI r68 223 12 13).bind fun v72 => if (v72 : Int) = 0 then (g r68).bind fun r79 => Mo_tellText_273 r79 else Mo_tellText_273 r68) (SMR c N d w (sb (rm a b t) f)) := by
  unfold Mo_tellText_273
  refine wp_call (m_roomFor hO hT h.1.1 h.2.1 hk) (fun w1 q => ?_)
  obtain ⟨f1, q⟩ := q
  have hO1 := f1.ok hO
  refine wp_gI hO1 rfl ?_
  generalize hr : rm a b t = y at q
  cases y with
  | inl e =>
    have := err_pos q
    exact wp_neg (by omega) (wp_ret ⟨go_ms f1, q⟩)
  | inr t1 =>
    have e := rm_inr hr
    exact wp_pos q.2 (wp_call (kk t1 w1 hO1 (hT.bd (go_bd f1)) (mdr_go h f1 q.2 q.1 (by omega)) (mlx_eq h.2.2.2.2.1 (fun a k _ _ => f1.at _ _ (by unfold PGo; omega)) (fun k _ => f1.at _ _ (by unfold PGo; omega)) (Nat.le_refl _) rfl) (by omega) e.1) (fun w2 q2 => wp_ret (SMR.tr (go_ms f1) q2)))
/-- a statement behind its word -/
theorem m_word {t : Nat} {s : Sst} {f : Nat → Sum Ft (Nat × Sst)} {g : Wd → Option Wd} (hO : Ok L wl dr tx w) (hT : MT c N w) (h : MDR c N d w s t) (hk : kK c N t ≠ 0) (kF : ∀ e w1, Ok L wl dr tx w1 → ERR c N w1 e → MLX w1 d t (sV s) → wI w1 223 19 = (d : Int) → Wp (g w1) (fun w2 => FL (PMs d) QMs w1 w2 ∧ ERR c N w2 e)) (kk : ∀ t1 w1, Ok L wl dr tx w1 → MT c N w1 → MDR c N d w1 s t1 → MLX w1 d t (sV s) → t < t1 → Wp (g w1) (SMR c N d w1 (f t1))) : Wp ((Mo_goesOn 223 w).bind g) (SMR c N d w (sb (ps1 t) f)) := by
  refine wp_call (m_goesOn hO hT h.2.1 h.1.1 hk) (fun w1 q => ?_)
  obtain ⟨f1, q⟩ := q
  have hO1 := f1.ok hO
  have X1 : MLX w1 d t (sV s) := mlx_eq h.2.2.2.2.1 (fun a k _ _ => f1.at _ _ (by unfold PGo; omega)) (fun k _ => f1.at _ _ (by unfold PGo; omega)) (Nat.le_refl _) rfl
  generalize hr : ps1 t = y at q
  cases y with
  | inl e => exact wp_use (kF e w1 hO1 q X1 ((f1.at _ _ (by unfold PGo; omega)).trans h.1.2.2)) (fun w2 q2 => ⟨(go_ms f1).tr q2.1, q2.2⟩)
  | inr t1 =>
    have e := ps1_inr hr
    exact wp_use (kk t1 w1 hO1 (hT.bd (go_bd f1)) (mdr_go h f1 q.2 q.1 (by omega)) X1 (by omega)) (fun w2 q2 => SMR.tr (go_ms f1) q2)
theorem m_tellText {t : Nat} {s : Sst} (hd : d ≤ 1) (hO : Ok L wl dr tx w) (hT : MT c N w) (h : MDR c N d w s t) (hk : kK c N t ≠ 0) : Wp (Mo_tellText 223 w) (SMR c N d w (stm (kK c N) (kV c N) (kN c N) s t)) := by
  have t4 := h.2.1.1.1
  have a19 := h.1.2.2
  have hb := h.2.2.2.1.1
  unfold Mo_tellText Mo_tellText_0 stm
  refine wp_gd hO rfl (wp_R12_5 hO (wp_gI hO rfl ?_))
  rw [h.2.1.2]
  refine wp_rI hO rfl (by omega) ?_
  rw [Int.toNat_natCast, (hT t h.2.1.1.1 h.2.1.1.2).1]
  by_cases k20 : kK c N t = 20
  · rw [if_pos k20]
    refine wp_pos (by omega) (wp_R12_23 hO (wp_gI hO rfl ?_))
    rw [a19]
    refine wp_rI hO rfl (by omega) ?_
    rw [Int.toNat_natCast, h.2.2.2.1.2.1.1]
    unfold sLetter
    rw [rm_sb]
    exact m_room (a := nl (sV s)) (b := 6) (g := fun w => Mo_tellLetter 223 w) hO hT h hk (fun t1 w1 O1 T1 D1 X1 l1 n1 => m_tellLetter hd O1 T1 D1 (by omega))
  rw [if_neg k20]
  refine wp_neg (by omega) ?_
  by_cases k21 : kK c N t = 21
  · rw [if_pos k21]
    refine wp_pos (by omega) (wp_R12_25 hO (wp_gI hO rfl ?_))
    rw [a19]
    refine wp_rI hO rfl (by omega) ?_
    rw [Int.toNat_natCast, h.2.2.2.1.2.1.2.1]
    unfold sHeir
    rw [rm_sb]
    exact m_room (a := nh (sV s)) (b := 6) (g := fun w => Mo_tellHeir 223 w) hO hT h hk (fun t1 w1 O1 T1 D1 X1 l1 n1 => m_tellHeir hd O1 T1 D1 (by omega))
  rw [if_neg k21]
  refine wp_neg (by omega) ?_
  by_cases k22 : kK c N t = 22
  · rw [if_pos k22]
    refine wp_pos (by omega) (wp_R12_29 hO (wp_gI hO rfl ?_))
    rw [a19]
    refine wp_rI hO rfl (by omega) ?_
    rw [Int.toNat_natCast, h.2.2.2.1.2.1.2.2.1]
    unfold sMaster
    rw [rm_sb]
    exact m_room (a := nm (sV s)) (b := 3) (g := fun w => Mo_tellMaster 223 w) hO hT h hk (fun t1 w1 O1 T1 D1 X1 l1 n1 => m_tellMaster hd O1 T1 D1 X1 l1 (by omega))
  rw [if_neg k22]
  refine wp_neg (by omega) ?_
  by_cases k23 : kK c N t = 23
  · rw [if_pos k23]
    refine wp_pos (by omega) ?_
    unfold sLearn
    refine m_word hO hT h hk (fun e w1 O1 E1 X1 _ => ?_) (fun t1 w1 O1 T1 D1 X1 l1 => m_learn hd O1 T1 D1 X1 l1)
    refine wp_eq (m_knownF O1 (err_pos E1)) (wp_neg (show ¬ (0 : Int) ≤ -1 by decide) ?_)
    unfold Mo_tellText_163 Mo_tellText_273
    exact wp_call (m_lawstF hd t4 O1 E1 X1) (fun w2 q => wp_ret q)
  rw [if_neg k23]
  refine wp_neg (by omega) ?_
  by_cases k24 : kK c N t = 24
  · rw [if_pos k24]
    refine wp_pos (by omega) ?_
    unfold sDrift Mo_tellText_273
    exact m_word hO hT h hk (fun e w1 O1 E1 X1 _ => wp_call (m_lawstF hd t4 O1 E1 X1) (fun w2 q => wp_ret q)) (fun t1 w1 O1 T1 D1 X1 l1 => wp_call (m_drift hd O1 T1 D1 X1 l1) (fun w2 q => wp_ret q))
  rw [if_neg k24]
  refine wp_neg (by omega) ?_
  by_cases k25 : kK c N t = 25
  · rw [if_pos k25]
    refine wp_pos (by omega) ?_
    unfold sNum
    exact m_word hO hT h hk (fun e w1 O1 E1 X1 z1 => wp_R12_30 O1 (wp_use (m_numF hd rfl (by decide) O1 E1 z1) (fun w2 q => ⟨nu_ms (by omega) q.1, q.2⟩))) (fun t1 w1 O1 T1 D1 X1 l1 => wp_R12_30 O1 (m_days hd O1 T1 D1))
  rw [if_neg k25]
  refine wp_neg (by omega) ?_
  by_cases k26 : kK c N t = 26
  · rw [if_pos k26]
    refine wp_pos (by omega) ?_
    unfold sNum
    exact m_word hO hT h hk (fun e w1 O1 E1 X1 z1 => wp_R12_31 O1 (wp_use (m_numF hd rfl (by decide) O1 E1 z1) (fun w2 q => ⟨nu_ms (by omega) q.1, q.2⟩))) (fun t1 w1 O1 T1 D1 X1 l1 => wp_R12_31 O1 (m_limit hd O1 T1 D1))
  rw [if_neg k26]
  refine wp_neg (by omega) ?_
  by_cases k27 : kK c N t = 27
  · rw [if_pos k27]
    refine wp_pos (by omega) ?_
    unfold sNum
    exact m_word hO hT h hk (fun e w1 O1 E1 X1 z1 => wp_R12_32 O1 (wp_use (m_numF hd rfl (by decide) O1 E1 z1) (fun w2 q => ⟨nu_ms (by omega) q.1, q.2⟩))) (fun t1 w1 O1 T1 D1 X1 l1 => wp_R12_32 O1 (m_seed hd O1 T1 D1))
  rw [if_neg k27]
  unfold Mo_tellText_273
  refine wp_neg (by omega) (wp_call (m_fail (x := 1) (by omega) hO hT h.2.1 h.1.1) (fun w1 q => wp_ret ⟨(q.1.mono (fun a k z => by unfold PFl at z; unfold PMs; omega)).fl, q.2⟩))
/-- the whole text: Q what comes behind it -/
theorem m_read112 {w0 : Wd} {Q : Sum Ft Sst → Int × Wd → Prop} (hd : d ≤ 1) (hO0 : Ok L wl dr tx w0) (hT0 : MT c N w0) (kE : ∀ e w1, FL (PMs d) QMs w0 w1 → ERR c N w1 e → Wp (Mo_read_134 223 w1) (Q (.inl e))) (kk : ∀ s t w1, FL (PMs d) QMs w0 w1 → MDR c N d w1 s t → kK c N t = 0 → Wp (Mo_read_134 223 w1) (Q (.inr s))) : ∀ (r m t : Nat) (s : Sst) (w : Wd), 402 ≤ t + r → r < m → FL (PMs d) QMs w0 w → MDR c N d w s t → Wp (Mo_read_112 m 223 w) (Q (rdl (kK c N) (kV c N) (kN c N) r s t))
  | _, 0, _, _, _, _, hm, _, _ => absurd hm (by omega)
  | 0, m + 1, t, s, w, hr, hm, hF, h => absurd h.2.1.1.1 (by omega)
  | r + 1, m + 1, t, s, w, hr, hm, hF, h => by
    have hO := hF.ok hO0
    have hT := hT0.ms hF
    rw [Mo_read_112]
    refine wp_gI hO rfl (wp_pos h.1.1 (wp_eq (q_is (x := 0) hO hT h.2.1 h.1.1) ?_))
    unfold rdl
    by_cases k : kK c N t = 0
    · rw [if_pos k, if_pos k]
      exact wp_neg one_ne (kk s t w hF h k)
    · rw [if_neg k, if_neg k]
      refine wp_pos rfl (wp_call (m_tellText hd hO hT h k) (fun w1 g => ?_))
      obtain ⟨f1, g⟩ := g
      have f1' := hF.tr f1
      generalize hs : stm (kK c N) (kV c N) (kN c N) s t = y at g
      cases y with
      | inl e =>
        obtain ⟨m', rfl⟩ : ∃ m', m = m' + 1 := ⟨m - 1, by omega⟩
        rw [Mo_read_112]
        have := err_pos g
        exact wp_gI (f1'.ok hO0) rfl (wp_neg (by omega) (kE e w1 f1' g))
      | inr q =>
        have := stm_lt hs
        exact m_read112 hd hO0 hT0 kE kk r m q.1 q.2 w1 (by omega) (by omega) f1' g
end MV
