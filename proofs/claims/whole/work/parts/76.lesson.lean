/-! Level 3: calls, lesson. -/
section K19
variable {L wl dr tx s b : Nat} {w : Wd} {V : Vl} {σ σ1 : Sg} {x y z Y Y1 : Int}
theorem i_copiesAll {w1 : Wd} (hV : VOK V) (hO : Ok L wl dr tx w1) (hs : wI w1 223 18 = (s : Int)) (hM : MW w1 s V) (hS : MS w1 255 0 V σ) (h45 : wI w1 255 45 = min (yr σ) 400) (hy : 0 ≤ yr σ) : Wp (Mo_copiesAll 223 w1) (fun w2 => Fr (PK 2860) w1 w2 ∧ (∀ j, j < 2860 → wI w2 256 j = wI w1 255 j) ∧ MC w2 s V σ (sd V) (-1) (-1) (-1) (-1) ∧ wI w2 256 45 = ((min (yr σ) 400).toNat : Int) ∧ (min (yr σ) 400).toNat ≤ 400) := by
  refine wp_use (m_copiesAll hV hO hs hM hS) (fun w2 g => ⟨g.1, g.2.1, g.2.2, ?_, by omega⟩)
  rw [g.2.1 45 (by omega), h45]
  omega
theorem call_lesson (h : INV L w Y) : CALL L w Y (Hh_lesson 6 x y z) (Mo_lesson 223 x y z) := by
  have hI := h
  obtain ⟨wl, dr, tx, s, V, σ, hO, hv, hdr, hne, hV, hW, hs, hM, hN, ⟨u, xx, τ, u1, u2, u3, u4, u5, u6, u7, u8⟩, hS, hR, hT, he, hf⟩ := h
  have hv' := wi_bd hv
  have h6 := hV.1
  have h6' := hV.2.1
  have hy := hN.2.2.2.1.1
  unfold CALL Hh_lesson Hh_lesson_0 Hh_lesson_26 Mo_lesson Mo_lesson_0 Mo_lesson_26
  refine wp_gd hO rfl (wp_eq (q_isHeir hO hv hW) ?_)
  unfold bz
  by_cases q : 0 ≤ x ∧ x < (nh V : Int)
  · rw [if_pos q]
    refine wp_neg (show ¬ (1 : Int) = 0 by decide) (wp_eq (q_isLetter hO hv hW) ?_)
    unfold bz
    by_cases p : 0 ≤ y ∧ y < (nl V : Int)
    · rw [if_pos p]
      refine wp_neg (show ¬ (1 : Int) = 0 by decide) (wp_eq (q_within 1 99) ?_)
      unfold bz
      by_cases o : 1 ≤ z ∧ z ≤ 99
      · rw [if_pos o]
        obtain ⟨h, rfl⟩ := Int.eq_ofNat_of_zero_le q.1
        obtain ⟨l, rfl⟩ := Int.eq_ofNat_of_zero_le p.1
        obtain ⟨n, rfl⟩ := Int.eq_ofNat_of_zero_le (show 0 ≤ z by omega)
        have hh : h < nh V := by omega
        have hl : l < nl V := by omega
        have hsk := (hV.2.2.2.2.1 h hh).1
        have hmul := mul_bd (n := n) (by omega) hsk
        refine wp_neg (show ¬ (1 : Int) = 0 by decide) (wp_R11_7 hO (wp_R11_4 hO (wp_call (c_keep u1 u2 hO u3 u4) (fun w1 g1 => ?_))))
        have f1 := g1.1
        have hO1 := f1.ok hO
        have hS1 : CS w1 40 V σ := hN.2.1.eq (fun a k q1 q2 => f1.at a k (by omega))
        have hk1 : CS w1 (52 + 4 * xx) V σ := cs_copy hV hN.2.1 g1.2.1
        have hW1 : CW w1 wl V := hW.eq (fun a k q1 q2 => f1.at a k (by omega))
        refine wp_R11_4 hO1 (wp_R11_3 hO1 (wi_ne hv) (wp_R10_8 hO1 hv (wp_rI hO1 (sh_Wi_8 L hv) (by omega) ?_)))
        rw [Int.toNat_natCast, (hW1.2.1 h hh).1, w32_id (by omega) (by omega)]
        refine wp_eq (c_teach hV hN.1 hO1 isSt_40 hS1 hh hl (by omega)) ?_
        have nb := near_bd (p := (n : Int) * sk V h) (hN.1.2.1 h hh l hl) (hN.1.1 l hl) (by omega)
        generalize hz : near (sp σ h l) (hd σ l) ((n : Int) * sk V h) = zz at nb
        have hK2 : SOK V (put σ h l zz) := hN.1.put nb
        have hS2 : CS (sI w1 (40 + 2) (6 * h + l) zz) 40 V (put σ h l zz) := hS1.put hV hl
        generalize hw2 : sI w1 (40 + 2) (6 * h + l) zz = w2 at hS2
        have f2 : Fr (fun a k => (52 + 4 * xx ≤ a ∧ a ≤ 52 + 4 * xx + 3) ∨ a = 50 ∨ a = 42) w w2 := by rw [← hw2]; exact (f1.mono (fun a k q => by omega)).sI (by omega)
        have n2 : ∀ a k, a ≠ 42 → wI w2 a k = wI w1 a k := fun a k q => by rw [← hw2, wI_ne (by omega)]
        have hO2 := f2.ok hO
        refine wp_R11_4 hO2 (wp_eq (c_off hV hK2 hO2 isSt_40 hS2 hh hl) (wp_ret ?_))
        have hs2 := (f2.at 223 18 (by omega)).trans hs
        have hM2 := hM.eq (w1 := w2) (fun a k q1 q2 => f2.at a k (by omega))
        refine wp_gd hO2 rfl (wp_eq (q_misHeir hV hO2 hs2 hM2) ?_)
        unfold bz
        rw [if_pos q]
        refine wp_neg (show ¬ (1 : Int) = 0 by decide) (wp_eq (q_misLetter hV hO2 hs2 hM2) ?_)
        unfold bz
        rw [if_pos p]
        refine wp_neg (show ¬ (1 : Int) = 0 by decide) (wp_eq (q_min 1 99) ?_)
        unfold bz
        rw [if_pos o]
        refine wp_neg (show ¬ (1 : Int) = 0 by decide) (wp_call (i_copiesAll hV hO2 hs2 hM2 (hN.2.2.1.eq hV (fun k hk => f2.at 255 _ (by omega))) ((f2.at 255 45 (by omega)).trans (n45 hN)) hy) (fun w3 g3 => ?_))
        have hO3 := g3.1.ok hO2
        refine wp_call (m_lessons hV hN.1 hO3 g3.2.2.1 hh hl (by omega)) (fun w4 g4 => ?_)
        rw [hz] at g4
        have hO4 := g4.1.ok hO3
        refine wp_eq (m_shapeOf hV hO4 g4.2.2 hh hl) (wp_R12_50 hO4 (wp_rI hO4 rfl (by omega) ?_))
        rw [Int.toNat_natCast, g4.2.2.hd hl]
        refine wp_eq (q_apart _ (hK2.2.1 h hh l hl) (hK2.1 l hl)) ?_
        have e58 : wI w4 223 58 = (u : Int) := by rw [g4.1.at 223 58 (by unfold PR; omega), g3.1.at 223 58 (by unfold PK; omega), f2.at 223 58 (by omega), u5]
        refine wp_call (m_keeps u1 hO4 e58) (fun w5 g5 => wp_ret ?_)
        obtain ⟨f5, k1, k2, k3, k4⟩ := g5
        have f6 : Fr (fun a k => PS a k ∨ (52 + 4 * xx ≤ a ∧ a ≤ 52 + 4 * xx + 3) ∨ a = 50 ∨ a = 42 ∨ a = 259 ∨ (a = 223 ∧ k = 58) ∨ a = 255) w w5 := (((f2.mono (fun a k q => by omega)).tr (g3.1.mono (fun a k q => by unfold PK at q; unfold PS; omega))).tr (g4.1.mono (fun a k q => by unfold PR at q; unfold PS; omega))).tr (f5.mono (fun a k q => by unfold PH at q; omega))
        have n5 : ∀ a k, a < 223 → wI w5 a k = wI w2 a k := fun a k q => by rw [f5.at a k (by unfold PH; omega), g4.1.at a k (by unfold PR; omega), g3.1.at a k (by unfold PK; omega)]
        have m4 : ∀ k, k < 2860 → 60 ≤ k ∨ k = 45 → wI w5 255 k = wI w 255 k := fun k hk hk2 => by rw [k1 k hk, g4.1.at 256 k (by unfold PR; omega), g3.2.1 k hk, f2.at 255 k (by omega)]
        have h3 : ∀ a k, a = 259 ∨ a = 255 → wI w4 a k = wI w a k := fun a k q => by rw [g4.1.at a k (by unfold PR; omega), g3.1.at a k (by unfold PK; omega), f2.at a k (by omega)]
        refine ⟨rfl, ?_, f6.2.1, f6.2.2.1⟩
        refine inv_mk hO hv hdr hne hV hW hs hM he hf f6.fb (fun a k q => by unfold PS at q; unfold KT; omega) (σ1 := put σ h l zz) ?_ (past_keep hV hN u1 u2 u6 u7 u8 (Int.le_refl _) ((n5 50 0 (by omega)).trans ((n2 50 0 (by omega)).trans g1.2.2.1)) ((n5 50 1 (by omega)).trans ((n2 50 1 (by omega)).trans g1.2.2.2)) k2 (hk1.eq (fun a k q1 q2 => (n5 a k (by omega)).trans (n2 a k (by omega)))) ((hb_copy (b := 52 + 4 * xx) hN.2.2.2.2.2.2 g1.2.1.2.1).eq (fun k => (n5 _ k (by omega)).trans (n2 _ k (by omega)))) (fun a k q1 q2 q3 => f6.at a k (by unfold PS; omega)) (fun p hp => fr_l f6 49 p) (fun i hi k hk => (k3 i hi k hk).trans (h3 _ _ (by omega))) (fun k hk => (k4 k hk).trans (h3 _ _ (by omega))) (Int.le_refl _)) (slot_eq hV hS (fun a k q => f6.at a k (by unfold PS; omega)) (fun x k _ _ => fr_l f6 x k)) (papr_eq hR (fun a k q => f6.at a k (by unfold PS; omega))) (tape_eq hT (fun a k q => f6.at a k (by unfold PS; omega)))
        refine ⟨hK2, hS2.eq (fun a k q1 q2 => n5 a k (by omega)), ?_, hN.2.2.2.1, ?_, fun p hp => ?_, hN.2.2.2.2.2.2.eq (fun k => f6.at _ k (by unfold PS; omega))⟩
        · exact g4.2.2.2.2.1.eq hV (fun k hk => by rw [Nat.zero_add]; exact k1 k (by omega))
        · rw [Nat.zero_add, m4 45 (by omega) (by omega), n45 hN]; rfl
        · have hp4 : p < 400 := by have : (p : Int) < min (yr σ) 400 := hp; omega
          have o1 := hN.2.2.2.2.2.1 p hp
          rw [fr_l f6, m4 (0 + 66 + 7 * p) (by omega) (by omega)]
          refine ⟨fun l hl => ?_, o1.2⟩
          rw [m4 _ (by omega) (by omega)]; exact o1.1 l hl
      · rw [if_neg o]
        refine wp_pos rfl (wp_ret (wp_gd hO rfl (wp_eq (q_misHeir hV hO hs hM) ?_)))
        unfold bz
        rw [if_pos q]
        refine wp_neg (show ¬ (1 : Int) = 0 by decide) (wp_eq (q_misLetter hV hO hs hM) ?_)
        unfold bz
        rw [if_pos p]
        refine wp_neg (show ¬ (1 : Int) = 0 by decide) (wp_eq (q_min 1 99) ?_)
        unfold bz
        rw [if_neg o]
        exact wp_pos rfl (wp_ret ⟨rfl, hI, rfl, rfl⟩)
    · rw [if_neg p]
      refine wp_pos rfl (wp_ret (wp_gd hO rfl (wp_eq (q_misHeir hV hO hs hM) ?_)))
      unfold bz
      rw [if_pos q]
      refine wp_neg (show ¬ (1 : Int) = 0 by decide) (wp_eq (q_misLetter hV hO hs hM) ?_)
      unfold bz
      rw [if_neg p]
      exact wp_pos rfl (wp_ret ⟨rfl, hI, rfl, rfl⟩)
  · rw [if_neg q]
    refine wp_pos rfl (wp_ret (wp_gd hO rfl (wp_eq (q_misHeir hV hO hs hM) ?_)))
    unfold bz
    rw [if_neg q]
    exact wp_pos rfl (wp_ret ⟨rfl, hI, rfl, rfl⟩)
end K19
