/-! Level 3, read: the class reads a text. -/
section CX
variable {L wl dr : Nat} {c : Nat → Int} {N : Nat}
/-- how reading ends -/
def REND (c : Nat → Int) (N dr : Nat) (w0 : Wd) (res : Sum Ft Sst) (r : Int × Wd) : Prop := FL (PRd dr) QRd w0 r.2 ∧ match res with
  | .inl e => r.1 = (e.1 : Int) ∧ wI r.2 8 0 = (kP c N e.2 : Int)
  | .inr s => r.1 = ((sT s).1 : Int) ∧ ∃ t, CDR c N dr r.2 s t
theorem c_rd292 {w0 w : Wd} {e : Ft} (hO : Ok L wl dr 7 w) (hF : FL (PRd dr) QRd w0 w) (h1 : wI w 8 2 = (e.1 : Int)) (h2 : wI w 8 0 = (kP c N e.2 : Int)) : Wp (Rd_readText_292 8 w) (REND c N dr w0 (.inl e)) := by
  unfold Rd_readText_292
  refine wp_gI hO rfl (wp_ret ⟨hF, h1, h2⟩)
theorem c_rdout {w0 w : Wd} {e : Ft} {m : Nat} {x : Int} (hm : 0 < m) (hO : Ok L wl dr 7 w) (hF : FL (PRd dr) QRd w0 w) (h1 : wI w 8 2 = (e.1 : Int)) (h2 : wI w 8 0 = (kP c N e.2 : Int)) : Wp (Rd_readText_11 m 8 0 x w) (REND c N dr w0 (.inl e)) := by
  obtain ⟨m', rfl⟩ : ∃ m', m = m' + 1 := ⟨m - 1, by omega⟩
  rw [Rd_readText_11]
  exact wp_ite (fun _ => c_rd292 hO hF h1 h2) (fun _ => wp_pos rfl (c_rd292 hO hF h1 h2))
theorem c_rd11 {w0 : Wd} (hd : isWi dr) : ∀ (n m i t : Nat) (s : Sst) (w : Wd), 400 < n + t → n < m → i ≤ t → Ok L wl dr 7 w → CT c N w → CDR c N dr w s t → FL (PRd dr) QRd w0 w → Wp (Rd_readText_11 m 8 1 (i : Int) w) (REND c N dr w0 (rdl (kK c N) (kV c N) (kN c N) n s t))
  | 0, m, i, t, s, w, hn, _, _, _, _, h, _ => absurd hn (by have := h.1.1.1; omega)
  | n + 1, 0, i, t, s, w, _, hm, _, _, _, _, _ => absurd hm (by omega)
  | n + 1, m + 1, i, t, s, w, hn, hm, hi, hO, hT, h, hF => by
    have hC := h.1
    have h4 := hC.1.1
    have er : rdl (kK c N) (kV c N) (kN c N) (n + 1) s t = if kK c N t = 0 then .inr s else sb (stm (kK c N) (kV c N) (kN c N) s t) (fun q => rdl (kK c N) (kV c N) (kN c N) n q.2 q.1) := rfl
    rw [er, Rd_readText_11]
    refine wp_neg (by omega) (wp_neg (by decide) (wp_gI hO rfl ?_))
    by_cases k0 : kK c N t = 0
    · rw [if_pos k0]
      refine wp_pos (show wI w 8 6 = 0 from (hC.is (k := 0) (by unfold kv; omega)).mpr k0) ?_
      unfold Rd_readText_292
      refine wp_gI hO rfl (wp_ret ⟨hF, ?_, t, h⟩)
      rcases h.2.1 with ⟨a1, a2, a3⟩ | ⟨a1, a2, a3⟩
      · show wI w 8 2 = _
        rw [a2, a1]; rfl
      · exact a2
    rw [if_neg k0]
    refine wp_neg (fun q => k0 ((hC.is (k := 0) (by unfold kv; omega)).mp q)) (wp_gI hO rfl ?_)
    have hw : w32 ((i : Int) + 1) = ((i + 1 : Nat) : Int) := by rw [w32_id (by omega) (by omega)]; omega
    -- what follows a statement
    have onF : ∀ e w1, stm (kK c N) (kV c N) (kN c N) s t = .inl e → FL (PRd dr) QRd w w1 → wI w1 8 2 = (e.1 : Int) → wI w1 8 0 = (kP c N e.2 : Int) → Wp (Rd_readText_11 m 8 0 ((i + 1 : Nat) : Int) w1) (REND c N dr w0 (sb (stm (kK c N) (kV c N) (kN c N) s t) (fun q => rdl (kK c N) (kV c N) (kN c N) n q.2 q.1))) := by
      intro e w1 he f1 g1 g2
      rw [he]
      exact c_rdout (by omega) (f1.ok hO) (hF.tr f1) g1 g2
    have onG : ∀ q w1, stm (kK c N) (kV c N) (kN c N) s t = .inr q → FL (PRd dr) QRd w w1 → CDR c N dr w1 q.2 q.1 → Wp (Rd_readText_11 m 8 1 ((i + 1 : Nat) : Int) w1) (REND c N dr w0 (sb (stm (kK c N) (kV c N) (kN c N) s t) (fun q => rdl (kK c N) (kV c N) (kN c N) n q.2 q.1))) := by
      intro q w1 he f1 g1
      have hlt := stm_lt he
      rw [he]
      exact c_rd11 hd n m (i + 1) q.1 q.2 w1 (by omega) (by omega) (by omega) (f1.ok hO) (hT.rd hd f1) g1 (hF.tr f1)
    have hst : stm (kK c N) (kV c N) (kN c N) s t = if kK c N t = 20 then sLetter (kK c N) (kV c N) (kN c N) s t else if kK c N t = 21 then sHeir (kK c N) (kV c N) (kN c N) s t else if kK c N t = 22 then sMaster (kK c N) (kV c N) (kN c N) s t else if kK c N t = 23 then sLearn (kK c N) (kV c N) (kN c N) s t else if kK c N t = 24 then sDrift (kK c N) (kV c N) s t else if kK c N t = 25 then sNum (kK c N) (uDays (kV c N) s) t else if kK c N t = 26 then sNum (kK c N) (uLimit (kV c N) s) t else if kK c N t = 27 then sNum (kK c N) (uSeed (kV c N) s) t else .inl (1, t) := rfl
    generalize stm (kK c N) (kV c N) (kN c N) s t = res at *
    unfold Rd_readText_100 Rd_readText_101 Rd_readText_125 Rd_readText_126 Rd_readText_150 Rd_readText_151 Rd_readText_175 Rd_readText_176 Rd_readText_200 Rd_readText_201 Rd_readText_225 Rd_readText_226 Rd_readText_250 Rd_readText_251 Rd_readText_275 Rd_readText_276 Rd_readText_286
    simp only [hw]
    by_cases c20 : kK c N t = 20
    · rw [if_pos c20] at hst
      refine wp_pos (show wI w 8 6 = 256 from (hC.is (k := 20) (by unfold kv; omega)).mpr c20) (c_disp hd hO hT (c_takeLetter hd hO hT h c20) ?_ onF onG)
      rw [hst]
      unfold sLetter sLetterA
      split
      · rfl
      · simp only [sb_as]; rfl
    rw [if_neg c20] at hst
    refine wp_neg (fun q => c20 ((hC.is (k := 20) (by unfold kv; omega)).mp q)) ?_
    by_cases c21 : kK c N t = 21
    · rw [if_pos c21] at hst
      refine wp_pos (show wI w 8 6 = 257 from (hC.is (k := 21) (by unfold kv; omega)).mpr c21) (c_disp hd hO hT (c_takeHeir hd hO hT h c21) ?_ onF onG)
      rw [hst]
      unfold sHeir sHeirA
      split
      · rfl
      · simp only [sb_as]; rfl
    rw [if_neg c21] at hst
    refine wp_neg (fun q => c21 ((hC.is (k := 21) (by unfold kv; omega)).mp q)) ?_
    by_cases c22 : kK c N t = 22
    · rw [if_pos c22] at hst
      refine wp_pos (show wI w 8 6 = 258 from (hC.is (k := 22) (by unfold kv; omega)).mpr c22) (c_disp hd hO hT (c_takeMaster hd hO hT h c22) ?_ onF onG)
      rw [hst]
      unfold sMaster sMasterA
      split
      · rfl
      · simp only [sb_as]; rfl
    rw [if_neg c22] at hst
    refine wp_neg (fun q => c22 ((hC.is (k := 22) (by unfold kv; omega)).mp q)) ?_
    by_cases c23 : kK c N t = 23
    · rw [if_pos c23] at hst
      refine wp_pos (show wI w 8 6 = 259 from (hC.is (k := 23) (by unfold kv; omega)).mpr c23) (c_disp hd hO hT (c_takeLearn hd hO hT h c23) ?_ onF onG)
      rw [hst]
      unfold sLearn sLearnA
      simp only [sb_as]; rfl
    rw [if_neg c23] at hst
    refine wp_neg (fun q => c23 ((hC.is (k := 23) (by unfold kv; omega)).mp q)) ?_
    by_cases c24 : kK c N t = 24
    · rw [if_pos c24] at hst
      refine wp_pos (show wI w 8 6 = 260 from (hC.is (k := 24) (by unfold kv; omega)).mpr c24) (c_disp hd hO hT (c_takeDrift hd hO hT h c24) ?_ onF onG)
      rw [hst]
      unfold sDrift sDriftA
      simp only [sb_as]; rfl
    rw [if_neg c24] at hst
    refine wp_neg (fun q => c24 ((hC.is (k := 24) (by unfold kv; omega)).mp q)) ?_
    have num : ∀ u : Nat → Sst, sNum (kK c N) u t = sb (sNumA (kK c N) u t) (fun q => sb (ex (kK c N) 4 q.1) (fun t4 => .inr (t4, q.2))) := by
      intro u
      unfold sNum sNumA
      simp only [sb_as]; rfl
    have kpos : ∀ t1, kK c N t1 = 2 → 0 ≤ kV c N t1 := fun t1 h => (tV_bd h).1
    by_cases c25 : kK c N t = 25
    · rw [if_pos c25] at hst
      refine wp_pos (show wI w 8 6 = 261 from (hC.is (k := 25) (by unfold kv; omega)).mpr c25) (c_disp hd hO hT ?_ (hst.trans (num _)) onF onG)
      unfold Rd_takeDays Rd_takeDays_0 Rd_takeDays_16
      exact wp_gd hO rfl (c_takeNum (x := 3) (by omega) hd hO hT h (by omega) (fun t1 h1 => ⟨rfl, rfl, rfl, rfl, rfl, rfl, rfl, by rw [if_pos rfl]; show (((kV c N t1).toNat : Nat) : Int) = _; have := kpos t1 h1; omega, rfl, rfl⟩))
    rw [if_neg c25] at hst
    refine wp_neg (fun q => c25 ((hC.is (k := 25) (by unfold kv; omega)).mp q)) ?_
    by_cases c26 : kK c N t = 26
    · rw [if_pos c26] at hst
      refine wp_pos (show wI w 8 6 = 262 from (hC.is (k := 26) (by unfold kv; omega)).mpr c26) (c_disp hd hO hT ?_ (hst.trans (num _)) onF onG)
      unfold Rd_takeLimit Rd_takeLimit_0 Rd_takeLimit_17
      exact wp_gd hO rfl (c_takeNum (x := 4) (by omega) hd hO hT h (by omega) (fun t1 h1 => ⟨rfl, rfl, rfl, rfl, rfl, rfl, rfl, rfl, rfl, rfl⟩))
    rw [if_neg c26] at hst
    refine wp_neg (fun q => c26 ((hC.is (k := 26) (by unfold kv; omega)).mp q)) ?_
    by_cases c27 : kK c N t = 27
    · rw [if_pos c27] at hst
      refine wp_pos (show wI w 8 6 = 263 from (hC.is (k := 27) (by unfold kv; omega)).mpr c27) (c_disp hd hO hT ?_ (hst.trans (num _)) onF onG)
      unfold Rd_takeSeed Rd_takeSeed_0 Rd_takeSeed_17
      exact wp_gd hO rfl (c_takeNum (x := 5) (by omega) hd hO hT h (by omega) (fun t1 h1 => ⟨rfl, rfl, rfl, rfl, rfl, rfl, rfl, rfl, rfl, rfl⟩))
    rw [if_neg c27] at hst
    refine wp_neg (fun q => c27 ((hC.is (k := 27) (by unfold kv; omega)).mp q)) (wp_call (c_refuse (x := 1) hO hT hC.2.1 hC.1.1 hC.1.2) (fun r hr => ?_))
    rw [hr.1]
    exact onF (1, t) r.2 hst (hr.2.1.mono (fun a k q => Or.inl q.1) (fun a k q => absurd q id)) hr.2.2.1 hr.2.2.2
theorem c_clearA {w0 : Wd} (hd : isWi dr) : ∀ (r m k : Nat) (w : Wd), k + r = 36 → r < m → Ok L wl dr 7 w → Fr (fun a _ => a = dr + 4) w0 w → (∀ j, j < k → wI w (dr + 4) j = 50) → Wp (Wi_clear_89 m dr (k : Int) w) (fun w1 => Fr (fun a _ => a = dr + 4) w0 w1 ∧ ∀ j, j < 36 → wI w1 (dr + 4) j = 50)
  | r, 0, k, w, _, hm, _, _, _ => absurd hm (by omega)
  | 0, m + 1, k, w, hk, hm, hO, hF, hZ => by
    rw [Wi_clear_89]
    exact wp_R10_10 hO hd (wp_al (n := 36) (t := 20) hO (sh_Wi_10 L hd) (by decide) (wp_pos (by omega) (wp_ret ⟨hF, fun j hj => hZ j (by omega)⟩)))
  | r + 1, m + 1, k, w, hk, hm, hO, hF, hZ => by
    rw [Wi_clear_89]
    refine wp_R10_10 hO hd (wp_al (n := 36) (t := 20) hO (sh_Wi_10 L hd) (by decide) (wp_neg (by omega) (wp_R10_10 hO hd (wp_wI hO (sh_Wi_10 L hd) (by omega) ?_))))
    rw [Int.toNat_natCast, w32_id (z := (k : Int) + 1) (by omega) (by omega), show (k : Int) + 1 = ((k + 1 : Nat) : Int) by omega]
    refine c_clearA hd r m (k + 1) _ (by omega) (by omega) hO.sI (hF.sI rfl) (fun j hj => ?_)
    by_cases e : j = k
    · rw [e, wI_eq]
    · rw [wI_ne (by omega)]; exact hZ j (by omega)
theorem c_clearB {w0 : Wd} (hd : isWi dr) : ∀ (r m k : Nat) (w : Wd), k + r = 6 → r < m → Ok L wl dr 7 w → Fr (fun a _ => a = dr + 6) w0 w → (∀ j, j < k → wI w (dr + 6) j = -1) → Wp (Wi_clear_68 m dr (k : Int) w) (fun w1 => Fr (fun a _ => a = dr + 6 ∨ a = dr + 4) w0 w1 ∧ (∀ j, j < 6 → wI w1 (dr + 6) j = -1) ∧ ∀ j, j < 36 → wI w1 (dr + 4) j = 50)
  | r, 0, k, w, _, hm, _, _, _ => absurd hm (by omega)
  | 0, m + 1, k, w, hk, hm, hO, hF, hZ => by
    rw [Wi_clear_68]
    unfold Wi_clear_87
    generalize hFU : FU = fu
    have hfu : 1000000 = fu := hFU
    refine wp_pos (by omega) (wp_use (c_clearA (w0 := w) hd 36 fu 0 w (by omega) (by omega) hO (Fr.rf w) (fun j hj => absurd hj (by omega))) (fun w1 g => ⟨(hF.mono (fun a k q => Or.inl q)).tr (g.1.mono (fun a k q => Or.inr q)), fun j hj => ?_, g.2⟩))
    rw [g.1.at _ _ (by omega)]; exact hZ j (by omega)
  | r + 1, m + 1, k, w, hk, hm, hO, hF, hZ => by
    rw [Wi_clear_68]
    refine wp_neg (by omega) (wp_R10_12 hO hd (wp_wI hO (sh_Wi_12 L hd) (by omega) ?_))
    rw [Int.toNat_natCast, w32_id (z := (k : Int) + 1) (by omega) (by omega), show (k : Int) + 1 = ((k + 1 : Nat) : Int) by omega]
    refine c_clearB hd r m (k + 1) _ (by omega) (by omega) hO.sI (hF.sI rfl) (fun j hj => ?_)
    by_cases e : j = k
    · rw [e, wI_eq]
    · rw [wI_ne (by omega)]; exact hZ j (by omega)
theorem c_clearC {w0 : Wd} (hd : isWi dr) : ∀ (r m k : Nat) (w : Wd), k + r = 6 → r < m → Ok L wl dr 7 w → Fr (fun a _ => a = dr + 1) w0 w → (∀ j, j < k → wI w (dr + 1) j = 0) → Wp (Wi_clear_47 m dr (k : Int) w) (fun w1 => Fr (fun a _ => a = dr + 1 ∨ a = dr + 6 ∨ a = dr + 4) w0 w1 ∧ (∀ j, j < 6 → wI w1 (dr + 6) j = -1) ∧ (∀ j, j < 36 → wI w1 (dr + 4) j = 50) ∧ ∀ j, j < 6 → wI w1 (dr + 1) j = 0)
  | r, 0, k, w, _, hm, _, _, _ => absurd hm (by omega)
  | 0, m + 1, k, w, hk, hm, hO, hF, hZ => by
    rw [Wi_clear_47]
    unfold Wi_clear_66
    generalize hFU : FU = fu
    have hfu : 1000000 = fu := hFU
    refine wp_pos (by omega) (wp_use (c_clearB (w0 := w) hd 6 fu 0 w (by omega) (by omega) hO (Fr.rf w) (fun j hj => absurd hj (by omega))) (fun w1 g => ⟨(hF.mono (fun a k q => Or.inl q)).tr (g.1.mono (fun a k q => Or.inr q)), g.2.1, g.2.2, fun j hj => ?_⟩))
    rw [g.1.at _ _ (by omega)]; exact hZ j (by omega)
  | r + 1, m + 1, k, w, hk, hm, hO, hF, hZ => by
    rw [Wi_clear_47]
    refine wp_neg (by omega) (wp_R10_7 hO hd (wp_wI hO (sh_Wi_7 L hd) (by omega) ?_))
    rw [Int.toNat_natCast, w32_id (z := (k : Int) + 1) (by omega) (by omega), show (k : Int) + 1 = ((k + 1 : Nat) : Int) by omega]
    refine c_clearC hd r m (k + 1) _ (by omega) (by omega) hO.sI (hF.sI rfl) (fun j hj => ?_)
    by_cases e : j = k
    · rw [e, wI_eq]
    · rw [wI_ne (by omega)]; exact hZ j (by omega)
theorem c_clear {w : Wd} (hd : isWi dr) (hO : Ok L wl dr 7 w) : Wp (Wi_clear dr w) (fun w1 => Fr (fun a _ => dr ≤ a ∧ a ≤ dr + 9) w w1 ∧ CDF w1 dr s0 ∧ wI w1 (dr + 7) 0 = 0 ∧ (∀ j, j < 6 → wI w1 (dr + 6) j = -1) ∧ wI w1 dr 6 = -1) := by
  have hb := wi_bd hd
  unfold Wi_clear Wi_clear_0
  generalize hFU : FU = fu; have hfu : 1000000 = fu := hFU
  refine wp_gd hO (sh_Wi L hd) (wp_pI hO (sh_Wi L hd) ?_)
  generalize hw1 : sI w dr 0 0 = w1
  have hO1 : Ok L wl dr 7 w1 := by rw [← hw1]; exact hO.sI
  have f1 : Fr (fun a _ => dr ≤ a ∧ a ≤ dr + 9) w w1 := by rw [← hw1]; exact fr_sI (by omega)
  have v1 : wI w1 dr 0 = 0 := by rw [← hw1, wI_eq]
  refine wp_pI hO1 (sh_Wi L hd) ?_
  generalize hw2 : sI w1 dr 1 0 = w2
  have hO2 : Ok L wl dr 7 w2 := by rw [← hw2]; exact hO1.sI
  have f2 : Fr (fun a _ => dr ≤ a ∧ a ≤ dr + 9) w w2 := by rw [← hw2]; exact f1.sI (by omega)
  have v2 : wI w2 dr 0 = 0 ∧ wI w2 dr 1 = 0 := by rw [← hw2]; exact ⟨(wI_ne (by omega)).trans v1, wI_eq _ _ _ _⟩
  refine wp_pI hO2 (sh_Wi L hd) ?_
  generalize hw3 : sI w2 dr 2 0 = w3
  have hO3 : Ok L wl dr 7 w3 := by rw [← hw3]; exact hO2.sI
  have f3 : Fr (fun a _ => dr ≤ a ∧ a ≤ dr + 9) w w3 := by rw [← hw3]; exact f2.sI (by omega)
  have v3 : (wI w3 dr 0 = 0 ∧ wI w3 dr 1 = 0) ∧ wI w3 dr 2 = 0 := by rw [← hw3]; exact ⟨⟨(wI_ne (by omega)).trans v2.1, (wI_ne (by omega)).trans v2.2⟩, wI_eq _ _ _ _⟩
  refine wp_pI hO3 (sh_Wi L hd) ?_
  generalize hw4 : sI w3 dr 3 3 = w4
  have hO4 : Ok L wl dr 7 w4 := by rw [← hw4]; exact hO3.sI
  have f4 : Fr (fun a _ => dr ≤ a ∧ a ≤ dr + 9) w w4 := by rw [← hw4]; exact f3.sI (by omega)
  have v4 : ((wI w4 dr 0 = 0 ∧ wI w4 dr 1 = 0) ∧ wI w4 dr 2 = 0) ∧ wI w4 dr 3 = 3 := by rw [← hw4]; exact ⟨⟨⟨(wI_ne (by omega)).trans v3.1.1, (wI_ne (by omega)).trans v3.1.2⟩, (wI_ne (by omega)).trans v3.2⟩, wI_eq _ _ _ _⟩
  refine wp_pI hO4 (sh_Wi L hd) ?_
  generalize hw5 : sI w4 dr 4 9999 = w5
  have hO5 : Ok L wl dr 7 w5 := by rw [← hw5]; exact hO4.sI
  have f5 : Fr (fun a _ => dr ≤ a ∧ a ≤ dr + 9) w w5 := by rw [← hw5]; exact f4.sI (by omega)
  have n5 : ∀ k, k ≠ 4 → wI w5 dr k = wI w4 dr k := fun k q => by rw [← hw5, wI_ne (by omega)]
  have v5 : wI w5 dr 4 = 9999 := by rw [← hw5, wI_eq]
  refine wp_pI hO5 (sh_Wi L hd) ?_
  generalize hw6 : sI w5 dr 5 0 = w6
  have hO6 : Ok L wl dr 7 w6 := by rw [← hw6]; exact hO5.sI
  have f6 : Fr (fun a _ => dr ≤ a ∧ a ≤ dr + 9) w w6 := by rw [← hw6]; exact f5.sI (by omega)
  have n6 : ∀ k, k ≠ 5 → wI w6 dr k = wI w5 dr k := fun k q => by rw [← hw6, wI_ne (by omega)]
  have v6 : wI w6 dr 5 = 0 := by rw [← hw6, wI_eq]
  refine wp_pI hO6 (sh_Wi L hd) ?_
  generalize hw7 : sI w6 dr 6 (-1) = w7
  have hO7 : Ok L wl dr 7 w7 := by rw [← hw7]; exact hO6.sI
  have f7 : Fr (fun a _ => dr ≤ a ∧ a ≤ dr + 9) w w7 := by rw [← hw7]; exact f6.sI (by omega)
  have n7 : ∀ k, k ≠ 6 → wI w7 dr k = wI w6 dr k := fun k q => by rw [← hw7, wI_ne (by omega)]
  have v7 : wI w7 dr 6 = -1 := by rw [← hw7, wI_eq]
  refine wp_R10_13 hO7 hd (wp_pI hO7 (sh_Lw L (isLw_of hd)) ?_)
  generalize hw8 : sI w7 (dr + 7) 0 0 = w8
  have hO8 : Ok L wl dr 7 w8 := by rw [← hw8]; exact hO7.sI
  have f8 : Fr (fun a _ => dr ≤ a ∧ a ≤ dr + 9) w w8 := by rw [← hw8]; exact f7.sI (by omega)
  have n8 : ∀ k, wI w8 dr k = wI w7 dr k := fun k => by rw [← hw8, wI_ne (by omega)]
  have v8 : wI w8 (dr + 7) 0 = 0 := by rw [← hw8, wI_eq]
  refine wp_use (c_clearC (w0 := w8) hd 6 fu 0 w8 (by omega) (by omega) hO8 (Fr.rf w8) (fun j hj => absurd hj (by omega))) (fun w9 g => ?_)
  obtain ⟨g1, g2, g3, g4⟩ := g
  have n9 : ∀ k, wI w9 dr k = wI w8 dr k := fun k => g1.at _ _ (by omega)
  refine ⟨f8.tr (g1.mono (fun a k q => by omega)), ⟨⟨by decide, by decide, by decide⟩, ⟨?_, ?_, ?_, ?_, ?_, ?_⟩, fun l hl => (g4 l hl).trans (if_neg (Nat.not_lt_zero l)).symm, fun x hx => absurd hx (Nat.not_lt_zero _), fun x hx l hl => ?_⟩, (g1.at _ _ (by omega)).trans v8, g2, ?_⟩
  · rw [n9, n8, n7 _ (by omega), n6 _ (by omega), n5 _ (by omega), v4.1.1.1]; rfl
  · rw [n9, n8, n7 _ (by omega), n6 _ (by omega), n5 _ (by omega), v4.1.1.2]; rfl
  · rw [n9, n8, n7 _ (by omega), n6 _ (by omega), n5 _ (by omega), v4.1.2]; rfl
  · rw [n9, n8, n7 _ (by omega), n6 _ (by omega), n5 _ (by omega), v4.2]; rfl
  · rw [n9, n8, n7 _ (by omega), n6 _ (by omega), v5]; rfl
  · rw [n9, n8, n7 _ (by omega), v6]; rfl
  · rw [g3 _ (by omega)]
    exact (if_neg (Nat.not_lt_zero x)).symm
  · rw [n9, n8, v7]
end CX
