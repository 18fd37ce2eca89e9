/-! Level 3: calls that look at the book, at slots, at the past. -/
section K16
variable {L wl dr tx s b : Nat} {w : Wd} {V : Vl} {σ : Sg} {x y z Y : Int}
theorem c_led (hO : Ok L wl dr tx w) (hb : isSt b) : St_led b w = some (min (wI w b 0) 400, w) := by
  refine wp_out ?_
  unfold St_led St_led_0
  exact wp_gd hO (sh_St L hb) (wp_gI hO (sh_St L hb) (wp_ret rfl))
theorem c_led40 (hO : Ok L wl dr tx w) (hN : NOW w V Y σ) : St_led 40 w = some (min (yr σ) 400, w) := by
  rw [c_led hO isSt_40, hN.2.1.1]
theorem n45 (hN : NOW w V Y σ) : wI w 255 45 = min (yr σ) 400 := by
  have e := hN.2.2.2.2.1
  rw [Nat.zero_add] at e
  exact e
theorem n42 (hN : NOW w V Y σ) : wI w 255 42 = yr σ := by
  have e := hN.2.2.1.1
  rw [Nat.zero_add] at e
  exact e
theorem n66 {p : Nat} (hN : NOW w V Y σ) (hp : (p : Int) < min (yr σ) 400) : pgo (wL w 49 p) = cow (wI w 255 (66 + 7 * p)) ∧ -1 ≤ wI w 255 (66 + 7 * p) ∧ wI w 255 (66 + 7 * p) < (nh V : Int) := by
  have e := (hN.2.2.2.2.2.1 p hp).2
  rw [Nat.zero_add] at e
  exact ⟨e.1, e.2.1.1, e.2.1.2⟩
theorem n60 {p l : Nat} (hN : NOW w V Y σ) (hp : (p : Int) < min (yr σ) 400) (hl : l < nl V) : wI w 255 (60 + 7 * p + l) = pgh (wL w 49 p) l ∧ 0 ≤ pgh (wL w 49 p) l ∧ pgh (wL w 49 p) l ≤ 99 := by
  have e := (hN.2.2.2.2.2.1 p hp).1 l hl
  rw [Nat.zero_add] at e
  exact e
theorem nk {p : Nat} (hN : NOW w V Y σ) (hp : (p : Int) < min (yr σ) 400) : pgk (wL w 49 p) := (hN.2.2.2.2.2.1 p hp).2.2.2
theorem q_handOf {p l : Nat} (hO : Ok L wl dr tx w) (hk : pgk (wL w 49 p)) (hp : p < 400) (hl : l < 6) : Bk_handOf 48 (p : Int) (l : Int) w = some (pgh (wL w 49 p) l, w) := by
  refine wp_out ?_
  unfold Bk_handOf Bk_handOf_0
  refine wp_gd hO (sh_Bk L isBk_48) (wp_R0_0 hO isBk_48 (wp_rL hO (sh_Bk_0 L isBk_48) (by omega) (wp_ret ?_)))
  rw [Int.toNat_natCast]
  show (oand (w32 (olushr (wL w 49 p) (w32 (7 * (l : Int))))) 127, w) = _
  rw [pgh_bits hk hl]
theorem q_givenIn {p : Nat} (hO : Ok L wl dr tx w) (hk : pgk (wL w 49 p)) (hp : p < 400) : Bk_givenIn 48 (p : Int) w = some (pgo (wL w 49 p), w) := by
  refine wp_out ?_
  unfold Bk_givenIn Bk_givenIn_0
  refine wp_gd hO (sh_Bk L isBk_48) (wp_R0_0 hO isBk_48 (wp_rL hO (sh_Bk_0 L isBk_48) (by omega) (wp_ret ?_)))
  rw [Int.toNat_natCast]
  show (w32 (w32 (olushr (wL w 49 p) 42) + (-2)), w) = _
  rw [pgo_bits hk]
theorem ix66 {p : Nat} (hp : p < 400) : w32 (66 + w32 (7 * (p : Int))) = ((66 + 7 * p : Nat) : Int) := by
  rw [w32_id (z := 7 * (p : Int)) (by omega) (by omega), w32_id (by omega) (by omega)]
  omega
theorem ix60 {p l : Nat} (hp : p < 400) (hl : l < 6) : w32 (w32 (60 + w32 (7 * (p : Int))) + (l : Int)) = ((60 + 7 * p + l : Nat) : Int) := by
  rw [w32_id (z := 7 * (p : Int)) (by omega) (by omega), w32_id (z := 60 + 7 * (p : Int)) (by omega) (by omega), w32_id (by omega) (by omega)]
  omega
theorem call_book (h : INV L w Y) : CALL L w Y (Hh_book 6 x y) (Mo_book 223 x y) := by
  have hI := h
  obtain ⟨wl, dr, tx, s, V, σ, hO, hv, hdr, hne, hV, hW, hs, hM, hN, -⟩ := h
  have hy := hN.2.2.2.1.1
  have h6 := hV.1
  unfold CALL Hh_book Hh_book_0 Hh_book_15 Hh_book_52 Mo_book Mo_book_0 Mo_book_66
  have bad : ¬ (0 ≤ x ∧ x ≤ min (yr σ) 400 - 1) → Wp (gd 12 w 223 ((fgR w 223 12 49).bind fun v3 => (rdI w v3 45).bind fun v8 => (Mo_in x 0 (w32 (v8 - 1)) w).bind fun r11 => if (r11.1 : Int) = 0 then some ((-1), r11.2) else if (y : Int) = (-1) then (fgR r11.2 223 12 49).bind fun v25 => (rdI r11.2 v25 (w32 (66 + (w32 (7 * x))))).bind fun v35 => (Mo_orNobody v35 r11.2).bind fun r36 => some (r36.1, r36.2) else (Mo_isLetterAt 223 y r11.2).bind fun r42 => if (r42.1 : Int) = 0 then some (-1, r42.2) else (fgR r42.2 223 12 49).bind fun v49 => (rdI r42.2 v49 (w32 ((w32 (60 + (w32 (7 * x)))) + y))).bind fun v61 => some (v61, r42.2))) (fun q => q.1 = -1 ∧ INV L q.2 Y ∧ wn q.2 = wn w ∧ wz q.2 = wz w) := by
    intro q
    refine wp_gd hO rfl (wp_R12_49 hO (wp_rI hO rfl (by omega) ?_))
    rw [show wI w 255 (45 : Int).toNat = wI w 255 45 from rfl, n45 hN, w32_id (by omega) (by omega)]
    refine wp_eq (q_min _ _) ?_
    unfold bz
    rw [if_neg q]
    exact wp_pos rfl (wp_ret ⟨rfl, hI, rfl, rfl⟩)
  refine wp_gd hO rfl (wp_ite (fun q => wp_ret (bad (by omega))) (fun q => wp_R11_4 hO (wp_eq (c_led40 hO hN) (wp_ite (fun p => ?_) (fun p => wp_ret (bad (by omega)))))))
  have p : x < min (yr σ) 400 := p
  obtain ⟨a, rfl⟩ := Int.eq_ofNat_of_zero_le (show 0 ≤ x by omega)
  have ha4 : a < 400 := by omega
  have good : ∀ (v : Int), (v = if y = -1 then pgo (wL w 49 a) else if 0 ≤ y ∧ y < (nl V : Int) then pgh (wL w 49 a) y.toNat else -1) → Wp (gd 12 w 223 ((fgR w 223 12 49).bind fun v3 => (rdI w v3 45).bind fun v8 => (Mo_in (a : Int) 0 (w32 (v8 - 1)) w).bind fun r11 => if (r11.1 : Int) = 0 then some ((-1), r11.2) else if (y : Int) = (-1) then (fgR r11.2 223 12 49).bind fun v25 => (rdI r11.2 v25 (w32 (66 + (w32 (7 * (a : Int)))))).bind fun v35 => (Mo_orNobody v35 r11.2).bind fun r36 => some (r36.1, r36.2) else (Mo_isLetterAt 223 y r11.2).bind fun r42 => if (r42.1 : Int) = 0 then some (-1, r42.2) else (fgR r42.2 223 12 49).bind fun v49 => (rdI r42.2 v49 (w32 ((w32 (60 + (w32 (7 * (a : Int))))) + y))).bind fun v61 => some (v61, r42.2))) (fun q => q.1 = v ∧ INV L q.2 Y ∧ wn q.2 = wn w ∧ wz q.2 = wz w) := by
    intro v hv'
    refine wp_gd hO rfl (wp_R12_49 hO (wp_rI hO rfl (by omega) ?_))
    rw [show wI w 255 (45 : Int).toNat = wI w 255 45 from rfl, n45 hN, w32_id (by omega) (by omega)]
    refine wp_eq (q_min _ _) ?_
    unfold bz
    rw [if_pos (show 0 ≤ (a : Int) ∧ (a : Int) ≤ min (yr σ) 400 - 1 by omega)]
    refine wp_neg (show ¬ (1 : Int) = 0 by decide) ?_
    by_cases hy1 : y = -1
    · rw [if_pos hy1] at hv'
      rw [if_pos hy1]
      refine wp_R12_49 hO ?_
      rw [ix66 ha4]
      refine wp_rI hO rfl (by omega) (wp_eq (q_orNobody _) (wp_ret ⟨?_, hI, rfl, rfl⟩))
      rw [hv', Int.toNat_natCast]
      exact (n66 hN p).1.symm
    · rw [if_neg hy1] at hv'
      rw [if_neg hy1]
      refine wp_eq (q_misLetter hV hO hs hM) ?_
      unfold bz
      by_cases hl : 0 ≤ y ∧ y < (nl V : Int)
      · rw [if_pos hl] at hv' ⊢
        obtain ⟨l, rfl⟩ := Int.eq_ofNat_of_zero_le hl.1
        refine wp_neg (show ¬ (1 : Int) = 0 by decide) (wp_R12_49 hO ?_)
        rw [ix60 ha4 (by omega)]
        refine wp_rI hO rfl (by omega) (wp_ret ⟨?_, hI, rfl, rfl⟩)
        rw [hv', Int.toNat_natCast, Int.toNat_natCast]
        exact (n60 hN p (by omega)).1
      · rw [if_neg hl] at hv' ⊢
        exact wp_pos rfl (wp_ret ⟨hv'.symm, hI, rfl, rfl⟩)
  refine wp_ite (fun hy1 => wp_R11_6 hO (wp_eq (q_givenIn hO (nk hN p) ha4) (wp_ret (good _ ?_)))) (fun hy1 => wp_eq (q_isLetter hO hv hW) ?_)
  · rw [if_pos hy1]
  unfold bz
  by_cases hl : 0 ≤ y ∧ y < (nl V : Int)
  · rw [if_pos hl]
    refine wp_neg (show ¬ (1 : Int) = 0 by decide) (wp_R11_6 hO ?_)
    have hq := q_handOf (p := a) (l := y.toNat) hO (nk hN p) ha4 (by omega)
    rw [show ((y.toNat : Nat) : Int) = y by omega] at hq
    refine wp_eq hq (wp_ret (good _ ?_))
    rw [if_neg hy1, if_pos hl]
  · rw [if_neg hl]
    refine wp_pos rfl (wp_ret (good _ ?_))
    rw [if_neg hy1, if_neg hl]
theorem c_full {w : Wd} (hO : Ok L wl dr tx w) : ∀ (r n i : Nat) (c : Int), i + r = 3 → r < n → Hh_fullSlots_4 n 6 c (i : Int) w = some (if r = 0 then c else if r = 1 then (if wI w (202 + 7 * i) 0 = 0 then c else w32 (c + 1)) else if r = 2 then (if wI w (202 + 7 * (i + 1)) 0 = 0 then (if wI w (202 + 7 * i) 0 = 0 then c else w32 (c + 1)) else w32 ((if wI w (202 + 7 * i) 0 = 0 then c else w32 (c + 1)) + 1)) else (if wI w (202 + 7 * (i + 2)) 0 = 0 then (if wI w (202 + 7 * (i + 1)) 0 = 0 then (if wI w (202 + 7 * i) 0 = 0 then c else w32 (c + 1)) else w32 ((if wI w (202 + 7 * i) 0 = 0 then c else w32 (c + 1)) + 1)) else w32 ((if wI w (202 + 7 * (i + 1)) 0 = 0 then (if wI w (202 + 7 * i) 0 = 0 then c else w32 (c + 1)) else w32 ((if wI w (202 + 7 * i) 0 = 0 then c else w32 (c + 1)) + 1)) + 1)), w)
  | r, 0, i, c, _, hn => absurd hn (by omega)
  | 0, n + 1, i, c, hi, hn => by
    rw [Hh_fullSlots_4, if_pos (by omega)]
    rfl
  | r + 1, n + 1, i, c, hi, hn => by
    have ih := fun c => c_full hO r n (i + 1) c (by omega) (by omega)
    refine wp_out ?_
    rw [Hh_fullSlots_4]
    refine wp_neg (by omega) (wp_R11_8 hO (wp_173 hO (by omega) ?_))
    rw [Int.toNat_natCast]
    refine wp_gI hO (sh_Sl L (isSl_in173 (by omega))) ?_
    unfold Hh_fullSlots_24
    rw [w32_id (z := (i : Int) + 1) (by omega) (by omega), show (i : Int) + 1 = ((i + 1 : Nat) : Int) by omega]
    have e : (if wI w (202 + 7 * i) 0 = 0 then Hh_fullSlots_4 n 6 c ((i + 1 : Nat) : Int) w else Hh_fullSlots_4 n 6 (w32 (c + 1)) ((i + 1 : Nat) : Int) w) = Hh_fullSlots_4 n 6 (if wI w (202 + 7 * i) 0 = 0 then c else w32 (c + 1)) ((i + 1 : Nat) : Int) w := by split <;> rfl
    rw [e]
    refine wp_is (ih _) ?_
    rcases (show r = 0 ∨ r = 1 ∨ r = 2 by omega) with rfl | rfl | rfl <;> simp [Nat.add_assoc]
theorem call_count (h : INV L w Y) : CALL L w Y (Hh_count 6 x) (Mo_count 223 x) := by
  have hI := h
  obtain ⟨wl, dr, tx, s, V, σ, hO, hv, hdr, hne, hV, hW, hs, hM, hN, ⟨u, x', τ, u1, u2, u3, u4, u5, -⟩, hS, ⟨n, n20, c1, m1, hp⟩, ⟨t, t1, t2, t3, t4⟩, he, hf⟩ := h
  have hs1 := hM.1
  obtain ⟨m0, m1', m2, m3, m4, m5⟩ := hM.2.1
  obtain ⟨w0, w1, w2, w3, w4, w5⟩ := hW.1
  have nw := wi_ne hv
  have e42 := n42 hN
  have e45 := n45 hN
  have e43 : wI w 255 43 = ow σ := by have e := hN.2.2.1.2.2.1; rw [Nat.zero_add] at e; exact e
  have e44 : wI w 255 44 = wo σ := by have e := hN.2.2.1.2.1; rw [Nat.zero_add] at e; exact e
  obtain ⟨s0, -⟩ := hS 0 (by omega)
  obtain ⟨s1', -⟩ := hS 1 (by omega)
  obtain ⟨s2, -⟩ := hS 2 (by omega)
  unfold CALL
  have C : ∀ v, Mo_count 223 x w = some (v, w) → Hh_count 6 x w = some (v, w) → Wp (Hh_count 6 x w) (fun r => Wp (Mo_count 223 x r.2) (fun q => q.1 = r.1 ∧ INV L q.2 Y ∧ wn q.2 = wn w ∧ wz q.2 = wz w)) := fun v h1 h2 => wp_is h2 (wp_is h1 ⟨rfl, hI, rfl, rfl⟩)
  have G : Mo_count 223 x w = Mo_count_0 223 x w := ok_gd hO rfl
  have G2 : Hh_count 6 x w = Hh_count_0 6 x w := ok_gd hO rfl
  by_cases q0 : x = 0
  · refine C (nl V : Int) ?_ ?_
    · rw [G]; refine wp_out ?_; unfold Mo_count_0; refine wp_pos q0 (wp_R12_23 hO (wp_gI hO rfl ?_)); rw [hs]; refine wp_rI hO rfl (by omega) (wp_ret ?_); rw [Int.toNat_natCast, m0]
    · rw [G2]; refine wp_out ?_; unfold Hh_count_0; refine wp_pos q0 (wp_R11_3 hO nw (wp_gI hO (sh_Wi L hv) (wp_ret ?_))); rw [w0]
  by_cases q1 : x = 1
  · refine C (nh V : Int) ?_ ?_
    · rw [G]; refine wp_out ?_; unfold Mo_count_0; refine wp_neg q0 (wp_pos q1 (wp_R12_25 hO (wp_gI hO rfl ?_))); rw [hs]; refine wp_rI hO rfl (by omega) (wp_ret ?_); rw [Int.toNat_natCast, m1']
    · rw [G2]; refine wp_out ?_; unfold Hh_count_0; refine wp_neg q0 (wp_pos q1 (wp_R11_3 hO nw (wp_gI hO (sh_Wi L hv) (wp_ret ?_)))); rw [w1]
  by_cases q2 : x = 2
  · refine C (nm V : Int) ?_ ?_
    · rw [G]; refine wp_out ?_; unfold Mo_count_0; refine wp_neg q0 (wp_neg q1 (wp_pos q2 (wp_R12_29 hO (wp_gI hO rfl ?_)))); rw [hs]; refine wp_rI hO rfl (by omega) (wp_ret ?_); rw [Int.toNat_natCast, m2]
    · rw [G2]; refine wp_out ?_; unfold Hh_count_0; refine wp_neg q0 (wp_neg q1 (wp_pos q2 (wp_R11_3 hO nw (wp_gI hO (sh_Wi L hv) (wp_ret ?_))))); rw [w2]
  by_cases q3 : x = 3
  · refine C (yr σ) ?_ ?_
    · rw [G]; refine wp_out ?_; unfold Mo_count_0; refine wp_neg q0 (wp_neg q1 (wp_neg q2 (wp_pos q3 (wp_R12_49 hO (wp_rI hO rfl (by omega) (wp_ret ?_)))))); rw [show (42 : Int).toNat = 42 from rfl, e42]
    · rw [G2]; refine wp_out ?_; unfold Hh_count_0; refine wp_neg q0 (wp_neg q1 (wp_neg q2 (wp_pos q3 (wp_R11_4 hO (wp_gI hO (sh_St L isSt_40) (wp_ret ?_)))))); rw [hN.2.1.1]
  by_cases q4 : x = 4
  · refine C (cow (ow σ)) ?_ ?_
    · rw [G]; refine wp_out ?_; unfold Mo_count_0; refine wp_neg q0 (wp_neg q1 (wp_neg q2 (wp_neg q3 (wp_pos q4 (wp_R12_49 hO (wp_rI hO rfl (by omega) (wp_eq (q_orNobody _) (wp_ret ?_)))))))); rw [show (43 : Int).toNat = 43 from rfl, e43]
    · rw [G2]; refine wp_out ?_; unfold Hh_count_0; refine wp_neg q0 (wp_neg q1 (wp_neg q2 (wp_neg q3 (wp_pos q4 (wp_R11_4 hO (wp_gI hO (sh_St L isSt_40) (wp_ret ?_))))))); rw [hN.2.1.2.2.1]
  by_cases q5 : x = 5
  · refine C (wo σ) ?_ ?_
    · rw [G]; refine wp_out ?_; unfold Mo_count_0; refine wp_neg q0 (wp_neg q1 (wp_neg q2 (wp_neg q3 (wp_neg q4 (wp_pos q5 (wp_R12_49 hO (wp_rI hO rfl (by omega) (wp_ret ?_)))))))); rw [show (44 : Int).toNat = 44 from rfl, e44]
    · rw [G2]; refine wp_out ?_; unfold Hh_count_0; refine wp_neg q0 (wp_neg q1 (wp_neg q2 (wp_neg q3 (wp_neg q4 (wp_pos q5 (wp_R11_4 hO (wp_gI hO (sh_St L isSt_40) (wp_ret ?_)))))))); rw [hN.2.1.2.1]
  by_cases q6 : x = 6
  · refine C (dy V : Int) ?_ ?_
    · rw [G]; refine wp_out ?_; unfold Mo_count_0; refine wp_neg q0 (wp_neg q1 (wp_neg q2 (wp_neg q3 (wp_neg q4 (wp_neg q5 (wp_pos q6 (wp_R12_30 hO (wp_gI hO rfl ?_)))))))); rw [hs]; refine wp_rI hO rfl (by omega) (wp_ret ?_); rw [Int.toNat_natCast, m3]
    · rw [G2]; refine wp_out ?_; unfold Hh_count_0; refine wp_neg q0 (wp_neg q1 (wp_neg q2 (wp_neg q3 (wp_neg q4 (wp_neg q5 (wp_pos q6 (wp_R11_3 hO nw (wp_gI hO (sh_Wi L hv) (wp_ret ?_))))))))); rw [w3]
  by_cases q7 : x = 7
  · refine C (lm V) ?_ ?_
    · rw [G]; refine wp_out ?_; unfold Mo_count_0; refine wp_neg q0 (wp_neg q1 (wp_neg q2 (wp_neg q3 (wp_neg q4 (wp_neg q5 (wp_neg q6 (wp_pos q7 (wp_R12_31 hO (wp_gI hO rfl ?_))))))))); rw [hs]; refine wp_rI hO rfl (by omega) (wp_ret ?_); rw [Int.toNat_natCast, m4]
    · rw [G2]; refine wp_out ?_; unfold Hh_count_0; refine wp_neg q0 (wp_neg q1 (wp_neg q2 (wp_neg q3 (wp_neg q4 (wp_neg q5 (wp_neg q6 (wp_pos q7 (wp_R11_3 hO nw (wp_gI hO (sh_Wi L hv) (wp_ret ?_)))))))))); rw [w4]
  by_cases q8 : x = 8
  · refine C (min (yr σ) 400) ?_ ?_
    · rw [G]; refine wp_out ?_; unfold Mo_count_0; refine wp_neg q0 (wp_neg q1 (wp_neg q2 (wp_neg q3 (wp_neg q4 (wp_neg q5 (wp_neg q6 (wp_neg q7 (wp_pos q8 (wp_R12_49 hO (wp_rI hO rfl (by omega) (wp_ret ?_))))))))))); rw [show (45 : Int).toNat = 45 from rfl, e45]
    · rw [G2]; refine wp_out ?_; unfold Hh_count_0; exact wp_neg q0 (wp_neg q1 (wp_neg q2 (wp_neg q3 (wp_neg q4 (wp_neg q5 (wp_neg q6 (wp_neg q7 (wp_pos q8 (wp_R11_4 hO (wp_eq (c_led40 hO hN) (wp_ret rfl)))))))))))
  by_cases q9 : x = 9
  · refine C (t : Int) ?_ ?_
    · rw [G]; refine wp_out ?_; unfold Mo_count_0; refine wp_neg q0 (wp_neg q1 (wp_neg q2 (wp_neg q3 (wp_neg q4 (wp_neg q5 (wp_neg q6 (wp_neg q7 (wp_neg q8 (wp_pos q9 (wp_gI hO rfl (wp_ret ?_))))))))))); rw [t3]
    · rw [G2]; refine wp_out ?_; unfold Hh_count_0; refine wp_neg q0 (wp_neg q1 (wp_neg q2 (wp_neg q3 (wp_neg q4 (wp_neg q5 (wp_neg q6 (wp_neg q7 (wp_neg q8 (wp_pos q9 (wp_gI hO rfl (wp_ret ?_))))))))))); rw [t2]
  by_cases qa : x = 10
  · refine C (u : Int) ?_ ?_
    · rw [G]; refine wp_out ?_; unfold Mo_count_0; refine wp_neg q0 (wp_neg q1 (wp_neg q2 (wp_neg q3 (wp_neg q4 (wp_neg q5 (wp_neg q6 (wp_neg q7 (wp_neg q8 (wp_neg q9 (wp_pos qa (wp_gI hO rfl (wp_ret ?_)))))))))))); rw [u5]
    · rw [G2]; refine wp_out ?_; unfold Hh_count_0; refine wp_neg q0 (wp_neg q1 (wp_neg q2 (wp_neg q3 (wp_neg q4 (wp_neg q5 (wp_neg q6 (wp_neg q7 (wp_neg q8 (wp_neg q9 (wp_pos qa (wp_R11_7 hO (wp_gI hO rfl (wp_ret ?_))))))))))))); rw [u3]
  by_cases qb : x = 11
  · refine C (n : Int) ?_ ?_
    · rw [G]; refine wp_out ?_; unfold Mo_count_0; refine wp_neg q0 (wp_neg q1 (wp_neg q2 (wp_neg q3 (wp_neg q4 (wp_neg q5 (wp_neg q6 (wp_neg q7 (wp_neg q8 (wp_neg q9 (wp_neg qa (wp_pos qb (wp_gI hO rfl (wp_ret ?_))))))))))))); rw [m1]
    · rw [G2]; refine wp_out ?_; unfold Hh_count_0; refine wp_neg q0 (wp_neg q1 (wp_neg q2 (wp_neg q3 (wp_neg q4 (wp_neg q5 (wp_neg q6 (wp_neg q7 (wp_neg q8 (wp_neg q9 (wp_neg qa (wp_pos qb (wp_R11_9 hO (wp_gI hO rfl (wp_ret ?_)))))))))))))); rw [c1]
  by_cases qc : x = 12
  · have k1 : w32 (0 + 1) = 1 := w32_id (by decide) (by decide)
    have k2 : w32 (1 + 1) = 2 := w32_id (by decide) (by decide)
    have k3 : w32 (2 + 1) = 3 := w32_id (by decide) (by decide)
    have k4 : w32 (1 + 0) = 1 := w32_id (by decide) (by decide)
    have k5 : w32 (2 + 0) = 2 := w32_id (by decide) (by decide)
    have k6 : w32 (0 + 0) = 0 := w32_id (by decide) (by decide)
    have D := c_full hO 3 FU 0 0 (by omega) (by unfold FU; omega)
    rw [show ((0 : Nat) : Int) = 0 from rfl] at D
    simp only [show (3 : Nat) ≠ 0 by decide, show (3 : Nat) ≠ 1 by decide, show (3 : Nat) ≠ 2 by decide, if_false, Nat.zero_add, Nat.mul_zero, Nat.add_zero, Nat.mul_one, show 202 + 7 = 209 from rfl, show 202 + 7 * 2 = 216 from rfl] at D
    have s0 : wI w 202 0 = wI w 265 0 := s0
    have s1' : wI w 209 0 = wI w 265 1 := s1'
    have s2 : wI w 216 0 = wI w 265 2 := s2
    refine C _ ?_ (by rw [G2]; refine wp_out ?_; unfold Hh_count_0; exact wp_neg q0 (wp_neg q1 (wp_neg q2 (wp_neg q3 (wp_neg q4 (wp_neg q5 (wp_neg q6 (wp_neg q7 (wp_neg q8 (wp_neg q9 (wp_neg qa (wp_neg qb (wp_pos qc (wp_eq (show Hh_fullSlots 6 w = some _ from (ok_gd hO rfl).trans D) (wp_ret rfl)))))))))))))))
    rw [G, s0, s1', s2]
    refine wp_out ?_
    unfold Mo_count_0 Mo_count_182 Mo_count_196 Mo_count_211
    refine wp_neg q0 (wp_neg q1 (wp_neg q2 (wp_neg q3 (wp_neg q4 (wp_neg q5 (wp_neg q6 (wp_neg q7 (wp_neg q8 (wp_neg q9 (wp_neg qa (wp_neg qb (wp_pos qc (wp_R12_66 hO (wp_rZ hO rfl (by omega) ?_))))))))))))))
    refine wp_ite (fun z0 => wp_R12_66 hO (wp_rZ hO rfl (by omega) (wp_ite (fun z1 => wp_R12_66 hO (wp_rZ hO rfl (by omega) (wp_ite (fun z2 => wp_ret ?_) (fun z2 => wp_ret ?_)))) (fun z1 => wp_R12_66 hO (wp_rZ hO rfl (by omega) (wp_ite (fun z2 => wp_ret ?_) (fun z2 => wp_ret ?_))))))) (fun z0 => wp_R12_66 hO (wp_rZ hO rfl (by omega) (wp_ite (fun z1 => wp_R12_66 hO (wp_rZ hO rfl (by omega) (wp_ite (fun z2 => wp_ret ?_) (fun z2 => wp_ret ?_)))) (fun z1 => wp_R12_66 hO (wp_rZ hO rfl (by omega) (wp_ite (fun z2 => wp_ret ?_) (fun z2 => wp_ret ?_)))))))
    all_goals
      simp only [show (0 : Int).toNat = 0 from rfl, show (1 : Int).toNat = 1 from rfl, show (2 : Int).toNat = 2 from rfl] at z0 z1 z2
      simp only [z0, z1, z2, if_true, if_false, k1, k2, k3, k4, k5, k6]
  · refine C (-1) ?_ ?_
    · rw [G]; refine wp_out ?_; unfold Mo_count_0; exact wp_neg q0 (wp_neg q1 (wp_neg q2 (wp_neg q3 (wp_neg q4 (wp_neg q5 (wp_neg q6 (wp_neg q7 (wp_neg q8 (wp_neg q9 (wp_neg qa (wp_neg qb (wp_neg qc (wp_ret rfl)))))))))))))
    · rw [G2]; refine wp_out ?_; unfold Hh_count_0; exact wp_neg q0 (wp_neg q1 (wp_neg q2 (wp_neg q3 (wp_neg q4 (wp_neg q5 (wp_neg q6 (wp_neg q7 (wp_neg q8 (wp_neg q9 (wp_neg qa (wp_neg qb (wp_neg qc (wp_ret rfl)))))))))))))
end K16
