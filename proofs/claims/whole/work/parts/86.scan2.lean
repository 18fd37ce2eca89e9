/-! Level 3, read: the class's scanner, its loops. -/
section SD
variable {L wl dr : Nat} {w w0 : Wd} {B : Nat → Int} {N j : Nat}
theorem cb_lt {i : Nat} (h : i < N) : cb B N i = ub (B i) := if_pos h
/-- what one cut leaves -/
def CUT (w0 w1 : Wd) (B : Nat → Int) (N j p : Nat) : Prop := FL (PSj j) (QSj j) w0 w1 ∧ wI w1 21 6 = (tE (cb B N) N p : Int) ∧ wI w1 22 j = ck (tK (cb B N) N p) ∧ wI w1 23 j = (tI (cb B N) N p : Int) ∧ (tK (cb B N) N p = 2 → wL w1 24 j = tV (cb B N) N p) ∧ (bS (cb B N (tI (cb B N) N p)) = true → tI (cb B N) N p < N → wL w1 24 j = tN (cb B N) N p)
theorem c_cutName2 {Q : Wd → Prop} {i : Nat} (hj : j ≤ 400) (kk : ∀ w1, FL (PSj j) (QSj j) w0 w1 → Ok L wl dr 7 w1 → SCN w1 B N → wI w1 23 j = (i : Int) → wI w1 21 6 = (nmE (cb B N) N i : Int) → Wp (Sc_cutName_55 21 (j : Int) (nmv (cb B N) i (nmE (cb B N) N i - i)) w1) Q) : ∀ (r m n : Nat) (w : Wd), i + n + r = N → r < m → Ok L wl dr 7 w → SCN w B N → wI w 23 j = (i : Int) → wI w 21 6 = ((i + n : Nat) : Int) → FL (PSj j) (QSj j) w0 w → adv bS (cb B N) r (i + n) = nmE (cb B N) N i → Wp (Sc_cutName_2 m 21 (j : Int) (nmv (cb B N) i n) w) Q
  | r, 0, n, w, _, hm, _, _, _, _, _, _ => absurd hm (by omega)
  | 0, m + 1, n, w, hr, hm, hO, hS, h23, h6, hF, hE => by
    have hE : i + n = nmE (cb B N) N i := hE
    rw [Sc_cutName_2]
    refine wp_gI hO rfl (wp_gI hO rfl ?_)
    rw [h6, hS.2.1]
    refine wp_pos (by omega) ?_
    have := kk w hF hO hS h23 (by rw [h6, hE])
    rw [show nmE (cb B N) N i - i = n by omega] at this
    exact this
  | r + 1, m + 1, n, w, hr, hm, hO, hS, h23, h6, hF, hE => by
    have hN := hS.1
    have hb := hS.2.2.1 (i + n) (by omega)
    have hE' : (if bS (cb B N (i + n)) = true then adv bS (cb B N) r (i + n + 1) else i + n) = nmE (cb B N) N i := hE
    rw [Sc_cutName_2]
    refine wp_gI hO rfl (wp_gI hO rfl ?_)
    rw [h6, hS.2.1]
    refine wp_neg (by omega) (wp_R7_4 hO (by decide) (wp_gI hO rfl ?_))
    rw [h6]
    refine wp_rB hO rfl (by omega) ?_
    rw [Int.toNat_natCast, hb.1]
    refine wp_eq (q_isSmall _ w) ?_
    rw [← bS_ub hb.2, ← cb_lt (B := B) (N := N) (show i + n < N by omega)]
    by_cases q : bS (cb B N (i + n)) = true
    · rw [if_pos q] at hE' ⊢
      refine wp_neg (show ¬ (1 : Int) = 0 by decide) (wp_R7_4 hO (by decide) (wp_gI hO rfl ?_))
      rw [show wI (1, w).2 21 6 = wI w 21 6 from rfl, h6]
      refine wp_rB hO rfl (by omega) ?_
      rw [Int.toNat_natCast, show wI (1, w).2 7 (i + n) = wI w 7 (i + n) from rfl, hb.1]
      have hc : cb B N (i + n) = B (i + n) ∧ 97 ≤ B (i + n) ∧ B (i + n) ≤ 122 := by
        rw [cb_lt (show i + n < N by omega), bS_ub hb.2] at q
        unfold bS at q
        have q : 97 ≤ B (i + n) ∧ B (i + n) ≤ 122 := by simpa using q
        rw [cb_lt (show i + n < N by omega)]
        unfold ub
        rw [if_neg (by omega)]
        exact ⟨rfl, q⟩
      have ej : Sc_joined (nmv (cb B N) i n) (B (i + n)) w = some (nmv (cb B N) i (n + 1), w) := by
        unfold Sc_joined Sc_joined_0
        rw [w32_id (z := B (i + n) - 97) (by omega) (by omega), w32_id (by omega) (by omega), show B (i + n) - 97 + 1 = B (i + n) - 96 by omega, ← hc.1]
        rfl
      refine wp_eq ej (wp_gI hO rfl ?_)
      rw [show wI (nmv (cb B N) i (n + 1), w).2 21 6 = wI w 21 6 from rfl, h6, w32_id (by omega) (by omega)]
      refine wp_pI hO rfl ?_
      generalize hw1 : sI (nmv (cb B N) i (n + 1), w).2 21 6 (((i + n : Nat) : Int) + 1) = w1
      have f1 : FL (PSj j) (QSj j) w w1 := by rw [← hw1]; exact (FL.rf w).sI (by unfold PSj; omega)
      refine c_cutName2 hj kk r m (n + 1) w1 (by omega) (by omega) (f1.ok hO) (hS.fl f1) ?_ ?_ (hF.tr f1) hE'
      · rw [← hw1]; exact (wI_ne (by omega)).trans h23
      · rw [← hw1, wI_eq]; omega
    · rw [if_neg q] at hE' ⊢
      refine wp_pos rfl ?_
      have := kk w hF hO hS h23 (by rw [h6, hE'])
      rw [show nmE (cb B N) N i - i = n by omega] at this
      exact this
theorem c_cutInt2 {Q : Wd → Prop} {i : Nat} (hj : j ≤ 400) (kk : ∀ w1, FL (PSj j) (QSj j) w0 w1 → Ok L wl dr 7 w1 → SCN w1 B N → wI w1 23 j = (i : Int) → wI w1 21 6 = (inE (cb B N) N i : Int) → Wp (Sc_cutInt_59 21 (j : Int) (ivl (cb B N) i (inE (cb B N) N i - i)) w1) Q) : ∀ (r m n : Nat) (w : Wd), i + n + r = N → r < m → Ok L wl dr 7 w → SCN w B N → wI w 23 j = (i : Int) → wI w 21 6 = ((i + n : Nat) : Int) → FL (PSj j) (QSj j) w0 w → adv bD (cb B N) r (i + n) = inE (cb B N) N i → Wp (Sc_cutInt_2 m 21 (j : Int) (ivl (cb B N) i n) w) Q
  | r, 0, n, w, _, hm, _, _, _, _, _, _ => absurd hm (by omega)
  | 0, m + 1, n, w, hr, hm, hO, hS, h23, h6, hF, hE => by
    have hE : i + n = inE (cb B N) N i := hE
    rw [Sc_cutInt_2]
    refine wp_gI hO rfl (wp_gI hO rfl ?_)
    rw [h6, hS.2.1]
    refine wp_pos (by omega) ?_
    have := kk w hF hO hS h23 (by rw [h6, hE])
    rw [show inE (cb B N) N i - i = n by omega] at this
    exact this
  | r + 1, m + 1, n, w, hr, hm, hO, hS, h23, h6, hF, hE => by
    have hN := hS.1
    have hb := hS.2.2.1 (i + n) (by omega)
    have hE' : (if bD (cb B N (i + n)) = true then adv bD (cb B N) r (i + n + 1) else i + n) = inE (cb B N) N i := hE
    rw [Sc_cutInt_2]
    refine wp_gI hO rfl (wp_gI hO rfl ?_)
    rw [h6, hS.2.1]
    refine wp_neg (by omega) (wp_R7_4 hO (by decide) (wp_gI hO rfl ?_))
    rw [h6]
    refine wp_rB hO rfl (by omega) ?_
    rw [Int.toNat_natCast, hb.1]
    refine wp_eq (q_isDigit _ w) ?_
    rw [← bD_ub hb.2, ← cb_lt (B := B) (N := N) (show i + n < N by omega)]
    by_cases q : bD (cb B N (i + n)) = true
    · rw [if_pos q] at hE' ⊢
      refine wp_neg (show ¬ (1 : Int) = 0 by decide) (wp_R7_4 hO (by decide) (wp_gI hO rfl ?_))
      rw [show wI (1, w).2 21 6 = wI w 21 6 from rfl, h6]
      refine wp_rB hO rfl (by omega) (wp_gI hO rfl ?_)
      rw [Int.toNat_natCast, show wI (1, w).2 7 (i + n) = wI w 7 (i + n) from rfl, hb.1, show wI (1, w).2 21 6 = wI w 21 6 from rfl, h6]
      have hc : cb B N (i + n) = B (i + n) := by
        rw [cb_lt (show i + n < N by omega), bD_ub hb.2] at q
        unfold bD at q
        have q : 48 ≤ B (i + n) ∧ B (i + n) ≤ 57 := by simpa using q
        rw [cb_lt (show i + n < N by omega)]
        unfold ub
        rw [if_neg (by omega)]
      rw [← hc, show w32 (w32 (ivl (cb B N) i n * 10) + w32 (cb B N (i + n) - 48)) = ivl (cb B N) i (n + 1) from rfl, w32_id (z := ((i + n : Nat) : Int) + 1) (by omega) (by omega)]
      refine wp_pI hO rfl ?_
      show Wp (Sc_cutInt_2 m 21 (j : Int) (ivl (cb B N) i (n + 1)) (sI w 21 6 (((i + n : Nat) : Int) + 1))) Q
      generalize hw1 : sI w 21 6 (((i + n : Nat) : Int) + 1) = w1
      have f1 : FL (PSj j) (QSj j) w w1 := by rw [← hw1]; exact (FL.rf w).sI (by unfold PSj; omega)
      refine c_cutInt2 hj kk r m (n + 1) w1 (by omega) (by omega) (f1.ok hO) (hS.fl f1) ?_ ?_ (hF.tr f1) hE'
      · rw [← hw1]; exact (wI_ne (by omega)).trans h23
      · rw [← hw1, wI_eq]; omega
    · rw [if_neg q] at hE' ⊢
      refine wp_pos rfl ?_
      have := kk w hF hO hS h23 (by rw [h6, hE'])
      rw [show inE (cb B N) N i - i = n by omega] at this
      exact this
theorem c_cut39 {p : Nat} (hj : j ≤ 400) (hp : p ≤ N) (hO : Ok L wl dr 7 w) (hS : SCN w B N) (h6 : wI w 21 6 = (tI (cb B N) N p : Int)) (hF : FL (PSj j) (QSj j) w0 w) : Wp (Sc_cutOne_39 21 (j : Int) w) (fun w1 => CUT w0 w1 B N j p) := by
  have hN := hS.1
  have hti := tI_bd (cb B N) N hp
  have eK : tK (cb B N) N p = if N ≤ tI (cb B N) N p then 0 else if bS (cb B N (tI (cb B N) N p)) = true then (if 8 < nmE (cb B N) N (tI (cb B N) N p) - tI (cb B N) N p then 3 else kdn (nmv (cb B N) (tI (cb B N) N p) (nmE (cb B N) N (tI (cb B N) N p) - tI (cb B N) N p))) else if bD (cb B N (tI (cb B N) N p)) = true then (if 4 < inE (cb B N) N (tI (cb B N) N p) - tI (cb B N) N p then 3 else 2) else sgk (cb B N (tI (cb B N) N p)) := rfl
  have eE : tE (cb B N) N p = if N ≤ tI (cb B N) N p then N else if bS (cb B N (tI (cb B N) N p)) = true then nmE (cb B N) N (tI (cb B N) N p) else if bD (cb B N (tI (cb B N) N p)) = true then inE (cb B N) N (tI (cb B N) N p) else tI (cb B N) N p + 1 := rfl
  have eN : tN (cb B N) N p = nmv (cb B N) (tI (cb B N) N p) (nmE (cb B N) N (tI (cb B N) N p) - tI (cb B N) N p) := rfl
  have eV : tV (cb B N) N p = ivl (cb B N) (tI (cb B N) N p) (inE (cb B N) N (tI (cb B N) N p) - tI (cb B N) N p) := rfl
  unfold CUT
  generalize tI (cb B N) N p = i at *
  unfold Sc_cutOne_39 Sc_cutOne_161
  refine wp_R7_1 hO (wp_gI hO rfl ?_)
  rw [h6]
  refine wp_wI hO rfl (by omega) ?_
  rw [Int.toNat_natCast]
  generalize hw1 : sI w 23 j (i : Int) = w1
  have f1 : FL (PSj j) (QSj j) w0 w1 := by rw [← hw1]; exact hF.sI (by unfold PSj; omega)
  have hO1 : Ok L wl dr 7 w1 := by rw [← hw1]; exact hO.sI
  have hS1 : SCN w1 B N := by rw [← hw1]; exact hS.fl (j := j) ((FL.rf w).sI (by unfold PSj; omega))
  have h61 : wI w1 21 6 = (i : Int) := by rw [← hw1, wI_ne (by omega), h6]
  have h23 : wI w1 23 j = (i : Int) := by rw [← hw1, wI_eq]
  refine wp_gI hO1 rfl (wp_gI hO1 rfl ?_)
  rw [h61, hS1.2.1]
  by_cases c : (i : Int) < (N : Int)
  · have hb := hS1.2.2.1 i (by omega)
    rw [if_neg (by omega)] at eK eE
    refine wp_pos c (wp_R7_4 hO1 (by decide) (wp_gI hO1 rfl ?_))
    rw [h61]
    refine wp_rB hO1 rfl (by omega) ?_
    rw [Int.toNat_natCast, hb.1]
    refine wp_eq (q_isSmall _ w1) ?_
    rw [← bS_ub hb.2, ← cb_lt (B := B) (N := N) (show i < N by omega)]
    by_cases q : bS (cb B N i) = true
    · rw [if_pos q] at eK eE ⊢
      refine wp_neg (show ¬ (1 : Int) = 0 by decide) ?_
      unfold Sc_cutName Sc_cutName_0
      generalize hFU : FU = fu
      have hfu : 1000000 = fu := hFU
      refine wp_call (wp_gd hO1 rfl (c_cutName2 (i := i) (w0 := w0) (Q := fun w2 => FL (PSj j) (QSj j) w0 w2 ∧ wI w2 21 6 = (tE (cb B N) N p : Int) ∧ wI w2 22 j = ck (tK (cb B N) N p) ∧ wI w2 23 j = (i : Int) ∧ wL w2 24 j = tN (cb B N) N p) hj (fun w2 f2 hO2 hS2 p2 g2 => ?_) (N - i) fu 0 w1 (by omega) (by omega) hO1 hS1 h23 h61 f1 rfl)) (fun w3 g => wp_ret ⟨g.1, g.2.1, g.2.2.1, g.2.2.2.1, fun k2 => ?_, fun _ _ => g.2.2.2.2⟩)
      · have hne := (adv_is bS (cb B N) (N - i) i).1
        have hne : i ≤ nmE (cb B N) N i ∧ nmE (cb B N) N i ≤ i + (N - i) := hne
        unfold Sc_cutName_55 Sc_cutName_92
        refine wp_R7_2 hO2 (wp_wL hO2 rfl (by omega) ?_)
        rw [Int.toNat_natCast]
        generalize hw3 : sL w2 24 j (nmv (cb B N) i (nmE (cb B N) N i - i)) = w3
        have f3 : FL (PSj j) (QSj j) w2 w3 := by rw [← hw3]; exact (FL.rf w2).sL (by unfold QSj; omega)
        have hO3 := f3.ok hO2
        have hS3 := hS2.fl f3
        have n3 : ∀ a k, wI w3 a k = wI w2 a k := fun a k => by rw [← hw3]; rfl
        have l3 : wL w3 24 j = tN (cb B N) N p := by rw [← hw3, wL_eq, eN]
        refine wp_R7_0 hO3 (wp_gI hO3 rfl (wp_R7_1 hO3 (wp_rI hO3 rfl (by omega) ?_)))
        rw [Int.toNat_natCast, n3, n3, g2, p2, w32_id (by omega) (by omega)]
        have fin : ∀ z, z = ck (tK (cb B N) N p) → FL (PSj j) (QSj j) w0 (sI w3 22 j z) ∧ wI (sI w3 22 j z) 21 6 = (tE (cb B N) N p : Int) ∧ wI (sI w3 22 j z) 22 j = ck (tK (cb B N) N p) ∧ wI (sI w3 22 j z) 23 j = (i : Int) ∧ wL (sI w3 22 j z) 24 j = tN (cb B N) N p := fun z hz => by
          refine ⟨(f2.tr f3).sI (by unfold PSj; omega), ?_, ?_, ?_, l3⟩
          · rw [wI_ne (by omega), n3, g2, eE]
          · rw [wI_eq, hz]
          · rw [wI_ne (by omega), n3, p2]
        refine wp_ite (fun o => ?_) (fun o => ?_)
        · rw [if_neg (by omega)] at eK
          refine wp_eq (q_kindOf hO3 hS3) (wp_wI hO3 rfl (by omega) (wp_ret ?_))
          rw [Int.toNat_natCast]
          exact fin _ (by rw [eK])
        · rw [if_pos (by omega)] at eK
          refine wp_wI hO3 rfl (by omega) (wp_ret ?_)
          rw [Int.toNat_natCast]
          exact fin _ (by rw [eK]; rfl)
      · exfalso
        rw [eK] at k2
        split at k2
        · omega
        · rcases kdn_is (nmv (cb B N) i (nmE (cb B N) N i - i)) with ⟨y, a1, a2, a3⟩ | ⟨a1, a3⟩ <;> omega
    · rw [if_neg q] at eK eE ⊢
      refine wp_pos rfl (wp_R7_4 hO1 (by decide) (wp_gI hO1 rfl ?_))
      rw [show wI (0, w1).2 21 6 = wI w1 21 6 from rfl, h61]
      refine wp_rB hO1 rfl (by omega) ?_
      rw [Int.toNat_natCast, show wI (0, w1).2 7 i = wI w1 7 i from rfl, hb.1]
      refine wp_eq (q_isDigit _ w1) ?_
      rw [← bD_ub hb.2, ← cb_lt (B := B) (N := N) (show i < N by omega)]
      by_cases o : bD (cb B N i) = true
      · rw [if_pos o] at eK eE ⊢
        refine wp_neg (show ¬ (1 : Int) = 0 by decide) ?_
        unfold Sc_cutInt Sc_cutInt_0
        generalize hFU : FU = fu
        have hfu : 1000000 = fu := hFU
        refine wp_call (wp_gd hO1 rfl (c_cutInt2 (i := i) (w0 := w0) (Q := fun w2 => FL (PSj j) (QSj j) w0 w2 ∧ wI w2 21 6 = (tE (cb B N) N p : Int) ∧ wI w2 22 j = ck (tK (cb B N) N p) ∧ wI w2 23 j = (i : Int) ∧ wL w2 24 j = tV (cb B N) N p) hj (fun w2 f2 hO2 hS2 p2 g2 => ?_) (N - i) fu 0 w1 (by omega) (by omega) hO1 hS1 h23 h61 f1 rfl)) (fun w3 g => wp_ret ⟨g.1, g.2.1, g.2.2.1, g.2.2.2.1, fun _ => g.2.2.2.2, fun k2 => absurd k2 q⟩)
        have hne := (adv_is bD (cb B N) (N - i) i).1
        have hne : i ≤ inE (cb B N) N i ∧ inE (cb B N) N i ≤ i + (N - i) := hne
        unfold Sc_cutInt_59 Sc_cutInt_92
        refine wp_R7_2 hO2 (wp_wL hO2 rfl (by omega) ?_)
        rw [Int.toNat_natCast]
        generalize hw3 : sL w2 24 j (ivl (cb B N) i (inE (cb B N) N i - i)) = w3
        have f3 : FL (PSj j) (QSj j) w2 w3 := by rw [← hw3]; exact (FL.rf w2).sL (by unfold QSj; omega)
        have hO3 := f3.ok hO2
        have n3 : ∀ a k, wI w3 a k = wI w2 a k := fun a k => by rw [← hw3]; rfl
        have l3 : wL w3 24 j = tV (cb B N) N p := by rw [← hw3, wL_eq, eV]
        refine wp_R7_0 hO3 (wp_gI hO3 rfl (wp_R7_1 hO3 (wp_rI hO3 rfl (by omega) ?_)))
        rw [Int.toNat_natCast, n3, n3, g2, p2, w32_id (by omega) (by omega)]
        have fin : ∀ z, z = ck (tK (cb B N) N p) → FL (PSj j) (QSj j) w0 (sI w3 22 j z) ∧ wI (sI w3 22 j z) 21 6 = (tE (cb B N) N p : Int) ∧ wI (sI w3 22 j z) 22 j = ck (tK (cb B N) N p) ∧ wI (sI w3 22 j z) 23 j = (i : Int) ∧ wL (sI w3 22 j z) 24 j = tV (cb B N) N p := fun z hz => by
          refine ⟨(f2.tr f3).sI (by unfold PSj; omega), ?_, ?_, ?_, l3⟩
          · rw [wI_ne (by omega), n3, g2, eE]
          · rw [wI_eq, hz]
          · rw [wI_ne (by omega), n3, p2]
        refine wp_ite (fun o => ?_) (fun o => ?_)
        · rw [if_neg (by omega)] at eK
          refine wp_wI hO3 rfl (by omega) (wp_ret ?_)
          rw [Int.toNat_natCast]
          exact fin _ (by rw [eK]; rfl)
        · rw [if_pos (by omega)] at eK
          refine wp_wI hO3 rfl (by omega) (wp_ret ?_)
          rw [Int.toNat_natCast]
          exact fin _ (by rw [eK]; rfl)
      · rw [if_neg o] at eK eE ⊢
        refine wp_pos rfl (wp_R7_4 hO1 (by decide) (wp_gI hO1 rfl ?_))
        rw [show wI (0, w1).2 21 6 = wI w1 21 6 from rfl, h61]
        refine wp_rB hO1 rfl (by omega) (wp_R7_0 hO1 ?_)
        rw [Int.toNat_natCast, show wI (0, w1).2 7 i = wI w1 7 i from rfl, hb.1, (ub_and hb.2).1, (ub_and hb.2).2.1]
        refine wp_call (q_indexOf hb.2 hO1 hS1) (fun r hr => ?_)
        have hr1 : r.2 = w1 := hr.1
        rw [hr1]
        unfold Sc_cutOne_150 Sc_cutOne_161
        have fin : ∀ z, z = ck (tK (cb B N) N p) → Wp ((wrI w1 22 (j : Int) z).bind fun w150 => (fgI w150 21 7 6).bind fun v153 => (fpI w150 21 7 6 (w32 (v153 + 1))).bind fun w158 => some w158) (fun w1 => FL (PSj j) (QSj j) w0 w1 ∧ wI w1 21 6 = (tE (cb B N) N p : Int) ∧ wI w1 22 j = ck (tK (cb B N) N p) ∧ wI w1 23 j = (i : Int) ∧ (tK (cb B N) N p = 2 → wL w1 24 j = tV (cb B N) N p) ∧ (bS (cb B N i) = true → i < N → wL w1 24 j = tN (cb B N) N p)) := fun z hz => by
          refine wp_wI hO1 rfl (by omega) ?_
          rw [Int.toNat_natCast]
          refine wp_gI hO1.sI rfl ?_
          rw [wI_ne (by omega), h61, w32_id (by omega) (by omega)]
          refine wp_pI hO1.sI rfl (wp_ret ⟨(f1.sI (by unfold PSj; omega)).sI (by unfold PSj; omega), ?_, ?_, ?_, fun k2 => ?_, fun k2 => absurd k2 q⟩)
          · rw [wI_eq, eE]; omega
          · rw [wI_ne (by omega), wI_eq, hz]
          · rw [wI_ne (by omega), wI_ne (by omega), h23]
          · exfalso
            rw [eK] at k2
            unfold sgk at k2
            repeat' split at k2
            all_goals omega
        have hcb : cb B N i = ub (B i) := cb_lt (by omega)
        rw [hcb] at eK
        refine wp_ite (fun k => fin 1 ?_) (fun k => fin _ ?_)
        · have : sgk (ub (B i)) = 3 := Decidable.byContradiction (fun h => by have := hr.2.mpr h; omega)
          rw [eK, this]; rfl
        · rw [eK, ck_sgk (hr.2.mp (by omega))]
  · rw [if_pos (by omega)] at eK eE
    refine wp_neg c (wp_R7_0 hO1 (wp_wI hO1 rfl (by omega) (wp_ret ⟨f1.sI (by unfold PSj; rw [Int.toNat_natCast]; omega), ?_, ?_, ?_, fun k2 => ?_, fun _ k3 => absurd k3 (by omega)⟩)))
    · rw [wI_ne (by omega), h61, eE]; omega
    · rw [Int.toNat_natCast, wI_eq, eK]; rfl
    · rw [wI_ne (by omega), h23]
    · rw [eK] at k2; omega
end SD
