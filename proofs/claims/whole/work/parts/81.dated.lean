/-! Level 3: calls, dated and copied. -/
def ftr (f : Nat → Int) (t : Int) : Nat → Nat → Int
  | 0, _ => 1
  | r + 1, i => if f i ≤ t then ftr f t r (i + 1) else 0
def dtd (F res : Nat → Int) (i : Int) : Nat → Nat → Int → Int
  | 0, _, c => if i = -1 then c else -1
  | r + 1, p, c => if F p = 0 then dtd F res i r (p + 1) c else if c = i then res p else dtd F res i r (p + 1) (w32 (c + 1))
theorem ab_comm (x y : Int) : ab x y = ab y x := by unfold ab; split <;> split <;> omega
/-- the hand of the year p: d years are led -/
def hnd (w : Wd) (d p l : Nat) : Int := if p < d then pgh (wL w 49 p) l else wI w 41 l
section K24
variable {L wl dr tx s : Nat} {w w0 : Wd} {V : Vl} {σ : Sg} {x y z Y : Int}
theorem hnd_bd {d p l : Nat} (hN : NOW w V Y σ) (hd' : (d : Int) = min (yr σ) 400) (hl : l < nl V) : 0 ≤ hnd w d p l ∧ hnd w d p l ≤ 99 := by
  unfold hnd
  split
  · exact (n60 hN (by omega) hl).2
  · have e := hN.2.1.2.2.2.1 l hl
    have b := hN.1.1 l hl
    have e : wI w 41 l = hd σ l := e
    rw [e]; exact b
theorem q_handIn {d p l : Nat} (hV : VOK V) (hO : Ok L wl dr tx w) (hN : NOW w V Y σ) (hd' : (d : Int) = min (yr σ) 400) (hl : l < nl V) : Mo_handIn 223 (p : Int) (l : Int) w = some (hnd w d p l, w) := by
  have h6 := hV.1
  refine wp_out ?_
  unfold Mo_handIn Mo_handIn_0 Mo_handIn_34 hnd
  refine wp_gd hO rfl (wp_R12_49 hO (wp_rI hO rfl (by omega) ?_))
  rw [show wI w 255 (45 : Int).toNat = wI w 255 45 from rfl, n45 hN]
  refine wp_ite (fun q => wp_R12_49 hO (wp_rI hO rfl (by omega) (wp_ret ?_))) (fun q => wp_R12_49 hO ?_)
  · rw [if_neg (by omega), Int.toNat_natCast]
    have e1 : wI w 41 l = hd σ l := hN.2.1.2.2.2.1 l hl
    have e2 := hN.2.2.1.2.2.2.1 l hl
    rw [Nat.zero_add] at e2
    rw [e2, e1]
  · rw [ix60 (by omega) (by omega)]
    refine wp_rI hO rfl (by omega) (wp_ret ?_)
    rw [Int.toNat_natCast, if_pos (by omega), (n60 hN (by omega) hl).1]
def pf (w : Wd) (d p i : Nat) : Int := ab (hnd w d p (wI w 174 i).toNat) (wI w 175 i)
def PW (w : Wd) (V : Vl) (n : Nat) : Prop := n ≤ 20 ∧ wI w 173 0 = (n : Int) ∧ wI w 223 63 = (n : Int) ∧ ∀ i, i < n → ∃ (l : Nat) (z : Int), l < nl V ∧ (0 ≤ z ∧ z ≤ 99) ∧ wI w 174 i = (l : Int) ∧ wI w 263 i = (l : Int) ∧ wI w 175 i = z ∧ wI w 264 i = z
def dres (σ : Sg) (d p : Nat) : Int := if p = d then yr σ else (p : Int)
theorem q_handOn {d p l : Nat} (hV : VOK V) (hO : Ok L wl dr tx w) (hN : NOW w V Y σ) (hd' : (d : Int) = min (yr σ) 400) (hl : l < nl V) : Hh_handOn 6 (p : Int) (l : Int) w = some (hnd w d p l, w) := by
  have h6 := hV.1
  refine wp_out ?_
  unfold Hh_handOn Hh_handOn_0 Hh_handOn_32 hnd
  refine wp_gd hO rfl (wp_R11_4 hO (wp_eq (c_led40 hO hN) ?_))
  by_cases q : min (yr σ) 400 ≤ (p : Int)
  · refine wp_pos q (wp_R11_4 hO (wp_R9_3 hO isSt_40 (wp_rI hO (sh_St_3 L isSt_40) (by omega) (wp_ret ?_))))
    rw [if_neg (show ¬ p < d by omega)]
    exact congrArg (fun z => (z, w)) (show wI w 41 (l : Int).toNat = wI w 41 l by rw [Int.toNat_natCast])
  · refine wp_neg q (wp_R11_6 hO (wp_eq (q_handOf hO (nk hN (by omega)) (by omega) (by omega)) (wp_ret ?_)))
    rw [if_pos (show p < d by omega)]
theorem q_yearOn {d p : Nat} (hO : Ok L wl dr tx w) (hN : NOW w V Y σ) (hd' : (d : Int) = min (yr σ) 400) (hp : p ≤ d) : Hh_yearOn 6 (p : Int) w = some (dres σ d p, w) := by
  refine wp_out ?_
  unfold Hh_yearOn Hh_yearOn_0 Hh_yearOn_22 dres
  refine wp_gd hO rfl (wp_R11_4 hO (wp_eq (c_led40 hO hN) ?_))
  by_cases q : min (yr σ) 400 ≤ (p : Int)
  · refine wp_pos q (wp_R11_4 hO (wp_gI hO (sh_St L isSt_40) (wp_ret ?_)))
    rw [if_pos (show p = d by omega), hN.2.1.1]
  · refine wp_neg q (wp_ret ?_)
    rw [if_neg (show ¬ p = d by omega)]
theorem c_isDated3 {d p k n : Nat} {t : Int} (hV : VOK V) (hO : Ok L wl dr tx w) (hN : NOW w V Y σ) (hd' : (d : Int) = min (yr σ) 400) (hP : PW w V n) (hk : k ≤ n) : ∀ (r m i : Nat), i + r = k → r < m → Hh_isDated_3 m 6 (p : Int) t (k : Int) (i : Int) w = some (ftr (pf w d p) t r i, w)
  | r, 0, i, _, hm => absurd hm (by omega)
  | 0, m + 1, i, hr, hm => by
    rw [Hh_isDated_3, if_pos (by omega)]
    rfl
  | r + 1, m + 1, i, hr, hm => by
    have h6 := hV.1
    have ih := c_isDated3 (p := p) hV hO hN hd' hP hk r m (i + 1) (by omega) (by omega) (t := t)
    obtain ⟨l, z, g1, g2, g3, g4, g5, g6⟩ := hP.2.2.2 i (by omega)
    have hb := hnd_bd (p := p) hN hd' g1
    have n20 := hP.1
    refine wp_out ?_
    rw [Hh_isDated_3]
    refine wp_neg (by omega) (wp_R11_9 hO (wp_gI hO rfl ?_))
    rw [hP.2.1]
    refine wp_neg (by omega) (wp_R11_9 hO (wp_R3_1 hO (wp_rI hO rfl (by omega) ?_)))
    rw [Int.toNat_natCast, g3]
    refine wp_eq (q_handOn hV hO hN hd' g1) (wp_R11_9 hO (wp_R3_2 hO (wp_rI hO rfl (by omega) ?_)))
    rw [Int.toNat_natCast, g5, iabs_ab hb g2, w32_id (z := (i : Int) + 1) (by omega) (by omega), show (i : Int) + 1 = ((i + 1 : Nat) : Int) by omega]
    have e : pf w d p i = ab (hnd w d p l) z := by unfold pf; rw [g3, g5, Int.toNat_natCast]
    have e2 : ftr (pf w d p) t (r + 1) i = if pf w d p i ≤ t then ftr (pf w d p) t r (i + 1) else 0 := rfl
    rw [e2, e]
    refine wp_ite (fun q => wp_is ih ?_) (fun q => wp_ret ?_)
    · rw [if_pos q]
    · rw [if_neg q]
theorem m_isDated3 {d p k n : Nat} {t : Int} (hV : VOK V) (hO : Ok L wl dr tx w) (hN : NOW w V Y σ) (hd' : (d : Int) = min (yr σ) 400) (hP : PW w V n) (hk : k ≤ n) : ∀ (r m i : Nat), i + r = k → r < m → Mo_isDated_3 m 223 (p : Int) t (k : Int) (i : Int) w = some (ftr (pf w d p) t r i, w)
  | r, 0, i, _, hm => absurd hm (by omega)
  | 0, m + 1, i, hr, hm => by
    rw [Mo_isDated_3, if_pos (by omega)]
    rfl
  | r + 1, m + 1, i, hr, hm => by
    have h6 := hV.1
    have ih := m_isDated3 (p := p) hV hO hN hd' hP hk r m (i + 1) (by omega) (by omega) (t := t)
    obtain ⟨l, z, g1, g2, g3, g4, g5, g6⟩ := hP.2.2.2 i (by omega)
    have hb := hnd_bd (p := p) hN hd' g1
    have n20 := hP.1
    refine wp_out ?_
    rw [Mo_isDated_3]
    refine wp_neg (by omega) (wp_R12_64 hO (wp_rI hO rfl (by omega) ?_))
    rw [Int.toNat_natCast, g4]
    refine wp_eq (q_handIn hV hO hN hd' g1) (wp_R12_65 hO (wp_rI hO rfl (by omega) ?_))
    rw [Int.toNat_natCast, g6]
    refine wp_eq (q_apart _ hb g2) ?_
    rw [w32_id (z := (i : Int) + 1) (by omega) (by omega), show (i : Int) + 1 = ((i + 1 : Nat) : Int) by omega, ih]
    have e : pf w d p i = ab (hnd w d p l) z := by unfold pf; rw [g3, g5, Int.toNat_natCast]
    have e2 : ftr (pf w d p) t (r + 1) i = if pf w d p i ≤ t then ftr (pf w d p) t r (i + 1) else 0 := rfl
    rw [e2, e]
    refine wp_ite (fun q => wp_ret ?_) (fun q => wp_ret ?_)
    · rw [if_pos q]
    · rw [if_neg q]
theorem ftr_01 (f : Nat → Int) (t : Int) : ∀ r i, ftr f t r i = 0 ∨ ftr f t r i = 1
  | 0, _ => Or.inr rfl
  | r + 1, i => by
    have e2 : ftr f t (r + 1) i = if f i ≤ t then ftr f t r (i + 1) else 0 := rfl
    rw [e2]
    split
    · exact ftr_01 f t r (i + 1)
    · exact Or.inl rfl
theorem c_dated38 {d k n : Nat} {t i : Int} (hV : VOK V) (hO : Ok L wl dr tx w) (hN : NOW w V Y σ) (hd' : (d : Int) = min (yr σ) 400) (hP : PW w V n) (hk : k ≤ n) : ∀ (r m p : Nat) (c : Int), p + r = d + 1 → r < m → Hh_dated_38 m 6 t (k : Int) i c (p : Int) w = some (dtd (fun p => ftr (pf w d p) t k 0) (dres σ d) i r p c, w)
  | r, 0, p, c, _, hm => absurd hm (by omega)
  | 0, m + 1, p, c, hr, hm => by
    refine wp_out ?_
    rw [Hh_dated_38]
    refine wp_R11_4 hO (wp_eq (c_led40 hO hN) (wp_pos (show min (yr σ) 400 < (p : Int) by omega) ?_))
    unfold Hh_dated_83 Hh_dated_94
    refine wp_ite (fun q => wp_ret ?_) (fun q => wp_ret ?_)
    · show (c, w) = (if i = -1 then c else -1, w)
      rw [if_pos q]
    · show (-1, w) = (if i = -1 then c else -1, w)
      rw [if_neg q]
  | r + 1, m + 1, p, c, hr, hm => by
    have ih := fun c => c_dated38 hV hO hN hd' hP hk r m (p + 1) c (by omega) (by omega) (t := t) (i := i)
    have n20 := hP.1
    have e : dtd (fun p => ftr (pf w d p) t k 0) (dres σ d) i (r + 1) p c = if ftr (pf w d p) t k 0 = 0 then dtd (fun p => ftr (pf w d p) t k 0) (dres σ d) i r (p + 1) c else if c = i then dres σ d p else dtd (fun p => ftr (pf w d p) t k 0) (dres σ d) i r (p + 1) (w32 (c + 1)) := rfl
    refine wp_out ?_
    rw [Hh_dated_38]
    refine wp_R11_4 hO (wp_eq (c_led40 hO hN) (wp_neg (show ¬ min (yr σ) 400 < (p : Int) by omega) ?_))
    have g : Hh_isDated 6 (p : Int) t (k : Int) w = some (ftr (pf w d p) t k 0, w) := by
      unfold Hh_isDated Hh_isDated_0
      generalize hFU : FU = fu
      have hfu : 1000000 = fu := hFU
      rw [ok_gd (c := 11) (a := 6) hO rfl]
      exact c_isDated3 (p := p) hV hO hN hd' hP hk k fu 0 (by omega) (by omega)
    refine wp_eq g ?_
    unfold Hh_dated_77 Hh_dated_67
    rw [w32_id (z := (p : Int) + 1) (by omega) (by omega), show (p : Int) + 1 = ((p + 1 : Nat) : Int) by omega, ih, ih, e]
    refine wp_ite (fun q => wp_ret ?_) (fun q => wp_ite (fun q2 => ?_) (fun q2 => wp_ret ?_))
    · rw [if_pos q]
    · rw [if_neg q, if_pos q2]
      exact wp_eq (q_yearOn hO hN hd' (by omega)) (wp_ret rfl)
    · rw [if_neg q, if_neg q2]
theorem m_dated35 {d k n : Nat} {t i : Int} (hV : VOK V) (hO : Ok L wl dr tx w) (hN : NOW w V Y σ) (hd' : (d : Int) = min (yr σ) 400) (hP : PW w V n) (hk : k ≤ n) : ∀ (r m p : Nat) (c : Int), p + r = d + 1 → r < m → Mo_dated_35 m 223 t (k : Int) i c (p : Int) w = some (dtd (fun p => ftr (pf w d p) t k 0) (dres σ d) i r p c, w)
  | r, 0, p, c, _, hm => absurd hm (by omega)
  | 0, m + 1, p, c, hr, hm => by
    refine wp_out ?_
    rw [Mo_dated_35]
    refine wp_R12_49 hO (wp_rI hO rfl (by omega) ?_)
    rw [show wI w 255 (45 : Int).toNat = wI w 255 45 from rfl, n45 hN]
    refine wp_pos (show min (yr σ) 400 < (p : Int) by omega) ?_
    unfold Mo_dated_101 Mo_dated_112
    refine wp_ite (fun q => wp_ret ?_) (fun q => wp_ret ?_)
    · show (c, w) = (if i = -1 then c else -1, w)
      rw [if_pos q]
    · show (-1, w) = (if i = -1 then c else -1, w)
      rw [if_neg q]
  | r + 1, m + 1, p, c, hr, hm => by
    have ih := fun c => m_dated35 hV hO hN hd' hP hk r m (p + 1) c (by omega) (by omega) (t := t) (i := i)
    have n20 := hP.1
    have e : dtd (fun p => ftr (pf w d p) t k 0) (dres σ d) i (r + 1) p c = if ftr (pf w d p) t k 0 = 0 then dtd (fun p => ftr (pf w d p) t k 0) (dres σ d) i r (p + 1) c else if c = i then dres σ d p else dtd (fun p => ftr (pf w d p) t k 0) (dres σ d) i r (p + 1) (w32 (c + 1)) := rfl
    refine wp_out ?_
    rw [Mo_dated_35]
    refine wp_R12_49 hO (wp_rI hO rfl (by omega) ?_)
    rw [show wI w 255 (45 : Int).toNat = wI w 255 45 from rfl, n45 hN]
    refine wp_neg (show ¬ min (yr σ) 400 < (p : Int) by omega) ?_
    have g : Mo_isDated 223 (p : Int) t (k : Int) w = some (ftr (pf w d p) t k 0, w) := by
      unfold Mo_isDated Mo_isDated_0
      generalize hFU : FU = fu
      have hfu : 1000000 = fu := hFU
      rw [ok_gd (c := 12) (a := 223) hO rfl]
      exact m_isDated3 (p := p) hV hO hN hd' hP hk k fu 0 (by omega) (by omega)
    refine wp_eq g ?_
    unfold Mo_dated_95
    rw [w32_id (z := (p : Int) + 1) (by omega) (by omega), show (p : Int) + 1 = ((p + 1 : Nat) : Int) by omega, ih, ih, e]
    refine wp_ite (fun q => wp_ret ?_) (fun q => wp_ite (fun q2 => ?_) (fun q2 => wp_ret ?_))
    · rw [if_pos q]
    · rw [if_neg q, if_pos q2]
      unfold Mo_dated_67 Mo_dated_91 dres
      refine wp_R12_49 hO (wp_rI hO rfl (by omega) ?_)
      rw [show wI w 255 (45 : Int).toNat = wI w 255 45 from rfl, n45 hN]
      refine wp_ite (fun q3 => wp_R12_49 hO (wp_rI hO rfl (by omega) (wp_ret ?_))) (fun q3 => wp_ret ?_)
      · rw [if_pos (by omega), show wI w 255 (42 : Int).toNat = wI w 255 42 from rfl, n42 hN]
      · rw [if_neg (by omega)]
    · rw [if_neg q, if_neg q2]
theorem call_dated (h : INV L w Y) : CALL L w Y (Hh_dated 6 x y z) (Mo_dated 223 x y z) := by
  have hI := h
  obtain ⟨wl, dr, tx, s, V, σ, hO, hv, hdr, hne, hV, hW, hs, hM, hN, hPa, hS, ⟨n, hP⟩, hT, he, hf⟩ := h
  have hP : PW w V n := hP
  have hy := hN.2.2.2.1.1
  unfold CALL Hh_dated Hh_dated_0 Hh_dated_30 Mo_dated Mo_dated_0 Mo_dated_27
  generalize hFU : FU = fu; have hfu : 1000000 = fu := hFU
  refine wp_gd hO rfl (wp_eq (q_within 0 99) ?_)
  unfold bz
  by_cases q : 0 ≤ x ∧ x ≤ 99
  · rw [if_pos q]
    refine wp_neg (show ¬ (1 : Int) = 0 by decide) (wp_R11_9 hO (wp_gI hO rfl ?_))
    rw [hP.2.1]
    refine wp_eq (q_within 0 (n : Int)) ?_
    unfold bz
    by_cases p : 0 ≤ y ∧ y ≤ (n : Int)
    · rw [if_pos p]
      refine wp_neg (show ¬ (1 : Int) = 0 by decide) ?_
      have mo' : ∀ (v : Int), (v = if -1 ≤ z then dtd (fun p => ftr (pf w (min (yr σ) 400).toNat p) x y.toNat 0) (dres σ (min (yr σ) 400).toNat) z ((min (yr σ) 400).toNat + 1) 0 0 else -1) → Wp (gd 12 w 223 ((Mo_in x 0 99 w).bind fun r4 => if (r4.1 : Int) = 0 then some ((-1), r4.2) else (fgI r4.2 223 12 63).bind fun v13 => (Mo_in y 0 v13 r4.2).bind fun r16 => if (r16.1 : Int) = 0 then some ((-1), r16.2) else if ((-1) : Int) ≤ z then Mo_dated_35 fu 223 x y z 0 0 r16.2 else some ((-1), r16.2))) (fun q => q.1 = v ∧ INV L q.2 Y ∧ wn q.2 = wn w ∧ wz q.2 = wz w) := by
        intro v hv1
        refine wp_gd hO rfl (wp_eq (q_min 0 99) ?_)
        unfold bz
        rw [if_pos q]
        refine wp_neg (show ¬ (1 : Int) = 0 by decide) (wp_gI hO rfl ?_)
        rw [hP.2.2.1]
        refine wp_eq (q_min 0 (n : Int)) ?_
        unfold bz
        rw [if_pos p]
        refine wp_neg (show ¬ (1 : Int) = 0 by decide) (wp_ite (fun z1 => ?_) (fun z1 => wp_ret ⟨?_, hI, rfl, rfl⟩))
        · rw [if_pos z1] at hv1
          have g := m_dated35 (d := (min (yr σ) 400).toNat) (k := y.toNat) (t := x) (i := z) hV hO hN (by omega) hP (by omega) ((min (yr σ) 400).toNat + 1) fu 0 0 (by omega) (by omega)
          rw [show ((y.toNat : Nat) : Int) = y by omega] at g
          exact wp_is g ⟨hv1.symm, hI, rfl, rfl⟩
        · rw [if_neg z1] at hv1
          exact hv1.symm
      refine wp_ite (fun z1 => ?_) (fun z1 => wp_ret (mo' _ ?_))
      · have g := c_dated38 (d := (min (yr σ) 400).toNat) (k := y.toNat) (t := x) (i := z) hV hO hN (by omega) hP (by omega) ((min (yr σ) 400).toNat + 1) fu 0 0 (by omega) (by omega)
        rw [show ((y.toNat : Nat) : Int) = y by omega] at g
        refine wp_is g (mo' _ ?_)
        rw [if_pos z1]
      · rw [if_neg z1]
    · rw [if_neg p]
      refine wp_pos rfl (wp_ret (wp_gd hO rfl (wp_eq (q_min 0 99) ?_)))
      unfold bz
      rw [if_pos q]
      refine wp_neg (show ¬ (1 : Int) = 0 by decide) (wp_gI hO rfl ?_)
      rw [hP.2.2.1]
      refine wp_eq (q_min 0 (n : Int)) ?_
      unfold bz
      rw [if_neg p]
      exact wp_pos rfl (wp_ret ⟨rfl, hI, rfl, rfl⟩)
  · rw [if_neg q]
    refine wp_pos rfl (wp_ret (wp_gd hO rfl (wp_eq (q_min 0 99) ?_)))
    unfold bz
    rw [if_neg q]
    exact wp_pos rfl (wp_ret ⟨rfl, hI, rfl, rfl⟩)
end K24
