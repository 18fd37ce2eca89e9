/-! Level 3, the reference: what is written, what is unlike, votes. -/
def PM1 (a k : Nat) : Prop := a = 253 ∨ a = 254 ∨ (a = 223 ∧ k = 48)
/-- the reference at work on its row: side s, will V, state σ; lots, no master, no heir, one heir, one letter -/
def MC (w : Wd) (s : Nat) (V : Vl) (σ : Sg) (lt nM nH oH oL : Int) : Prop := wI w 223 18 = (s : Int) ∧ MW w s V ∧ MS w 256 0 V σ ∧ wI w 223 51 = lt ∧ wI w 223 52 = nM ∧ wI w 223 53 = nH ∧ wI w 223 54 = oH ∧ wI w 223 55 = oL
theorem MC.eq {w w1 : Wd} {s : Nat} {V : Vl} {σ : Sg} {lt nM nH oH oL : Int} (hV : VOK V) (h : MC w s V σ lt nM nH oH oL) (e : ∀ a k, ((233 ≤ a ∧ a ≤ 251) ∨ a = 256 ∨ (a = 223 ∧ k ≠ 48)) → wI w1 a k = wI w a k) : MC w1 s V σ lt nM nH oH oL := by
  obtain ⟨h0, h1, h2, h3, h4, h5, h6, h7⟩ := h
  exact ⟨(e _ _ (by omega)).trans h0, h1.eq (fun a k q1 q2 => e a k (by omega)), h2.eq hV (fun k _ => e 256 _ (by omega)), (e _ _ (by omega)).trans h3, (e _ _ (by omega)).trans h4, (e _ _ (by omega)).trans h5, (e _ _ (by omega)).trans h6, (e _ _ (by omega)).trans h7⟩
theorem MC.fr {w w1 : Wd} {s : Nat} {V : Vl} {σ : Sg} {lt nM nH oH oL : Int} (hV : VOK V) (h : MC w s V σ lt nM nH oH oL) (f : Fr PM1 w w1) : MC w1 s V σ lt nM nH oH oL := h.eq hV (fun a k q => f.at a k (by unfold PM1; omega))
theorem q_apart {x y : Int} (w : Wd) (hx : 0 ≤ x ∧ x ≤ 99) (hy : 0 ≤ y ∧ y ≤ 99) : Mo_apart x y w = some (ab x y, w) := by
  unfold Mo_apart Mo_apart_0 Mo_apart_14 ab
  split
  · rw [w32_id (by omega) (by omega), if_neg (by omega)]
  · rw [w32_id (by omega) (by omega), if_pos (by omega)]
theorem q_lotOf {n : Int} (s x : Int) (w : Wd) (hn : n ≠ 0) : Mo_lotOf s x n w = some (lot n s x, w) := by
  unfold Mo_lotOf Mo_lotOf_0 Mo_mixed Mo_mixed_0 irm
  rw [Option.bind_some, Option.bind_some, if_pos hn]
  rfl
section M1
variable {L wl dr tx s : Nat} {V : Vl} {σ : Sg} {w : Wd} {lt nM nH oH oL : Int}
theorem MC.hd {l : Nat} (h : MC w s V σ lt nM nH oH oL) (hl : l < nl V) : wI w 256 l = _root_.Jvm.Pilot.@@N@@.hd σ l := by
  have := h.2.2.1.2.2.2.1 l hl
  rwa [Nat.zero_add] at this
theorem MC.sp {x l : Nat} (h : MC w s V σ lt nM nH oH oL) (hx : x < nh V) (hl : l < nl V) : wI w 256 (6 + 6 * x + l) = _root_.Jvm.Pilot.@@N@@.sp σ x l := by
  have := h.2.2.1.2.2.2.2.1 x hx l hl
  rwa [Nat.zero_add] at this
theorem MC.yr (h : MC w s V σ lt nM nH oH oL) : wI w 256 42 = _root_.Jvm.Pilot.@@N@@.yr σ := h.2.2.1.1
theorem MC.wo (h : MC w s V σ lt nM nH oH oL) : wI w 256 44 = _root_.Jvm.Pilot.@@N@@.wo σ := h.2.2.1.2.1
theorem m_shapeOf {h l : Nat} (hV : VOK V) (hO : Ok L wl dr tx w) (hM : MC w s V σ lt nM nH oH oL) (hh : h < nh V) (hl : l < nl V) : Mo_shapeOf 223 (h : Int) (l : Int) w = some (sp σ h l, w) := by
  refine wp_out ?_
  have h6 := hV.1
  have h7 := hV.2.1
  have e1 : w32 (w32 (6 + w32 (6 * (h : Int))) + (l : Int)) = ((6 + 6 * h + l : Nat) : Int) := by
    rw [w32_id (z := 6 * (h : Int)) (by omega) (by omega), w32_id (z := 6 + 6 * (h : Int)) (by omega) (by omega), w32_id (by omega) (by omega)]; omega
  unfold Mo_shapeOf Mo_shapeOf_0
  rw [e1]
  refine wp_gd hO rfl (wp_R12_50 hO (wp_rI hO rfl (by omega) (wp_ret ?_)))
  rw [Int.toNat_natCast, hM.sp hh hl]
theorem m_writes {h l : Nat} (hV : VOK V) (hO : Ok L wl dr tx w) (hM : MC w s V σ lt nM nH oH oL) (hh : h < nh V) (hl : l < nl V) : Mo_writes 223 (h : Int) (l : Int) w = some (wrt V σ lt h l, w) := by
  refine wp_out ?_
  have h7 := hV.2.1
  have hs := hM.2.1.1
  have ht := (hV.2.2.2.2.1 h hh).2
  unfold Mo_writes Mo_writes_0
  refine wp_gd hO rfl (wp_R12_27 hO (wp_gI hO rfl ?_))
  rw [hM.1]
  have e1 : w32 (w32 (6 * (s : Int)) + (h : Int)) = ((6 * s + h : Nat) : Int) := by
    rw [w32_id (z := 6 * (s : Int)) (by omega) (by omega), w32_id (by omega) (by omega)]; omega
  rw [e1]
  refine wp_rI hO rfl (by omega) ?_
  rw [Int.toNat_natCast, (hM.2.1.2.2.1 h hh).2]
  refine wp_eq (m_shapeOf hV hO hM hh hl) (wp_gI hO rfl (wp_R12_50 hO (wp_rI hO rfl (by omega) ?_)))
  have e42 : wI w 256 (42 : Int).toNat = yr σ := hM.yr
  have e51 : wI w 223 51 = lt := hM.2.2.2.1
  show Wp ((Mo_lotOf (wI w 223 51) (w32 (w32 (w32 (36 * wI w 256 (42 : Int).toNat) + w32 (6 * (h : Int))) + (l : Int))) (w32 (w32 (2 * tr V h) + 1)) w).bind _) _
  rw [e42, e51]
  refine wp_eq (q_lotOf _ _ _ (by rw [w32_id (z := 2 * tr V h) (by omega) (by omega), w32_id (by omega) (by omega)]; omega)) ?_
  unfold Mo_writes_78 wrt cl
  refine wp_ite (fun q => wp_ite (fun q2 => wp_ret ?_) (fun q2 => wp_ret ?_)) (fun q => wp_ret ?_)
  · exact Prod.ext (by show _ = max (0 : Int) (min 99 _); dsimp only at q q2 ⊢; omega) rfl
  · exact Prod.ext (by show _ = max (0 : Int) (min 99 _); dsimp only at q q2 ⊢; omega) rfl
  · exact Prod.ext (by show _ = max (0 : Int) (min 99 _); dsimp only at q ⊢; omega) rfl
theorem m_setsOf {o l u n k d : Int} (hO : Ok L wl dr tx w) : Wp (Mo_setsOf 223 o l u n k d w) (fun w1 => Fr (PA 253) w w1 ∧ ∀ i : Nat, i < 7 → wI w1 253 i = env o l (wI w 256 42) u n k d i) := by
  unfold Mo_setsOf Mo_setsOf_0
  refine wp_gd hO rfl ?_
  refine wp_R12_46 hO ?_
  refine wp_wI hO rfl (by omega) ?_
  rw [show (0 : Int).toNat = 0 from rfl]
  generalize hw1 : sI w 253 0 o = w1
  have hO1 : Ok L wl dr tx w1 := by rw [← hw1]; exact Ok.sI hO
  have f1 : Fr (PA 253) w w1 := by rw [← hw1]; exact fr_sI PA.i
  have r1 : ∀ i, wI w1 253 i = if i = 0 then o else wI w 253 i := fun i => by rw [← hw1, wI_sI]; simp only [true_and]
  refine wp_R12_46 hO1 ?_
  refine wp_wI hO1 rfl (by omega) ?_
  rw [show (1 : Int).toNat = 1 from rfl]
  generalize hw2 : sI w1 253 1 l = w2
  have hO2 : Ok L wl dr tx w2 := by rw [← hw2]; exact Ok.sI hO1
  have f2 : Fr (PA 253) w w2 := by rw [← hw2]; exact f1.sI PA.i
  have r2 : ∀ i, wI w2 253 i = if i = 1 then l else wI w1 253 i := fun i => by rw [← hw2, wI_sI]; simp only [true_and]
  refine wp_R12_46 hO2 ?_
  refine wp_R12_50 hO2 (wp_rI hO2 rfl (by omega) ?_)
  rw [show wI w2 256 (42 : Int).toNat = wI w 256 42 from f2.at 256 42 (by unfold PA; omega)]
  refine wp_wI hO2 rfl (by omega) ?_
  rw [show (2 : Int).toNat = 2 from rfl]
  generalize hw3 : sI w2 253 2 (wI w 256 42) = w3
  have hO3 : Ok L wl dr tx w3 := by rw [← hw3]; exact Ok.sI hO2
  have f3 : Fr (PA 253) w w3 := by rw [← hw3]; exact f2.sI PA.i
  have r3 : ∀ i, wI w3 253 i = if i = 2 then (wI w 256 42) else wI w2 253 i := fun i => by rw [← hw3, wI_sI]; simp only [true_and]
  refine wp_R12_46 hO3 ?_
  refine wp_wI hO3 rfl (by omega) ?_
  rw [show (3 : Int).toNat = 3 from rfl]
  generalize hw4 : sI w3 253 3 u = w4
  have hO4 : Ok L wl dr tx w4 := by rw [← hw4]; exact Ok.sI hO3
  have f4 : Fr (PA 253) w w4 := by rw [← hw4]; exact f3.sI PA.i
  have r4 : ∀ i, wI w4 253 i = if i = 3 then u else wI w3 253 i := fun i => by rw [← hw4, wI_sI]; simp only [true_and]
  refine wp_R12_46 hO4 ?_
  refine wp_wI hO4 rfl (by omega) ?_
  rw [show (4 : Int).toNat = 4 from rfl]
  generalize hw5 : sI w4 253 4 n = w5
  have hO5 : Ok L wl dr tx w5 := by rw [← hw5]; exact Ok.sI hO4
  have f5 : Fr (PA 253) w w5 := by rw [← hw5]; exact f4.sI PA.i
  have r5 : ∀ i, wI w5 253 i = if i = 4 then n else wI w4 253 i := fun i => by rw [← hw5, wI_sI]; simp only [true_and]
  refine wp_R12_46 hO5 ?_
  refine wp_wI hO5 rfl (by omega) ?_
  rw [show (5 : Int).toNat = 5 from rfl]
  generalize hw6 : sI w5 253 5 k = w6
  have hO6 : Ok L wl dr tx w6 := by rw [← hw6]; exact Ok.sI hO5
  have f6 : Fr (PA 253) w w6 := by rw [← hw6]; exact f5.sI PA.i
  have r6 : ∀ i, wI w6 253 i = if i = 5 then k else wI w5 253 i := fun i => by rw [← hw6, wI_sI]; simp only [true_and]
  refine wp_R12_46 hO6 ?_
  refine wp_wI hO6 rfl (by omega) ?_
  rw [show (6 : Int).toNat = 6 from rfl]
  generalize hw7 : sI w6 253 6 d = w7
  have hO7 : Ok L wl dr tx w7 := by rw [← hw7]; exact Ok.sI hO6
  have f7 : Fr (PA 253) w w7 := by rw [← hw7]; exact f6.sI PA.i
  have r7 : ∀ i, wI w7 253 i = if i = 6 then d else wI w6 253 i := fun i => by rw [← hw7, wI_sI]; simp only [true_and]
  refine wp_ret ⟨f7, fun i hi => ?_⟩
  have : i = 0 ∨ i = 1 ∨ i = 2 ∨ i = 3 ∨ i = 4 ∨ i = 5 ∨ i = 6 := by omega
  rw [r7, r6, r5, r4, r3, r2, r1]
  rcases this with rfl | rfl | rfl | rfl | rfl | rfl | rfl <;> rfl
theorem m_tells {k : Nat} {ρ : Nat → Int} (hO : Ok L wl dr tx w) (hM : MC w s V σ lt nM nH oH oL) (hk : k < nm V ∨ (3 ≤ k ∧ k < 3 + nh V) ∨ k = 9) (hV : VOK V) (hr : ∀ i, i < 7 → wI w 253 i = ρ i) : Wp (Mo_tells 223 (k : Int) w) (fun r => r.1 = levo ρ (lo V k) ∧ Fr PM0 w r.2) :=
  mo_tells hO hM.1 hM.2.1.1 (by have := hV.2.1; have := hV.2.2.1; omega) (hM.2.1.2.2.2 k hk) hr
theorem m_unlikeOf {m l : Nat} {own : Int} (hV : VOK V) (hK : SOK V σ) (hO : Ok L wl dr tx w) (hM : MC w s V σ lt nM nH oH oL) (hm : m < nm V) (hl : l < nl V) (ho : 0 ≤ own ∧ own ≤ 99) : Wp (Mo_unlikeOf 223 (m : Int) (l : Int) own w) (fun r => r.1 = una V σ m l own ∧ Fr PM1 w r.2) := by
  have h6 := hV.1
  unfold Mo_unlikeOf Mo_unlikeOf_0
  refine wp_gd hO rfl (wp_R12_50 hO (wp_rI hO rfl (by omega) ?_))
  rw [Int.toNat_natCast, hM.hd hl]
  refine wp_eq (q_apart w ho (hK.1 l hl)) (wp_R12_50 hO (wp_rI hO rfl (by omega) (wp_R12_50 hO (wp_rI hO rfl (by omega) ?_))))
  show Wp ((Mo_setsOf 223 (ab own (hd σ l)) (l : Int) (wI w 256 44) own (wI w 256 (l : Int).toNat) 0 w).bind _) _
  rw [Int.toNat_natCast, hM.hd hl, hM.wo]
  refine wp_call (m_setsOf hO) (fun w1 g1 => ?_)
  rw [hM.yr] at g1
  have f1 : Fr PM1 w w1 := g1.1.mono (fun a k q => Or.inl q)
  refine wp_call (m_tells (f1.ok hO) (hM.fr hV f1) (Or.inl hm) hV g1.2) (fun r hr => ?_)
  have f2 : Fr PM1 w r.2 := f1.tr (hr.2.mono (fun a k q => Or.inr q))
  unfold Mo_unlikeOf_62 una cl
  rw [← hr.1]
  refine wp_ite (fun q => wp_ite (fun q2 => wp_ret ⟨?_, f2⟩) (fun q2 => wp_ret ⟨?_, f2⟩)) (fun q => wp_ret ⟨?_, f2⟩)
  · show r.1 = _; omega
  · show (999 : Int) = _; omega
  · show (0 : Int) = _; omega
theorem m_ut5 {h m : Nat} (hV : VOK V) (hK : SOK V σ) (hh : h < nh V) (hm : m < nm V) : ∀ (r n l : Nat) (w : Wd), l + r = nl V → r < n → Ok L wl dr tx w → MC w s V σ lt nM nH oH oL →
    Wp (Mo_unlikeTo_5 n 223 (h : Int) (m : Int) (usum (fun l => una V σ m l (wrt V σ lt h l)) l) (l : Int) w) (fun r => r.1 = ulk V σ lt h m ∧ Fr PM1 w r.2)
  | r, 0, l, w, _, hn, _, _ => absurd hn (by omega)
  | 0, n + 1, l, w, hl, hn, hO, hM => by
    have hs := hM.2.1.1
    rw [Mo_unlikeTo_5]
    refine wp_R12_23 hO (wp_gI hO rfl ?_)
    rw [hM.1]
    refine wp_rI hO rfl (by omega) ?_
    rw [Int.toNat_natCast, hM.2.1.2.1.1]
    refine wp_pos (by omega) (wp_ret ⟨?_, Fr.rf w⟩)
    rw [show l = nl V by omega]; rfl
  | r + 1, n + 1, l, w, hl, hn, hO, hM => by
    have h6 := hV.1
    have hs := hM.2.1.1
    rw [Mo_unlikeTo_5]
    refine wp_R12_23 hO (wp_gI hO rfl ?_)
    rw [hM.1]
    refine wp_rI hO rfl (by omega) ?_
    rw [Int.toNat_natCast, hM.2.1.2.1.1]
    refine wp_neg (by omega) ?_
    refine wp_eq (m_writes hV hO hM hh (by omega)) ?_
    refine wp_call (m_unlikeOf hV hK hO hM hm (by omega) (wrt_bd V σ lt h l)) (fun r1 h1 => ?_)
    rw [h1.1, w32_id (z := (l : Int) + 1) (by omega) (by omega), show (l : Int) + 1 = ((l + 1 : Nat) : Int) by omega]
    exact wp_use (m_ut5 hV hK hh hm r n (l + 1) r1.2 (by omega) (by omega) (h1.2.ok hO) (hM.fr hV h1.2)) (fun r2 h2 => ⟨h2.1, h1.2.tr h2.2⟩)
theorem m_unlikeTo {h m : Nat} (hV : VOK V) (hK : SOK V σ) (hO : Ok L wl dr tx w) (hM : MC w s V σ lt nM nH oH oL) (hh : h < nh V) (hm : m < nm V) : Wp (Mo_unlikeTo 223 (h : Int) (m : Int) w) (fun r => r.1 = ulk V σ lt h m ∧ Fr PM1 w r.2) := by
  have h6 := hV.1
  unfold Mo_unlikeTo Mo_unlikeTo_0
  generalize hFU : FU = fu; have hfu : 1000000 = fu := hFU
  exact wp_gd hO rfl (m_ut5 hV hK hh hm (nl V) fu 0 w (by omega) (by omega) hO hM)
theorem m_ua4 {h : Nat} (hV : VOK V) (hK : SOK V σ) (hh : h < nh V) : ∀ (r n m : Nat) (w : Wd), m + r = nm V → r < n → Ok L wl dr tx w → MC w s V σ lt nM nH oH oL →
    Wp (Mo_unlikeAll_4 n 223 (h : Int) (usk (fun m => ulk V σ lt h m) nM m) (m : Int) w) (fun r => r.1 = uall V σ lt nM h ∧ Fr PM1 w r.2)
  | r, 0, m, w, _, hn, _, _ => absurd hn (by omega)
  | 0, n + 1, m, w, hm, hn, hO, hM => by
    have hs := hM.2.1.1
    rw [Mo_unlikeAll_4]
    refine wp_R12_29 hO (wp_gI hO rfl ?_)
    rw [hM.1]
    refine wp_rI hO rfl (by omega) ?_
    rw [Int.toNat_natCast, hM.2.1.2.1.2.2.1]
    refine wp_pos (by omega) (wp_ret ⟨?_, Fr.rf w⟩)
    rw [show m = nm V by omega]; rfl
  | r + 1, n + 1, m, w, hm, hn, hO, hM => by
    have h3 := hV.2.2.1
    have hs := hM.2.1.1
    rw [Mo_unlikeAll_4]
    refine wp_R12_29 hO (wp_gI hO rfl ?_)
    rw [hM.1]
    refine wp_rI hO rfl (by omega) ?_
    rw [Int.toNat_natCast, hM.2.1.2.1.2.2.1]
    refine wp_neg (by omega) (wp_gI hO rfl ?_)
    rw [hM.2.2.2.2.1]
    unfold Mo_unlikeAll_34
    rw [w32_id (z := (m : Int) + 1) (by omega) (by omega), show (m : Int) + 1 = ((m + 1 : Nat) : Int) by omega]
    have e : usk (fun m => ulk V σ lt h m) nM (m + 1) = if (m : Int) = nM then usk (fun m => ulk V σ lt h m) nM m else w32 (usk (fun m => ulk V σ lt h m) nM m + ulk V σ lt h m) := rfl
    refine wp_ite (fun q => ?_) (fun q => ?_)
    · rw [if_pos q] at e
      rw [← e]
      exact m_ua4 hV hK hh r n (m + 1) w (by omega) (by omega) hO hM
    · rw [if_neg q] at e
      refine wp_call (m_unlikeTo hV hK hO hM hh (by omega)) (fun r1 h1 => ?_)
      rw [h1.1, ← e]
      exact wp_use (m_ua4 hV hK hh r n (m + 1) r1.2 (by omega) (by omega) (h1.2.ok hO) (hM.fr hV h1.2)) (fun r2 h2 => ⟨h2.1, h1.2.tr h2.2⟩)
theorem m_unlikeAll {h : Nat} (hV : VOK V) (hK : SOK V σ) (hO : Ok L wl dr tx w) (hM : MC w s V σ lt nM nH oH oL) (hh : h < nh V) : Wp (Mo_unlikeAll 223 (h : Int) w) (fun r => r.1 = uall V σ lt nM h ∧ Fr PM1 w r.2) := by
  have h6 := hV.2.2.1
  unfold Mo_unlikeAll Mo_unlikeAll_0
  generalize hFU : FU = fu; have hfu : 1000000 = fu := hFU
  exact wp_gd hO rfl (m_ua4 hV hK hh (nm V) fu 0 w (by omega) (by omega) hO hM)
end M1
