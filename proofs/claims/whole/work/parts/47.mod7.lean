/-! Level 3, the reference: the whole year. -/
section M6
variable {L wl dr tx s : Nat} {V : Vl} {σ : Sg} {w : Wd} {lt nM nH oH oL : Int}
theorem m_yg105 {Q : Wd → Prop} {who : Int} {d : Nat} (hd' : d < 400) : ∀ (r n l : Nat) (w : Wd), l + r = 6 → r < n → Ok L wl dr tx w →
    (∀ w1, Fr (fun a k => a = 256 ∧ 60 + 7 * d + l ≤ k ∧ k < 60 + 7 * d + 6) w w1 → (∀ j, l ≤ j → j < 6 → wI w1 256 (60 + 7 * d + j) = wI w 256 j) → Wp (Mo_yearGoes_131 223 who ((60 + 7 * d : Nat) : Int) w1) Q) →
    Wp (Mo_yearGoes_105 n 223 who ((60 + 7 * d : Nat) : Int) (l : Int) w) Q
  | r, 0, l, w, _, hn, _, _ => absurd hn (by omega)
  | 0, n + 1, l, w, hl, hn, hO, k => by
    rw [Mo_yearGoes_105]
    exact wp_pos (by omega) (k w (Fr.rf w) (fun j h1 h2 => absurd h1 (by omega)))
  | r + 1, n + 1, l, w, hl, hn, hO, k => by
    rw [Mo_yearGoes_105]
    have e1 : w32 (((60 + 7 * d : Nat) : Int) + (l : Int)) = ((60 + 7 * d + l : Nat) : Int) := by rw [w32_id (by omega) (by omega)]; omega
    rw [e1]
    refine wp_neg (by omega) (wp_R12_50 hO (wp_R12_50 hO (wp_rI hO rfl (by omega) (wp_wI hO rfl (by omega) ?_))))
    rw [Int.toNat_natCast, Int.toNat_natCast, w32_id (z := (l : Int) + 1) (by omega) (by omega), show (l : Int) + 1 = ((l + 1 : Nat) : Int) by omega]
    generalize hw1 : sI w 256 (60 + 7 * d + l) (wI w 256 l) = w1
    have f1 : Fr (fun a k => a = 256 ∧ 60 + 7 * d + l ≤ k ∧ k < 60 + 7 * d + 6) w w1 := by rw [← hw1]; exact fr_sI ⟨rfl, by omega, by omega⟩
    refine m_yg105 hd' r n (l + 1) w1 (by omega) (by omega) (f1.ok hO) (fun w2 g1 g2 => k w2 (f1.tr (g1.mono (fun a k q => ⟨q.1, by omega, q.2.2⟩))) (fun j h1 h2 => ?_))
    by_cases p : j = l
    · rw [p, g1.at 256 (60 + 7 * d + l) (by omega), ← hw1, wI_eq]
    · rw [g2 j (by omega) h2, ← hw1]; exact wI_ne (by omega)
/-- what a year leaves in the reference's book -/
def BK (w w1 : Wd) (V : Vl) (σ : Sg) (d : Nat) : Prop := wI w1 256 45 = ((min (d + 1) 400 : Nat) : Int) ∧ (∀ k, 60 ≤ k → (k < 60 + 7 * d ∨ 60 + 7 * d + 7 ≤ k) → wI w1 256 k = wI w 256 k) ∧ (d < 400 → (∀ l, l < nl V → wI w1 256 (60 + 7 * d + l) = hd σ l) ∧ wI w1 256 (66 + 7 * d) = jdg V σ (sd V))
theorem m_yg60 {d : Nat} (hV : VOK V) (hK : SOK V σ) (hO : Ok L wl dr tx w) (hM : MC w s V σ (sd V) (-1) (-1) oH oL) (hd4 : d ≤ 400) (hw45 : wI w 256 45 = (d : Int)) :
    Wp (Mo_yearGoes_60 223 w) (fun w1 => Fr PM5 w w1 ∧ MC w1 s V (endy V (stl V σ)) (sd V) (-1) (-1) oH oL ∧ BK w w1 V σ d ∧ ∀ j, j < nm V → wI w1 258 j = vo (ulk V σ (sd V)) j (-1) (nh V)) := by
  have h6 := hV.1
  have h7 := hV.2.1
  unfold Mo_yearGoes_60
  generalize hFU : FU = fu; have hfu : 1000000 = fu := hFU
  refine wp_call (m_judged hV hK hO hM) (fun r hr => ?_)
  have f1 := pm25 hr.2.1
  have hO1 := f1.ok hO
  have hM1 := hM.fr2 hV hr.2.1
  have n1 : ∀ k, wI r.2 256 k = wI w 256 k := fun k => hr.2.1.at 256 k (by unfold PM2; omega)
  have hj1 : ∀ j, j < nm V → wI r.2 258 j = vo (ulk V σ (sd V)) j (-1) (nh V) := fun j hj => (hr.2.2 j hj).trans (if_neg (by omega))
  have er : r.1 = jdg V σ (sd V) := hr.1
  rw [er]
  refine wp_R12_50 hO1 (wp_rI hO1 rfl (by omega) ?_)
  rw [show wI r.2 256 (44 : Int).toNat = wo σ from hM1.wo]
  refine wp_wI hO1 rfl (by omega) ?_
  rw [show (44 : Int).toNat = 44 from rfl]
  generalize hw2 : sI r.2 256 44 (w32 (wo σ + 1)) = w2
  have f2 : Fr PM5 w w2 := by rw [← hw2]; exact f1.sI (by unfold PM5; omega)
  have n2 : ∀ k, k ≠ 44 → wI w2 256 k = wI w 256 k := fun k hk => by rw [← hw2, wI_ne (by omega)]; exact n1 k
  have v2 : wI w2 256 44 = w32 (wo σ + 1) := by rw [← hw2]; exact wI_eq _ _ _ _
  have hj2 : ∀ j, j < nm V → wI w2 258 j = vo (ulk V σ (sd V)) j (-1) (nh V) := fun j hj => by rw [← hw2, wI_ne (by omega)]; exact hj1 j hj
  have hO2 := f2.ok hO
  have m2 := hM.2.2.1
  have tauMS : ∀ w3, (∀ k, k < 60 → k ≠ 44 → k ≠ 45 → wI w3 256 k = wI w 256 k) → wI w3 256 44 = w32 (wo σ + 1) → MS w3 256 0 V (yr σ, w32 (wo σ + 1), ow σ, hd σ, sp σ, ha σ) := fun w3 n3 v3 =>
    ⟨(n3 _ (by omega) (by omega) (by omega)).trans m2.1, v3, (n3 _ (by omega) (by omega) (by omega)).trans m2.2.2.1, fun x hx => (n3 _ (by omega) (by omega) (by omega)).trans (m2.2.2.2.1 x hx), fun x hx y hy => (n3 _ (by omega) (by omega) (by omega)).trans (m2.2.2.2.2.1 x hx y hy), fun x hx => (n3 _ (by omega) (by omega) (by omega)).trans (m2.2.2.2.2.2 x hx)⟩
  refine wp_R12_50 hO2 (wp_rI hO2 rfl (by omega) (wp_R12_50 hO2 (wp_rI hO2 rfl (by omega) ?_)))
  rw [show wI w2 256 (45 : Int).toNat = (d : Int) from (n2 45 (by omega)).trans hw45]
  refine wp_ite (fun q => ?_) (fun q => ?_)
  · have hM2 := mc_ms hM f2 (tauMS w2 (fun k h1 h2 h3 => n2 k h2) v2)
    refine wp_use (m_yg152 hV hK hO2 hM2 (sd V) rfl) (fun w3 g => ⟨f2.tr (pm45 g.1), g.2, ⟨?_, fun k h1 h2 => ?_, fun x => absurd x (by omega)⟩, fun j hj => (g.1.at 258 j (by unfold PM4; omega)).trans (hj2 j hj)⟩)
    · rw [g.1.at 256 45 (by unfold PM4; omega), n2 45 (by omega), hw45]
      omega
    · rw [g.1.at 256 k (by unfold PM4; omega), n2 k (by omega)]
  · have e1 : w32 (60 + w32 (7 * (d : Int))) = ((60 + 7 * d : Nat) : Int) := by
      rw [w32_id (z := 7 * (d : Int)) (by omega) (by omega), w32_id (by omega) (by omega)]; omega
    rw [e1]
    refine m_yg105 (d := d) (by omega) 6 fu 0 w2 (by omega) (by omega) hO2 (fun w3 g1 g2 => ?_)
    have f3 : Fr PM5 w w3 := f2.tr (g1.mono (fun a k q => by unfold PM5; omega))
    have hO3 := f3.ok hO
    have n3 : ∀ k, k < 60 + 7 * d ∨ 60 + 7 * d + 6 ≤ k → wI w3 256 k = wI w2 256 k := fun k hk => g1.at 256 k (by omega)
    unfold Mo_yearGoes_131
    have e2 : w32 (((60 + 7 * d : Nat) : Int) + 6) = ((66 + 7 * d : Nat) : Int) := by rw [w32_id (by omega) (by omega)]; omega
    rw [e2]
    refine wp_R12_50 hO3 (wp_wI hO3 rfl (by omega) ?_)
    rw [Int.toNat_natCast]
    generalize hw4 : sI w3 256 (66 + 7 * d) (jdg V σ (sd V)) = w4
    have f4 : Fr PM5 w w4 := by rw [← hw4]; exact f3.sI (by unfold PM5; omega)
    have hO4 := f4.ok hO
    have n4 : ∀ k, k ≠ 66 + 7 * d → wI w4 256 k = wI w3 256 k := fun k hk => by rw [← hw4]; exact wI_ne (by omega)
    refine wp_R12_50 hO4 (wp_rI hO4 rfl (by omega) ?_)
    rw [show wI w4 256 (45 : Int).toNat = (d : Int) from (n4 45 (by omega)).trans ((n3 45 (by omega)).trans ((n2 45 (by omega)).trans hw45))]
    refine wp_wI hO4 rfl (by omega) ?_
    rw [show (45 : Int).toNat = 45 from rfl, w32_id (z := (d : Int) + 1) (by omega) (by omega)]
    generalize hw5 : sI w4 256 45 ((d : Int) + 1) = w5
    have f5 : Fr PM5 w w5 := by rw [← hw5]; exact f4.sI (by unfold PM5; omega)
    have n5 : ∀ k, k ≠ 45 → wI w5 256 k = wI w4 256 k := fun k hk => by rw [← hw5]; exact wI_ne (by omega)
    have hM5 := mc_ms hM f5 (tauMS w5 (fun k h1 h2 h3 => by rw [n5 k h3, n4 k (by omega), n3 k (by omega), n2 k h2]) (by rw [n5 44 (by omega), n4 44 (by omega), n3 44 (by omega)]; exact v2))
    have hj5 : ∀ j, j < nm V → wI w5 258 j = vo (ulk V σ (sd V)) j (-1) (nh V) := fun j hj => by
      rw [← hw5, wI_ne (by omega), ← hw4, wI_ne (by omega), g1.at 258 j (by omega)]
      exact hj2 j hj
    refine wp_use (m_yg152 hV hK (f5.ok hO) hM5 (sd V) rfl) (fun w6 g => ⟨f5.tr (pm45 g.1), g.2, ⟨?_, fun k h1 h2 => ?_, fun _ => ⟨fun l hl => ?_, ?_⟩⟩, fun j hj => (g.1.at 258 j (by unfold PM4; omega)).trans (hj5 j hj)⟩)
    · rw [g.1.at 256 45 (by unfold PM4; omega), ← hw5, wI_eq]
      omega
    · rw [g.1.at 256 k (by unfold PM4; omega), n5 k (by omega), n4 k (by omega), n3 k (by omega), n2 k (by omega)]
    · rw [g.1.at 256 _ (by unfold PM4; omega), n5 _ (by omega), n4 _ (by omega), g2 l (by omega) (by omega), n2 l (by omega)]
      exact hM.hd hl
    · rw [g.1.at 256 _ (by unfold PM4; omega), n5 _ (by omega), ← hw4, wI_eq]
theorem m_yg17 {Q : Wd → Prop} {k2 : Nat → Int → Wd → Option Wd} {d : Int} (hV : VOK V) (hK : SOK V σ) (hOL : ∀ h : Nat, (h : Int) = oH → oL < (nl V : Int)) : ∀ (r n h : Nat) (w : Wd), h + r = nh V → r < n → Ok L wl dr tx w → MC w s V (dayh V oH oL d σ h) lt nM nH oH oL →
    (∀ w1, Fr PM4 w w1 → MC w1 s V (dayh V oH oL d σ (nh V)) lt nM nH oH oL → Wp (k2 223 (w32 (d + 1)) w1) Q) →
    Wp (Mo_yearGoes_17 k2 n 223 d (h : Int) w) Q
  | r, 0, h, w, _, hn, _, _, _ => absurd hn (by omega)
  | 0, n + 1, h, w, hh, hn, hO, hM, k => by
    have hs := hM.2.1.1
    rw [Mo_yearGoes_17]
    refine wp_R12_25 hO (wp_gI hO rfl ?_)
    rw [hM.1]
    refine wp_rI hO rfl (by omega) ?_
    rw [Int.toNat_natCast, hM.2.1.2.1.2.1]
    refine wp_pos (by omega) ?_
    unfold Mo_yearGoes_54
    rw [show h = nh V by omega] at hM
    exact k w (Fr.rf w) hM
  | r + 1, n + 1, h, w, hh, hn, hO, hM, k => by
    have h6 := hV.1
    have h7 := hV.2.1
    have hs := hM.2.1.1
    have hhl : h < nh V := by omega
    have hK' := sok_dayh (tH := oH) (tL := oL) (d := d) hV hK h (by omega)
    have ed : dayh V oH oL d σ (h + 1) = lsn V (dayh V oH oL d σ h) h (if (h : Int) = oH then oL else lrn V (dayh V oH oL d σ h) h d) := rfl
    rw [Mo_yearGoes_17]
    refine wp_R12_25 hO (wp_gI hO rfl ?_)
    rw [hM.1]
    refine wp_rI hO rfl (by omega) ?_
    rw [Int.toNat_natCast, hM.2.1.2.1.2.1]
    refine wp_neg (by omega) (wp_call (m_learns hV hK' hO hM hhl) (fun r1 h1 => ?_))
    have f1 := pm14 h1.2
    have hO1 := f1.ok hO
    have hM1 := hM.fr hV h1.2
    have e9 : w32 ((h : Int) + 1) = ((h + 1 : Nat) : Int) := by rw [w32_id (by omega) (by omega)]; omega
    unfold Mo_yearGoes_48
    rw [e9]
    refine wp_ite (fun q => ?_) (fun q => ?_)
    · refine m_yg17 hV hK hOL r n (h + 1) r1.2 (by omega) (by omega) hO1 ?_ (fun w2 g1 g2 => k w2 (f1.tr g1) g2)
      rw [ed]
      unfold lsn
      rw [if_neg (fun p => ?_)]
      · exact hM1
      · rw [h1.1] at q
        by_cases p0 : nl V = 0
        · omega
        · rw [if_neg p0] at q; omega
    · have p0 : nl V ≠ 0 := fun p => by rw [h1.1, if_pos p] at q; omega
      have ex : r1.1 = (if (h : Int) = oH then oL else lrn V (dayh V oH oL d σ h) h d) := by rw [h1.1, if_neg p0]
      have elt : r1.1 < (nl V : Int) := by
        rw [ex]
        by_cases p : (h : Int) = oH
        · rw [if_pos p]; exact hOL h p
        · rw [if_neg p]; exact lrn_lt (by omega)
      have exn : r1.1 = ((r1.1.toNat : Nat) : Int) := by omega
      have gl := m_lessons (h := h) (l := r1.1.toNat) (N := 1) hV hK' hO1 hM1 hhl (by omega) (by omega)
      rw [← exn] at gl
      refine wp_call gl (fun w2 g => ?_)
      have f2 : Fr PM4 w w2 := f1.tr (g.1.mono (fun a k q => by unfold PR at q; unfold PM4; omega))
      refine m_yg17 hV hK hOL r n (h + 1) w2 (by omega) (by omega) (f2.ok hO) ?_ (fun w3 g1 g2 => k w3 (f2.tr g1) g2)
      rw [ed, ← ex]
      unfold lsn
      rw [if_pos ⟨by omega, elt⟩]
      have g9 := g.2.2
      rw [show ((1 : Nat) : Int) * sk V h = sk V h by omega] at g9
      exact g9
theorem m_yg2 {d : Nat} (hV : VOK V) (hK : SOK V σ) (hOL : ∀ h : Nat, (h : Int) = oH → oL < (nl V : Int)) (hd4 : d ≤ 400) : ∀ (r n y : Nat) (w : Wd), y + r = dy V → r < n → Ok L wl dr tx w → MC w s V (dayd V oH oL σ y) (sd V) (-1) (-1) oH oL → wI w 256 45 = (d : Int) →
    Wp (Mo_yearGoes_2 n 223 (y : Int) w) (fun w1 => Fr PM5 w w1 ∧ MC w1 s V (yearS V oH oL σ) (sd V) (-1) (-1) oH oL ∧ BK w w1 V (dayd V oH oL σ (dy V)) d ∧ ∀ j, j < nm V → wI w1 258 j = vo (ulk V (dayd V oH oL σ (dy V)) (sd V)) j (-1) (nh V))
  | r, 0, y, w, _, hn, _, _, _ => absurd hn (by omega)
  | 0, n + 1, y, w, hy, hn, hO, hM, h45 => by
    have hs := hM.2.1.1
    rw [Mo_yearGoes_2]
    refine wp_R12_30 hO (wp_gI hO rfl ?_)
    rw [hM.1]
    refine wp_rI hO rfl (by omega) ?_
    rw [Int.toNat_natCast, hM.2.1.2.1.2.2.2.1]
    refine wp_pos (by omega) ?_
    rw [show y = dy V by omega] at hM
    exact m_yg60 hV (sok_dayd hV hK _) hO hM hd4 h45
  | r + 1, n + 1, y, w, hy, hn, hO, hM, h45 => by
    have hs := hM.2.1.1
    have h9 := hV.2.2.2.1
    rw [Mo_yearGoes_2]
    generalize hFU : FU = fu; have hfu : 1000000 = fu := hFU
    refine wp_R12_30 hO (wp_gI hO rfl ?_)
    rw [hM.1]
    refine wp_rI hO rfl (by omega) ?_
    rw [Int.toNat_natCast, hM.2.1.2.1.2.2.2.1]
    refine wp_neg (by omega) ?_
    refine m_yg17 hV (sok_dayd (tH := oH) (tL := oL) hV hK y) hOL (nh V) fu 0 w (by omega) (by have := hV.2.1; omega) hO hM (fun w1 g1 g2 => ?_)
    rw [w32_id (by omega) (by omega), show (y : Int) + 1 = ((y + 1 : Nat) : Int) by omega]
    refine wp_use (m_yg2 hV hK hOL hd4 r n (y + 1) w1 (by omega) (by omega) (g1.ok hO) g2 ((g1.at 256 45 (by unfold PM4; omega)).trans h45)) (fun w2 e => ⟨(pm45 g1).tr e.1, e.2.1, ⟨e.2.2.1.1, fun k h1 h2 => (e.2.2.1.2.1 k h1 h2).trans (g1.at 256 k (by unfold PM4; omega)), e.2.2.1.2.2⟩, e.2.2.2⟩)
theorem m_year {d : Nat} (hV : VOK V) (hK : SOK V σ) (hOL : ∀ h : Nat, (h : Int) = oH → oL < (nl V : Int)) (hO : Ok L wl dr tx w) (hM : MC w s V σ (sd V) (-1) (-1) oH oL) (hd4 : d ≤ 400) (h45 : wI w 256 45 = (d : Int)) :
    Wp (Mo_yearGoes 223 w) (fun w1 => Fr PM5 w w1 ∧ MC w1 s V (yearS V oH oL σ) (sd V) (-1) (-1) oH oL ∧ BK w w1 V (dayd V oH oL σ (dy V)) d ∧ ∀ j, j < nm V → wI w1 258 j = vo (ulk V (dayd V oH oL σ (dy V)) (sd V)) j (-1) (nh V)) := by
  unfold Mo_yearGoes Mo_yearGoes_0
  generalize hFU : FU = fu; have hfu : 1000000 = fu := hFU
  exact wp_gd hO rfl (m_yg2 hV hK hOL hd4 (dy V) fu 0 w (by omega) (by have := hV.2.2.2.1; omega) hO hM h45)
end M6
