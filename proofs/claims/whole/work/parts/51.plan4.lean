/-! Level 3, the reference: a plan. -/
def Mv (C : Nat → Nat → Int) (N l j : Nat) : Int := if l = N then (if j = 0 then 0 else 1000000) else ls C N (N - l) j
def fM (C : Nat → Nat → Int) (N l n k : Nat) : Int := C l k + Mv C N (l + 1) (n - k)
theorem Mv_bd {C : Nat → Nat → Int} {N l j : Nat} (hC : ∀ l n, 0 ≤ C l n ∧ C l n ≤ 2997) (hN : N ≤ 6) : 0 ≤ Mv C N l j ∧ Mv C N l j ≤ 1000000 := by
  have := ls_bd (N := N) hC (N - l) j
  unfold Mv
  split
  · split <;> omega
  · omega
theorem fM_md {C : Nat → Nat → Int} {N l n : Nat} (hC : ∀ l n, 0 ≤ C l n ∧ C l n ≤ 2997) (hN : N ≤ 6) (hl : l < N) : fM C N l n (md C N (N - (l + 1)) n) = ls C N (N - l) n ∧ (∀ k, k ≤ n → ls C N (N - l) n ≤ fM C N l n k) ∧ (∀ k, k ≤ n → md C N (N - (l + 1)) n < k → ls C N (N - l) n < fM C N l n k) := by
  have e1 : ls C N (N - l) n = C l (md C N (N - (l + 1)) n) + ls C N (N - (l + 1)) (n - md C N (N - (l + 1)) n) := by
    rw [show N - l = (N - (l + 1)) + 1 by omega, ls_md, show N - (N - (l + 1) + 1) = l by omega]
  by_cases q : l + 1 = N
  · have em : md C N (N - (l + 1)) n = n := by unfold md; rw [if_pos (by omega)]
    have e0 : ls C N (N - (l + 1)) (n - n) = 0 := by rw [show N - (l + 1) = 0 by omega]; rfl
    rw [em] at e1 ⊢
    rw [e0] at e1
    have hc := hC l n
    refine ⟨?_, fun k hk => ?_, fun k hk h2 => absurd h2 (by omega)⟩
    · unfold fM Mv
      rw [if_pos q, if_pos (by omega), e1]
    · unfold fM Mv
      rw [if_pos q, e1]
      have hck := hC l k
      by_cases p : n - k = 0
      · rw [if_pos p, show k = n by omega]; omega
      · rw [if_neg p]; omega
  · have em : md C N (N - (l + 1)) n = bs (fun k => C l k + ls C N (N - (l + 1)) (n - k)) n n := by
      unfold md
      rw [if_neg (by omega), show N - (N - (l + 1) + 1) = l by omega]
    have ef : ∀ k, fM C N l n k = C l k + ls C N (N - (l + 1)) (n - k) := fun k => by unfold fM Mv; rw [if_neg q]
    have bm := bs_min (fun k => C l k + ls C N (N - (l + 1)) (n - k)) n n (Nat.le_refl n)
    rw [em] at e1 ⊢
    refine ⟨by rw [ef, e1], fun k hk => ?_, fun k hk h2 => ?_⟩
    · rw [ef, e1]; exact (bm k (by omega) hk).1
    · rw [ef, e1]; exact (bm k (by omega) hk).2 h2
def mnf (f : Nat → Int) : Nat → Int
  | 0 => 1000000
  | k + 1 => if mnf f k ≤ f k then mnf f k else f k
theorem mnf_lt {f : Nat → Int} : ∀ n, mnf f n ≤ 1000000 ∧ ∀ k, k < n → mnf f n ≤ f k
  | 0 => ⟨Int.le_refl _, fun k hk => absurd hk (by omega)⟩
  | n + 1 => by
    obtain ⟨h1, h2⟩ := mnf_lt (f := f) n
    unfold mnf
    by_cases q : mnf f n ≤ f n
    · rw [if_pos q]
      refine ⟨h1, fun k hk => ?_⟩
      by_cases p : k = n
      · rw [p]; exact q
      · exact h2 k (by omega)
    · rw [if_neg q]
      refine ⟨by omega, fun k hk => ?_⟩
      by_cases p : k = n
      · rw [p]; exact Int.le_refl _
      · have := h2 k (by omega); omega
theorem mnf_ge {f : Nat → Int} {v : Int} (hv : v ≤ 1000000) : ∀ n, (∀ k, k < n → v ≤ f k) → v ≤ mnf f n
  | 0, _ => hv
  | n + 1, h => by
    have ih := mnf_ge hv n (fun k hk => h k (by omega))
    unfold mnf
    split
    · exact ih
    · exact h n (by omega)
def PMP (a k : Nat) : Prop := a = 253 ∨ a = 254 ∨ (a = 223 ∧ k = 48) ∨ a = 260 ∨ a = 261 ∨ a = 262
theorem pm1p {w w1 : Wd} (h : Fr PM1 w w1) : Fr PMP w w1 := h.mono (fun a k q => by unfold PM1 at q; unfold PMP; omega)
theorem mc_frp {w w1 : Wd} {s : Nat} {V : Vl} {σ : Sg} {lt nM nH oH oL : Int} (hV : VOK V) (h : MC w s V σ lt nM nH oH oL) (f : Fr PMP w w1) : MC w1 s V σ lt nM nH oH oL := h.eq hV (fun a k q => f.at a k (by unfold PMP; omega))
theorem ix13 {l k : Nat} (hl : l ≤ 6) (hk : k ≤ 12) : w32 (w32 (13 * (l : Int)) + (k : Int)) = ((13 * l + k : Nat) : Int) := by
  rw [w32_id (z := 13 * (l : Int)) (by omega) (by omega), w32_id (by omega) (by omega)]; omega
section P4
variable {L wl dr tx s h d : Nat} {V : Vl} {σ : Sg} {w : Wd} {lt nM nH oH oL : Int}
theorem m_pl28 {Q : Int × Wd → Prop} {k19 : Nat → Int → Int → Int → Int → Wd → Option (Int × Wd)} {l : Nat} (hV : VOK V) (hK : SOK V σ) (hh : h < nh V) (hl : l < nl V) (hd : d ≤ 12) : ∀ (r m k : Nat) (w : Wd), k + r = d + 1 → r < m → Ok L wl dr tx w → MC w s V σ lt nM nH oH oL → (∀ j, j < k → wI w 262 (13 * l + j) = pC V σ h l j) →
    (∀ w1, Fr PMP w w1 → (∀ x, ¬ (13 * l ≤ x ∧ x < 13 * l + 13) → wI w1 262 x = wI w 262 x) → (∀ j, j ≤ d → wI w1 262 (13 * l + j) = pC V σ h l j) → Wp (Mo_plans_62 k19 223 (h : Int) (d : Int) (nl V : Int) (l : Int) w1) Q) →
    Wp (Mo_plans_28 k19 m 223 (h : Int) (d : Int) (nl V : Int) (l : Int) (k : Int) w) Q
  | r, 0, k, w, _, hm, _, _, _, _ => absurd hm (by omega)
  | 0, m + 1, k, w, hr, hm, hO, hM, hP, kk => by
    rw [Mo_plans_28]
    exact wp_pos (by omega) (kk w (Fr.rf w) (fun _ _ => rfl) (fun j hj => hP j (by omega)))
  | r + 1, m + 1, k, w, hr, hm, hO, hM, hP, kk => by
    have h6 := hV.1
    rw [Mo_plans_28, ix13 (by omega) (by omega)]
    refine wp_neg (by omega) (wp_R12_62 hO (wp_call (m_sumBehind hV hK hO hM hh hl (by omega)) (fun r1 h1 => ?_)))
    have f1 := pm1p h1.2
    refine wp_wI (f1.ok hO) rfl (by omega) ?_
    rw [h1.1, Int.toNat_natCast, w32_id (z := (k : Int) + 1) (by omega) (by omega), show (k : Int) + 1 = ((k + 1 : Nat) : Int) by omega]
    generalize hw2 : sI r1.2 262 (13 * l + k) (pco V σ h l ((k : Int) * sk V h)) = w2
    have f2 : Fr PMP w w2 := by rw [← hw2]; exact f1.sI (by unfold PMP; omega)
    have n2 : ∀ x, x ≠ 13 * l + k → wI w2 262 x = wI w 262 x := fun x hx => by rw [← hw2, wI_ne (by omega)]; exact h1.2.at 262 x (by unfold PM1; omega)
    refine m_pl28 hV hK hh hl hd r m (k + 1) w2 (by omega) (by omega) (f2.ok hO) (mc_frp hV hM f2) (fun j hj => ?_) (fun w3 g1 g2 g3 => kk w3 (f2.tr g1) (fun x hx => (g2 x hx).trans (n2 x (by omega))) g3)
    by_cases p : j = k
    · rw [p, ← hw2, wI_eq]; rfl
    · rw [n2 _ (by omega)]; exact hP j (by omega)
/-- the table of sums -/
def SU (w : Wd) (C : Nat → Nat → Int) (N d : Nat) : Prop := ∀ l, l < N → ∀ j, j ≤ d → wI w 262 (13 * l + j) = C l j
theorem m_pl19 {Q : Int × Wd → Prop} (hV : VOK V) (hK : SOK V σ) (hh : h < nh V) (hd : d ≤ 12) : ∀ (r m l : Nat) (w : Wd), l + r = nl V → r < m → Ok L wl dr tx w → MC w s V σ lt nM nH oH oL → (∀ x, x < l → ∀ j, j ≤ d → wI w 262 (13 * x + j) = pC V σ h x j) →
    (∀ w1, Fr PMP w w1 → SU w1 (pC V σ h) (nl V) d → Wp (Mo_plans_68 223 (d : Int) (nl V : Int) w1) Q) →
    Wp (Mo_plans_19 m 223 (h : Int) (d : Int) (nl V : Int) (l : Int) w) Q
  | r, 0, l, w, _, hm, _, _, _, _ => absurd hm (by omega)
  | 0, m + 1, l, w, hr, hm, hO, hM, hP, kk => by
    rw [Mo_plans_19]
    exact wp_pos (by omega) (kk w (Fr.rf w) (fun x hx => hP x (by omega)))
  | r + 1, m + 1, l, w, hr, hm, hO, hM, hP, kk => by
    have h6 := hV.1
    rw [Mo_plans_19]
    generalize hFU : FU = fu; have hfu : 1000000 = fu := hFU
    refine wp_neg (by omega) (m_pl28 hV hK hh (by omega) hd (d + 1) fu 0 w (by omega) (by omega) hO hM (fun j hj => absurd hj (by omega)) (fun w1 g1 g2 g3 => ?_))
    unfold Mo_plans_62
    rw [w32_id (z := (l : Int) + 1) (by omega) (by omega), show (l : Int) + 1 = ((l + 1 : Nat) : Int) by omega]
    refine m_pl19 hV hK hh hd r m (l + 1) w1 (by omega) (by omega) (g1.ok hO) (mc_frp hV hM g1) (fun x hx j hj => ?_) (fun w2 e1 e2 => kk w2 (g1.tr e1) e2)
    by_cases p : x = l
    · rw [p]; exact g3 j hj
    · rw [g2 _ (by omega)]; exact hP x (by omega) j hj
/-- the table of least sums, from letter l on -/
def LE' (w : Wd) (C : Nat → Nat → Int) (N d l : Nat) : Prop := ∀ x, l ≤ x → x ≤ N → ∀ j, j ≤ d → wI w 260 (13 * x + j) = Mv C N x j
theorem m_pl71 {Q : Int × Wd → Prop} {C : Nat → Nat → Int} {N : Nat} (hN : N ≤ 6) (hd : d ≤ 12) : ∀ (r m k : Nat) (w : Wd), k + r = d + 1 → r < m → Ok L wl dr tx w → (∀ j, j < k → wI w 260 (13 * N + j) = Mv C N N j) →
    (∀ w1, Fr (PA 260) w w1 → LE' w1 C N d N → Wp (Mo_plans_107 223 (d : Int) (N : Int) w1) Q) →
    Wp (Mo_plans_71 m 223 (d : Int) (N : Int) (k : Int) w) Q
  | r, 0, k, w, _, hm, _, _, _ => absurd hm (by omega)
  | 0, m + 1, k, w, hr, hm, hO, hP, kk => by
    rw [Mo_plans_71]
    refine wp_pos (by omega) (kk w (Fr.rf w) (fun x h1 h2 j hj => ?_))
    rw [show x = N by omega]
    exact hP j (by omega)
  | r + 1, m + 1, k, w, hr, hm, hO, hP, kk => by
    rw [Mo_plans_71, ix13 (by omega) (by omega)]
    refine wp_neg (by omega) (wp_R12_60 hO ?_)
    unfold Mo_plans_100
    rw [w32_id (z := (k : Int) + 1) (by omega) (by omega), show (k : Int) + 1 = ((k + 1 : Nat) : Int) by omega]
    have go : ∀ z, z = Mv C N N k → Wp ((wrI w 260 ((13 * N + k : Nat) : Int) z).bind fun w100 => Mo_plans_71 m 223 (d : Int) (N : Int) ((k + 1 : Nat) : Int) w100) Q := by
      intro z hz
      refine wp_wI hO rfl (by omega) ?_
      rw [Int.toNat_natCast, hz]
      generalize hw2 : sI w 260 (13 * N + k) (Mv C N N k) = w2
      have f2 : Fr (PA 260) w w2 := by rw [← hw2]; exact fr_sI PA.i
      refine m_pl71 hN hd r m (k + 1) w2 (by omega) (by omega) (f2.ok hO) (fun j hj => ?_) (fun w3 g1 g2 => kk w3 (f2.tr g1) g2)
      by_cases p : j = k
      · rw [p, ← hw2, wI_eq]
      · rw [← hw2, wI_ne (by omega)]; exact hP j (by omega)
    refine wp_ite (fun q => go _ ?_) (fun q => go _ ?_)
    · unfold Mv; rw [if_pos rfl, if_pos (by omega)]
    · unfold Mv; rw [if_pos rfl, if_neg (by omega)]
theorem m_pl134 {Q : Int × Wd → Prop} {k112 : Nat → Int → Int → Int → Wd → Option (Int × Wd)} {k120 : Nat → Int → Int → Int → Int → Wd → Option (Int × Wd)} {C : Nat → Nat → Int} {N l y : Nat} (hC : ∀ l n, 0 ≤ C l n ∧ C l n ≤ 2997) (hN : N ≤ 6) (hd : d ≤ 12) (hl : l < N) (hy : y ≤ d) (hO : Ok L wl dr tx w) (hS : SU w C N d) (hE : LE' w C N d (l + 1)) (kk : Wp (Mo_plans_192 k112 k120 223 (d : Int) (N : Int) (l : Int) (y : Int) (mnf (fM C N l y) (y + 1)) w) Q) : ∀ (r m k : Nat), k + r = y + 1 → r < m →
    Wp (Mo_plans_134 k112 k120 m 223 (d : Int) (N : Int) (l : Int) (y : Int) (mnf (fM C N l y) k) (k : Int) w) Q
  | r, 0, k, _, hm => absurd hm (by omega)
  | 0, m + 1, k, hr, hm => by
    rw [Mo_plans_134]
    refine wp_pos (by omega) ?_
    rw [show k = y + 1 by omega]
    exact kk
  | r + 1, m + 1, k, hr, hm => by
    have b1 := hC l k
    have b2 := Mv_bd (l := l + 1) (j := y - k) hC hN
    have e1 : w32 ((l : Int) + 1) = ((l + 1 : Nat) : Int) := by rw [w32_id (by omega) (by omega)]; omega
    have e2 : w32 (w32 (w32 (13 * ((l + 1 : Nat) : Int)) + (y : Int)) - (k : Int)) = ((13 * (l + 1) + (y - k) : Nat) : Int) := by
      rw [ix13 (l := l + 1) (k := y) (by omega) (by omega), w32_id (by omega) (by omega)]; omega
    rw [Mo_plans_134, ix13 (by omega) (by omega), e1, e2]
    refine wp_neg (by omega) (wp_R12_62 hO (wp_rI hO rfl (by omega) (wp_R12_60 hO (wp_rI hO rfl (by omega) ?_))))
    rw [Int.toNat_natCast, Int.toNat_natCast, hS l hl k (by omega), hE (l + 1) (by omega) (by omega) (y - k) (by omega), w32_id (z := C l k + Mv C N (l + 1) (y - k)) (by omega) (by omega)]
    have ih := m_pl134 hC hN hd hl hy hO hS hE kk r m (k + 1) (by omega) (by omega)
    have e : mnf (fM C N l y) (k + 1) = if mnf (fM C N l y) k ≤ C l k + Mv C N (l + 1) (y - k) then mnf (fM C N l y) k else C l k + Mv C N (l + 1) (y - k) := rfl
    unfold Mo_plans_186
    rw [w32_id (z := (k : Int) + 1) (by omega) (by omega), show (k : Int) + 1 = ((k + 1 : Nat) : Int) by omega]
    refine wp_ite (fun q => ?_) (fun q => ?_)
    · rw [if_pos q] at e; rw [e] at ih; exact ih
    · rw [if_neg q] at e; rw [e] at ih; exact ih
end P4
