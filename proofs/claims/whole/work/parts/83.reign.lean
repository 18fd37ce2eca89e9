/-! Level 3: calls, reign. -/
def rru (W : Nat → Int) (y : Nat) (run : Int) : Int := if W y < 0 then 0 else if 0 < y ∧ W (y - 1) = W y then run + 1 else 1
def rgs (W : Nat → Int) : Nat → Int × Int × Int × Int
  | 0 => (-2, -2, 0, 0)
  | y + 1 => if (rgs W y).2.2.1 < rru W y (rgs W y).2.2.2 then (W y, (y : Int) - rru W y (rgs W y).2.2.2 + 1, rru W y (rgs W y).2.2.2, rru W y (rgs W y).2.2.2) else ((rgs W y).1, (rgs W y).2.1, (rgs W y).2.2.1, rru W y (rgs W y).2.2.2)
theorem rgs_bd (W : Nat → Int) : ∀ y : Nat, (0 ≤ (rgs W y).2.2.2 ∧ (rgs W y).2.2.2 ≤ (y : Int)) ∧ 0 ≤ (rgs W y).2.2.1 ∧ (rgs W y).2.2.1 ≤ (y : Int)
  | 0 => ⟨⟨Int.le_refl _, Int.le_refl _⟩, Int.le_refl _, Int.le_refl _⟩
  | y + 1 => by
    obtain ⟨⟨a, b⟩, c, d⟩ := rgs_bd W y
    have e : rgs W (y + 1) = if (rgs W y).2.2.1 < rru W y (rgs W y).2.2.2 then (W y, (y : Int) - rru W y (rgs W y).2.2.2 + 1, rru W y (rgs W y).2.2.2, rru W y (rgs W y).2.2.2) else ((rgs W y).1, (rgs W y).2.1, (rgs W y).2.2.1, rru W y (rgs W y).2.2.2) := rfl
    have hr : 0 ≤ rru W y (rgs W y).2.2.2 ∧ rru W y (rgs W y).2.2.2 ≤ (y : Int) + 1 := by
      unfold rru
      split
      · omega
      · split <;> omega
    have hr2 : rru W y (rgs W y).2.2.2 ≤ ((y + 1 : Nat) : Int) := by omega
    have d2 : (rgs W y).2.2.1 ≤ ((y + 1 : Nat) : Int) := by omega
    rw [e]
    split
    · exact ⟨⟨hr.1, hr2⟩, hr.1, hr2⟩
    · exact ⟨⟨hr.1, hr2⟩, c, d2⟩
/-- where the reign that begins at f ends -/
def rfe (W : Nat → Int) (f : Nat) : Nat → Nat → Nat
  | 0, e => e
  | r + 1, e => if W e = W f then rfe W f r (e + 1) else e
theorem rfe_is (W : Nat → Int) (f : Nat) : ∀ r e, (e ≤ rfe W f r e ∧ rfe W f r e ≤ e + r) ∧ (∀ j, e ≤ j → j < rfe W f r e → W j = W f) ∧ (rfe W f r e < e + r → W (rfe W f r e) ≠ W f)
  | 0, e => ⟨⟨Nat.le_refl _, Nat.le_refl _⟩, fun j h1 h2 => absurd (show j < e from h2) (by omega), fun h => absurd (show e < e + 0 from h) (by omega)⟩
  | r + 1, e => by
    have ee : rfe W f (r + 1) e = if W e = W f then rfe W f r (e + 1) else e := rfl
    rw [ee]
    split
    · rename_i q
      obtain ⟨⟨a, b⟩, c, d⟩ := rfe_is W f r (e + 1)
      refine ⟨⟨by omega, by omega⟩, fun j h1 h2 => ?_, fun h => d (by omega)⟩
      by_cases p : j = e
      · rw [p]; exact q
      · exact c j (by omega) h2
    · rename_i q
      exact ⟨⟨by omega, by omega⟩, fun j h1 h2 => absurd h2 (by omega), fun _ => q⟩
def ren (W : Nat → Int) (d f : Nat) : Nat := rfe W f (d - f) f
theorem ren_is (W : Nat → Int) {d f : Nat} (h : f < d) : (f < ren W d f ∧ ren W d f ≤ d) ∧ (∀ j, f ≤ j → j < ren W d f → W j = W f) ∧ (ren W d f < d → W (ren W d f) ≠ W f) := by
  obtain ⟨⟨a, b⟩, c, e⟩ := rfe_is W f (d - f) f
  unfold ren
  have g : f < rfe W f (d - f) f := by
    obtain ⟨r, hr⟩ : ∃ r, d - f = r + 1 := ⟨d - f - 1, by omega⟩
    have a2 := (rfe_is W f r (f + 1)).1.1
    rw [hr, show rfe W f (r + 1) f = if W f = W f then rfe W f r (f + 1) else f from rfl, if_pos rfl]
    omega
  exact ⟨⟨g, by omega⟩, c, fun h => e (by omega)⟩
theorem rgs_run (W : Nat → Int) {d f : Nat} (h : f < d) (hb : f = 0 ∨ W (f - 1) ≠ W f) : ∀ i : Nat, f + (i + 1) ≤ ren W d f → rgs W (f + (i + 1)) = if W f < 0 then ((rgs W f).1, (rgs W f).2.1, (rgs W f).2.2.1, 0) else if (rgs W f).2.2.1 < ((i + 1 : Nat) : Int) then (W f, (f : Int), ((i + 1 : Nat) : Int), ((i + 1 : Nat) : Int)) else ((rgs W f).1, (rgs W f).2.1, (rgs W f).2.2.1, ((i + 1 : Nat) : Int))
  | 0, hi => by
    have e : rgs W (f + 1) = if (rgs W f).2.2.1 < rru W f (rgs W f).2.2.2 then (W f, (f : Int) - rru W f (rgs W f).2.2.2 + 1, rru W f (rgs W f).2.2.2, rru W f (rgs W f).2.2.2) else ((rgs W f).1, (rgs W f).2.1, (rgs W f).2.2.1, rru W f (rgs W f).2.2.2) := rfl
    have hm := (rgs_bd W f).2.1
    show rgs W (f + 1) = _
    rw [e]
    by_cases q : W f < 0
    · have er : rru W f (rgs W f).2.2.2 = 0 := by unfold rru; rw [if_pos q]
      rw [er, if_pos q, if_neg (by omega)]
    · have er : rru W f (rgs W f).2.2.2 = 1 := by
        unfold rru
        rw [if_neg q, if_neg]
        rintro ⟨h1, h2⟩
        rcases hb with hb | hb
        · omega
        · exact hb h2
      rw [er, if_neg q]
      by_cases p : (rgs W f).2.2.1 < 1
      · rw [if_pos p, if_pos (show (rgs W f).2.2.1 < ((0 + 1 : Nat) : Int) from p)]
        simp
      · rw [if_neg p, if_neg (show ¬ (rgs W f).2.2.1 < ((0 + 1 : Nat) : Int) from p)]
        rfl
  | i + 1, hi => by
    obtain ⟨-, c, -⟩ := ren_is W h
    have ih := rgs_run W h hb i (by omega)
    generalize hy : f + (i + 1) = y at ih
    have e : rgs W (y + 1) = if (rgs W y).2.2.1 < rru W y (rgs W y).2.2.2 then (W y, (y : Int) - rru W y (rgs W y).2.2.2 + 1, rru W y (rgs W y).2.2.2, rru W y (rgs W y).2.2.2) else ((rgs W y).1, (rgs W y).2.1, (rgs W y).2.2.1, rru W y (rgs W y).2.2.2) := rfl
    have w1 : W y = W f := c y (by omega) (by omega)
    have w2 : W (y - 1) = W f := c (y - 1) (by omega) (by omega)
    have hm := (rgs_bd W f).2.1
    rw [show f + (i + 1 + 1) = y + 1 by omega, e, w1]
    by_cases q : W f < 0
    · rw [if_pos q] at ih ⊢
      have er : rru W y (rgs W y).2.2.2 = 0 := by unfold rru; rw [w1, if_pos q]
      rw [er, ih]
      exact if_neg (show ¬ (rgs W f).2.2.1 < 0 by omega)
    · rw [if_neg q] at ih ⊢
      have er : rru W y (rgs W y).2.2.2 = (rgs W y).2.2.2 + 1 := by unfold rru; rw [w1, w2, if_neg q, if_pos ⟨by omega, rfl⟩]
      rw [er]
      by_cases p : (rgs W f).2.2.1 < ((i + 1 : Nat) : Int)
      · rw [if_pos p] at ih
        rw [ih, if_pos (show ((i + 1 : Nat) : Int) < ((i + 1 : Nat) : Int) + 1 by omega), if_pos (show (rgs W f).2.2.1 < ((i + 1 + 1 : Nat) : Int) by omega)]
        show (W f, (y : Int) - (((i + 1 : Nat) : Int) + 1) + 1, ((i + 1 : Nat) : Int) + 1, ((i + 1 : Nat) : Int) + 1) = _
        rw [show (y : Int) - (((i + 1 : Nat) : Int) + 1) + 1 = (f : Int) by omega, show ((i + 1 : Nat) : Int) + 1 = ((i + 1 + 1 : Nat) : Int) by omega]
      · rw [if_neg p] at ih
        rw [ih]
        show (if (rgs W f).2.2.1 < ((i + 1 : Nat) : Int) + 1 then (W f, (y : Int) - (((i + 1 : Nat) : Int) + 1) + 1, ((i + 1 : Nat) : Int) + 1, ((i + 1 : Nat) : Int) + 1) else ((rgs W f).1, (rgs W f).2.1, (rgs W f).2.2.1, ((i + 1 : Nat) : Int) + 1)) = _
        rw [show (y : Int) - (((i + 1 : Nat) : Int) + 1) + 1 = (f : Int) by omega, show ((i + 1 : Nat) : Int) + 1 = ((i + 1 + 1 : Nat) : Int) by omega]
/-- class and reference at the beginning of a reign -/
def RGI (W : Nat → Int) (d f : Nat) (b mo' : Int) : Prop := mo' = (rgs W f).2.2.1 ∧ ((b = -1 ∧ (rgs W f).1 = -2) ∨ ∃ n : Nat, b = (n : Int) ∧ (rgs W f).2.1 = (n : Int) ∧ (rgs W f).1 = W n ∧ 0 ≤ W n ∧ n < f ∧ n < d ∧ mo' = ((ren W d n - n : Nat) : Int))
theorem rgi_next {W : Nat → Int} {d f : Nat} {b mo' : Int} (h : f < d) (hb : f = 0 ∨ W (f - 1) ≠ W f) (hI : RGI W d f b mo') : RGI W d (ren W d f) (if 0 ≤ W f ∧ mo' < ((ren W d f - f : Nat) : Int) then (f : Int) else b) (if 0 ≤ W f ∧ mo' < ((ren W d f - f : Nat) : Int) then ((ren W d f - f : Nat) : Int) else mo') := by
  obtain ⟨⟨r1, r2⟩, -, -⟩ := ren_is W h
  have e := rgs_run W h hb (ren W d f - f - 1) (by omega)
  rw [show f + (ren W d f - f - 1 + 1) = ren W d f by omega, show ren W d f - f - 1 + 1 = ren W d f - f by omega] at e
  obtain ⟨m1, m2⟩ := hI
  by_cases q : W f < 0
  · rw [if_pos q] at e
    rw [if_neg (by omega), if_neg (by omega)]
    unfold RGI
    rw [e]
    refine ⟨m1, m2.imp id (fun ⟨n, a1, a2, a3, a4, a5, a6, a7⟩ => ⟨n, a1, a2, a3, a4, by omega, a6, a7⟩)⟩
  · rw [if_neg q] at e
    rw [← m1] at e
    by_cases p : mo' < ((ren W d f - f : Nat) : Int)
    · rw [if_pos p] at e
      rw [if_pos (by omega), if_pos (by omega)]
      unfold RGI
      rw [e]
      exact ⟨rfl, Or.inr ⟨f, rfl, rfl, rfl, by omega, by omega, h, rfl⟩⟩
    · rw [if_neg p] at e
      rw [if_neg (by omega), if_neg (by omega)]
      unfold RGI
      rw [e]
      exact ⟨rfl, m2.imp id (fun ⟨n, a1, a2, a3, a4, a5, a6, a7⟩ => ⟨n, a1, a2, a3, a4, by omega, a6, a7⟩)⟩
section K26
variable {L wl dr tx s : Nat} {w w0 : Wd} {V : Vl} {σ : Sg} {x y z Y : Int} {d : Nat}
def wh (w : Wd) (p : Nat) : Int := wI w 255 (66 + 7 * p)
theorem c_rf2 {f : Nat} (hO : Ok L wl dr tx w) (hN : NOW w V Y σ) (hd' : (d : Int) = min (yr σ) 400) (hf : f < d) : ∀ (r m e : Nat), e + r = d → r < m → Bk_reignFrom_2 m 48 (f : Int) (d : Int) (e : Int) w = some ((rfe (wh w) f r e : Int) - (f : Int), w)
  | r, 0, e, _, hm => absurd hm (by omega)
  | 0, m + 1, e, hr, hm => by
    rw [Bk_reignFrom_2, if_pos (by omega)]
    unfold Bk_reignFrom_26
    rw [w32_id (by omega) (by omega)]
    rfl
  | r + 1, m + 1, e, hr, hm => by
    have ih := c_rf2 hO hN hd' hf r m (e + 1) (by omega) (by omega)
    have a1 := n66 (p := e) hN (by omega)
    have a2 := n66 (p := f) hN (by omega)
    refine wp_out ?_
    rw [Bk_reignFrom_2]
    refine wp_neg (by omega) (wp_eq (q_givenIn hO (nk hN (by omega)) (by omega)) (wp_eq (q_givenIn hO (nk hN (by omega)) (by omega)) ?_))
    rw [w32_id (z := (e : Int) + 1) (by omega) (by omega), show (e : Int) + 1 = ((e + 1 : Nat) : Int) by omega, show pgo (wL w 49 e) = cow (wh w e) from a1.1, show pgo (wL w 49 f) = cow (wh w f) from a2.1]
    have ee : rfe (wh w) f (r + 1) e = if wh w e = wh w f then rfe (wh w) f r (e + 1) else e := rfl
    have ci := cow_inj (a := wh w e) (b := wh w f) a1.2.1 a2.2.1
    rw [ee]
    refine wp_ite (fun q => wp_is ih ?_) (fun q => ?_)
    · rw [if_pos (ci.mp q)]
    · rw [if_neg (fun p => q (ci.mpr p))]
      unfold Bk_reignFrom_26
      rw [w32_id (by omega) (by omega)]
      exact wp_ret rfl
theorem q_reignFrom {f : Nat} (hO : Ok L wl dr tx w) (hN : NOW w V Y σ) (hd' : (d : Int) = min (yr σ) 400) (hf : f < d) : Bk_reignFrom 48 (f : Int) (d : Int) w = some (((ren (wh w) d f - f : Nat) : Int), w) := by
  unfold Bk_reignFrom Bk_reignFrom_0
  generalize hFU : FU = fu
  have hfu : 1000000 = fu := hFU
  have r1 := (ren_is (wh w) hf).1.1
  rw [ok_gd (c := 0) (a := 48) hO (by rw [sh_Bk L isBk_48]), c_rf2 hO hN hd' hf (d - f) fu f (by omega) (by omega), show ((ren (wh w) d f - f : Nat) : Int) = (ren (wh w) d f : Int) - (f : Int) by omega]
  rfl
theorem c_lr7 (hO : Ok L wl dr tx w) (hN : NOW w V Y σ) (hd' : (d : Int) = min (yr σ) 400) : ∀ (m r f : Nat) (b mo' : Int), f + r = d → r < m → (f = 0 ∨ f = d ∨ wh w (f - 1) ≠ wh w f) → RGI (wh w) d f b mo' → Wp (Bk_longestReign_7 m 48 (d : Int) b mo' (f : Int) w) (fun q => q.2 = w ∧ ∃ mo', RGI (wh w) d d q.1 mo')
  | 0, r, f, b, mo', _, hm, _, _ => absurd hm (by omega)
  | m + 1, r, f, b, mo', hr, hm, hb, hI => by
    rw [Bk_longestReign_7]
    by_cases r0 : r = 0
    · refine wp_pos (by omega) (wp_ret ⟨rfl, mo', ?_⟩)
      rw [show f = d by omega] at hI
      exact hI
    · have hf : f < d := by omega
      obtain ⟨⟨e1, e2⟩, e3, e4⟩ := ren_is (wh w) hf
      have a1 := n66 (p := f) hN (by omega)
      have nx := rgi_next hf (by omega) hI
      have ih := fun b mo' hI => c_lr7 hO hN hd' m (d - ren (wh w) d f) (ren (wh w) d f) b mo' (by omega) (by omega) (by
        by_cases c : ren (wh w) d f = d
        · exact Or.inr (Or.inl c)
        · have c1 := e4 (by omega)
          have c2 := e3 (ren (wh w) d f - 1) (by omega) (by omega)
          exact Or.inr (Or.inr (fun h => c1 (by rw [← h]; exact c2)))) hI
      refine wp_neg (by omega) (wp_eq (q_reignFrom hO hN hd' hf) (wp_eq (q_givenIn hO (nk hN (by omega)) (by omega)) ?_))
      have em : max 1 ((ren (wh w) d f - f : Nat) : Int) = ((ren (wh w) d f - f : Nat) : Int) := by omega
      show Wp (if pgo (wL w 49 f) < 0 then _ else _) _
      unfold Bk_longestReign_47
      rw [em, w32_id (z := (f : Int) + ((ren (wh w) d f - f : Nat) : Int)) (by omega) (by omega), show (f : Int) + ((ren (wh w) d f - f : Nat) : Int) = (ren (wh w) d f : Int) by omega, show pgo (wL w 49 f) = cow (wh w f) from a1.1]
      refine wp_ite (fun q => ?_) (fun q => wp_ite (fun p => ?_) (fun p => ?_))
      · have q1 : wh w f < 0 := cow_neg.mp q
        rw [if_neg (by omega), if_neg (by omega)] at nx
        exact ih _ _ nx
      · rw [if_neg (by omega), if_neg (by omega)] at nx
        exact ih _ _ nx
      · have q1 : ¬ wh w f < 0 := fun h => q (cow_neg.mpr h)
        rw [if_pos (by omega), if_pos (by omega)] at nx
        exact ih _ _ nx
def rga (x : Int) (g : Int × Int × Int × Int) : Int := if 0 ≤ g.1 then (if x = 0 then g.2.2.1 else if x = 1 then g.2.1 else g.1) else -2
theorem m_rg26 (hO : Ok L wl dr tx w) (hN : NOW w V Y σ) (hd' : (d : Int) = min (yr σ) 400) : ∀ (r m f : Nat), f + r = d → r < m → Mo_reign_26 m 223 x (rgs (wh w) f).1 (rgs (wh w) f).2.1 (rgs (wh w) f).2.2.1 (rgs (wh w) f).2.2.2 (f : Int) w = some (rga x (rgs (wh w) d), w)
  | r, 0, f, _, hm => absurd hm (by omega)
  | 0, m + 1, f, hr, hm => by
    have e : f = d := by omega
    subst e
    refine wp_out ?_
    rw [Mo_reign_26]
    refine wp_R12_49 hO (wp_rI hO rfl (by omega) ?_)
    rw [show wI w 255 (45 : Int).toNat = wI w 255 45 from rfl, n45 hN]
    unfold Mo_reign_126 Mo_reign_152 rga
    refine wp_pos (by omega) (wp_ite (fun q => wp_ite (fun p => wp_ret ?_) (fun p => wp_ite (fun o => wp_ret ?_) (fun o => wp_ret ?_))) (fun q => wp_ret ?_))
    · rw [if_pos q, if_pos p]
    · rw [if_pos q, if_neg p, if_pos o]
    · rw [if_pos q, if_neg p, if_neg o]
    · rw [if_neg q]
  | r + 1, m + 1, f, hr, hm => by
    have ih := m_rg26 hO hN hd' r m (f + 1) (by omega) (by omega)
    have hb := rgs_bd (wh w) f
    have e : rgs (wh w) (f + 1) = if (rgs (wh w) f).2.2.1 < rru (wh w) f (rgs (wh w) f).2.2.2 then (wh w f, (f : Int) - rru (wh w) f (rgs (wh w) f).2.2.2 + 1, rru (wh w) f (rgs (wh w) f).2.2.2, rru (wh w) f (rgs (wh w) f).2.2.2) else ((rgs (wh w) f).1, (rgs (wh w) f).2.1, (rgs (wh w) f).2.2.1, rru (wh w) f (rgs (wh w) f).2.2.2) := rfl
    have go : ∀ u, u = rru (wh w) f (rgs (wh w) f).2.2.2 → (0 ≤ u ∧ u ≤ (f : Int) + 1) → Wp (Mo_reign_93 (Mo_reign_26 m) 223 x (rgs (wh w) f).1 (rgs (wh w) f).2.1 (rgs (wh w) f).2.2.1 (f : Int) (wh w f) u w) (fun q => q = (rga x (rgs (wh w) d), w)) := by
      intro u hu hub
      unfold Mo_reign_93 Mo_reign_120
      rw [w32_id (z := (f : Int) - u) (by omega) (by omega), w32_id (z := (f : Int) - u + 1) (by omega) (by omega), w32_id (z := (f : Int) + 1) (by omega) (by omega), show (f : Int) + 1 = ((f + 1 : Nat) : Int) by omega]
      rw [e, ← hu] at ih
      refine wp_ite (fun q => ?_) (fun q => ?_)
      · rw [if_pos q] at ih; exact wp_is ih rfl
      · rw [if_neg q] at ih; exact wp_is ih rfl
    refine wp_out ?_
    rw [Mo_reign_26]
    refine wp_R12_49 hO (wp_rI hO rfl (by omega) ?_)
    rw [show wI w 255 (45 : Int).toNat = wI w 255 45 from rfl, n45 hN]
    refine wp_neg (by omega) (wp_R12_49 hO ?_)
    rw [ix66 (by omega)]
    refine wp_rI hO rfl (by omega) ?_
    rw [Int.toNat_natCast, show wI w 255 (66 + 7 * f) = wh w f from rfl]
    unfold Mo_reign_92
    refine wp_ite (fun q => wp_ite (fun p => go 1 ?_ (by omega)) (fun p => wp_R12_49 hO ?_)) (fun q => go 0 ?_ (by omega))
    · unfold rru
      rw [if_neg (by omega), if_neg (by omega)]
    · have i59 : w32 (59 + w32 (7 * (f : Int))) = ((66 + 7 * (f - 1) : Nat) : Int) := by
        rw [w32_id (z := 7 * (f : Int)) (by omega) (by omega), w32_id (by omega) (by omega)]
        omega
      rw [i59]
      refine wp_rI hO rfl (by omega) ?_
      rw [Int.toNat_natCast, show wI w 255 (66 + 7 * (f - 1)) = wh w (f - 1) from rfl, w32_id (z := (rgs (wh w) f).2.2.2 + 1) (by omega) (by omega)]
      refine wp_ite (fun o => go _ ?_ (by omega)) (fun o => go 1 ?_ (by omega))
      · unfold rru
        rw [if_neg (by omega), if_pos ⟨by omega, o⟩]
      · unfold rru
        rw [if_neg (by omega), if_neg (fun h => o h.2)]
    · unfold rru
      rw [if_pos (by omega)]
theorem call_reign (h : INV L w Y) : CALL L w Y (Hh_reign 6 x) (Mo_reign 223 x) := by
  have hI := h
  obtain ⟨wl, dr, tx, s, V, σ, hO, hv, hdr, hne, hV, hW, hs, hM, hN, -⟩ := h
  have hy := hN.2.2.2.1
  unfold CALL Hh_reign Hh_reign_0 Mo_reign Mo_reign_0
  generalize hFU : FU = fu; have hfu : 1000000 = fu := hFU
  refine wp_gd hO rfl (wp_eq (q_within 0 2) ?_)
  unfold bz
  by_cases q : 0 ≤ x ∧ x ≤ 2
  · rw [if_pos q]
    obtain ⟨d, hd'⟩ : ∃ d : Nat, (d : Int) = min (yr σ) 400 := ⟨(min (yr σ) 400).toNat, by omega⟩
    have mo' : ∀ v, v = rga x (rgs (wh w) d) → Wp (gd 12 w 223 ((Mo_in x 0 2 w).bind fun r3 => if (r3.1 : Int) = 0 then some ((-1), r3.2) else Mo_reign_26 fu 223 x (-2) (-2) 0 0 0 r3.2)) (fun q => q.1 = v ∧ INV L q.2 Y ∧ wn q.2 = wn w ∧ wz q.2 = wz w) := by
      intro v hv1
      refine wp_gd hO rfl (wp_eq (q_min 0 2) ?_)
      unfold bz
      rw [if_pos q]
      exact wp_neg (show ¬ (1 : Int) = 0 by decide) (wp_is (m_rg26 (x := x) hO hN hd' d fu 0 (by omega) (by omega)) ⟨hv1.symm, hI, rfl, rfl⟩)
    refine wp_neg (show ¬ (1 : Int) = 0 by decide) (wp_R11_6 hO (wp_R11_4 hO (wp_eq (c_led40 hO hN) ?_)))
    unfold Bk_longestReign Bk_longestReign_0
    rw [← hd']
    refine wp_call (wp_gd hO (sh_Bk L isBk_48) (by rw [hFU]; exact c_lr7 hO hN hd' fu d 0 (-1) 0 (by omega) (by omega) (Or.inl rfl) ⟨rfl, Or.inl ⟨rfl, rfl⟩⟩)) (fun r hr => ?_)
    obtain ⟨r2, m', hm, hr⟩ := hr
    rw [r2]
    rcases hr with ⟨h1, h2⟩ | ⟨n, h1, h2, h3, h4, h5, h6, h7⟩
    · refine wp_neg (by omega) (wp_ret (mo' _ ?_))
      unfold rga
      rw [h2]
      rfl
    · rw [h1]
      have g : rga x (rgs (wh w) d) = if x = 0 then (rgs (wh w) d).2.2.1 else if x = 1 then (rgs (wh w) d).2.1 else (rgs (wh w) d).1 := by
        unfold rga
        rw [if_pos (by rw [h3]; exact h4)]
      refine wp_pos (by omega) (wp_ite (fun x0 => wp_R11_6 hO (wp_R11_4 hO (wp_eq (c_led40 hO hN) ?_))) (fun x0 => wp_ite (fun x1 => wp_ret (mo' _ ?_)) (fun x1 => wp_R11_6 hO (wp_eq (q_givenIn hO (nk hN (by omega)) (by omega)) (wp_ret (mo' _ ?_))))))
      · rw [← hd']
        refine wp_eq (q_reignFrom hO hN hd' h6) (wp_ret (mo' _ ?_))
        rw [g, if_pos x0, ← hm, h7]
      · rw [g, if_neg x0, if_pos x1, h2]
      · rw [g, if_neg x0, if_neg x1, h3]
        have a1 := n66 (p := n) hN (by omega)
        exact a1.1.trans (cow_nn h4)
  · rw [if_neg q]
    refine wp_pos rfl (wp_ret (wp_gd hO rfl (wp_eq (q_min 0 2) ?_)))
    unfold bz
    rw [if_neg q]
    exact wp_pos rfl (wp_ret ⟨rfl, hI, rfl, rfl⟩)
end K26
