/-! Level 3: calls, copied. -/
def fw (S : Nat → Int) : Nat → Nat
  | 0 => 0
  | n + 1 => if S (n + 1) < S (fw S n) then n + 1 else fw S n
def bw (S : Nat → Int) (d : Nat) : Nat → Nat
  | 0 => d
  | r + 1 => if S (d - (r + 1)) ≤ S (bw S d r) then d - (r + 1) else bw S d r
theorem fw_is (S : Nat → Int) : ∀ n, fw S n ≤ n ∧ ∀ j, j ≤ n → S (fw S n) ≤ S j ∧ (j < fw S n → S (fw S n) < S j)
  | 0 => ⟨Nat.le_refl _, fun j hj => by rw [show j = 0 by omega]; exact ⟨Int.le_refl _, fun h => absurd h (by show ¬ 0 < 0; omega)⟩⟩
  | n + 1 => by
    obtain ⟨h1, h2⟩ := fw_is S n
    have e : fw S (n + 1) = if S (n + 1) < S (fw S n) then n + 1 else fw S n := rfl
    rw [e]
    split
    · rename_i q
      refine ⟨Nat.le_refl _, fun j hj => ?_⟩
      by_cases p : j = n + 1
      · rw [p]; exact ⟨Int.le_refl _, fun h => absurd h (by omega)⟩
      · have := (h2 j (by omega)).1
        exact ⟨by omega, fun _ => by omega⟩
    · rename_i q
      refine ⟨by omega, fun j hj => ?_⟩
      by_cases p : j = n + 1
      · rw [p]; exact ⟨by omega, fun h => absurd h (by omega)⟩
      · exact h2 j (by omega)
theorem bw_is (S : Nat → Int) (d : Nat) : ∀ r, r ≤ d → (d - r ≤ bw S d r ∧ bw S d r ≤ d) ∧ ∀ j, d - r ≤ j → j ≤ d → S (bw S d r) ≤ S j ∧ (j < bw S d r → S (bw S d r) < S j)
  | 0, _ => ⟨⟨Nat.le_refl _, Nat.le_refl _⟩, fun j hj hj2 => by rw [show j = d by omega]; exact ⟨Int.le_refl _, fun h => absurd h (by show ¬ d < d; omega)⟩⟩
  | r + 1, hr => by
    obtain ⟨⟨h0, h1⟩, h2⟩ := bw_is S d r (by omega)
    have e : bw S d (r + 1) = if S (d - (r + 1)) ≤ S (bw S d r) then d - (r + 1) else bw S d r := rfl
    rw [e]
    split
    · rename_i q
      refine ⟨⟨Nat.le_refl _, by omega⟩, fun j hj hj2 => ?_⟩
      by_cases p : j = d - (r + 1)
      · rw [p]; exact ⟨Int.le_refl _, fun h => absurd h (by omega)⟩
      · have := (h2 j (by omega) hj2).1
        exact ⟨by omega, fun h => absurd h (by omega)⟩
    · rename_i q
      refine ⟨⟨by omega, h1⟩, fun j hj hj2 => ?_⟩
      by_cases p : j = d - (r + 1)
      · rw [p]; exact ⟨by omega, fun h => by omega⟩
      · exact h2 j (by omega) hj2
theorem fw_bw (S : Nat → Int) (d : Nat) : bw S d d = fw S d := by
  obtain ⟨a1, a2⟩ := fw_is S d
  obtain ⟨⟨b0, b1⟩, b2⟩ := bw_is S d d (Nat.le_refl _)
  have p1 := a2 _ b1
  have p2 := b2 (fw S d) (by omega) a1
  omega
theorem ix6 {h l : Nat} (hh : h < 6) (hl : l < 6) : w32 (w32 (6 + w32 (6 * (h : Int))) + (l : Int)) = ((6 + 6 * h + l : Nat) : Int) := by
  rw [w32_id (z := 6 * (h : Int)) (by omega) (by omega), w32_id (z := 6 + 6 * (h : Int)) (by omega) (by omega), w32_id (by omega) (by omega)]
  omega
section K25
variable {L wl dr tx s : Nat} {w w0 : Wd} {V : Vl} {σ : Sg} {x y z Y : Int} {h d : Nat}
/-- how far the shapes of an heir are from the hand of a year -/
def far (w : Wd) (V : Vl) (σ : Sg) (d h p : Nat) : Int := usum (fun l => ab (hnd w d p l) (sp σ h l)) (nl V)
theorem c_apNow4 (hV : VOK V) (hv : isWi wl) (hO : Ok L wl dr tx w) (hW : CW w wl V) (hN : NOW w V Y σ) (hh : h < nh V) : ∀ (r m l : Nat), l + r = nl V → r < m → Hh_apartNow_4 m 6 (h : Int) (usum (fun l => ab (hnd w d d l) (sp σ h l)) l) (l : Int) w = some (far w V σ d h d, w)
  | r, 0, l, _, hm => absurd hm (by omega)
  | 0, m + 1, l, hr, hm => by
    refine wp_out ?_
    rw [Hh_apartNow_4]
    refine wp_R11_3 hO (wi_ne hv) (wp_gI hO (sh_Wi L hv) ?_)
    rw [hW.1.1]
    refine wp_pos (by omega) (wp_ret ?_)
    unfold far
    rw [show nl V = l by omega]
  | r + 1, m + 1, l, hr, hm => by
    have h6 := hV.1
    refine wp_out ?_
    rw [Hh_apartNow_4]
    refine wp_R11_3 hO (wi_ne hv) (wp_gI hO (sh_Wi L hv) ?_)
    rw [hW.1.1]
    refine wp_neg (by omega) (wp_R11_4 hO (wp_eq (c_off hV hN.1 hO isSt_40 hN.2.1 hh (by omega)) ?_))
    rw [w32_id (z := (l : Int) + 1) (by omega) (by omega), show (l : Int) + 1 = ((l + 1 : Nat) : Int) by omega]
    have e : hnd w d d l = hd σ l := by
      unfold hnd
      rw [if_neg (by omega)]
      exact hN.2.1.2.2.2.1 l (by omega)
    have e2 : usum (fun l => ab (hnd w d d l) (sp σ h l)) (l + 1) = w32 (usum (fun l => ab (hnd w d d l) (sp σ h l)) l + ab (hnd w d d l) (sp σ h l)) := rfl
    rw [e, ab_comm (hd σ l)] at e2
    have ih := c_apNow4 hV hv hO hW hN hh r m (l + 1) (by omega) (by omega)
    rw [e2] at ih
    exact wp_is ih rfl
theorem c_apThen5 {p : Nat} (hV : VOK V) (hv : isWi wl) (hO : Ok L wl dr tx w) (hW : CW w wl V) (hN : NOW w V Y σ) (hd' : (d : Int) = min (yr σ) 400) (hp : p < d) (hh : h < nh V) : ∀ (r m l : Nat), l + r = nl V → r < m → Hh_apartThen_5 m 6 (h : Int) (p : Int) (usum (fun l => ab (hnd w d p l) (sp σ h l)) l) (l : Int) w = some (far w V σ d h p, w)
  | r, 0, l, _, hm => absurd hm (by omega)
  | 0, m + 1, l, hr, hm => by
    refine wp_out ?_
    rw [Hh_apartThen_5]
    refine wp_R11_3 hO (wi_ne hv) (wp_gI hO (sh_Wi L hv) ?_)
    rw [hW.1.1]
    refine wp_pos (by omega) (wp_ret ?_)
    unfold far
    rw [show nl V = l by omega]
  | r + 1, m + 1, l, hr, hm => by
    have h6 := hV.1
    refine wp_out ?_
    rw [Hh_apartThen_5]
    refine wp_R11_3 hO (wi_ne hv) (wp_gI hO (sh_Wi L hv) ?_)
    rw [hW.1.1]
    refine wp_neg (by omega) (wp_R11_6 hO (wp_eq (q_handOf hO (by omega) (by omega)) (wp_R11_4 hO (wp_eq (c_own hV hO isSt_40 hN.2.1 hh (by omega)) ?_))))
    rw [w32_id (z := (l : Int) + 1) (by omega) (by omega), show (l : Int) + 1 = ((l + 1 : Nat) : Int) by omega]
    have hb := hnd_bd (p := p) (l := l) hN hd' (by omega)
    have e : hnd w d p l = wI w 50 (6 * p + l) := by
      unfold hnd
      rw [if_pos hp]
    rw [← e, iabs_ab hb (hN.1.2.1 h hh l (by omega))]
    exact wp_is (c_apThen5 hV hv hO hW hN hd' hp hh r m (l + 1) (by omega) (by omega)) rfl
theorem m_cpFrom5 {p : Nat} (hV : VOK V) (hO : Ok L wl dr tx w) (hs : wI w 227 18 = (s : Int)) (hM : MW w s V) (hN : NOW w V Y σ) (hd' : (d : Int) = min (yr σ) 400) (hh : h < nh V) : ∀ (r m l : Nat), l + r = nl V → r < m → Mo_copiedFrom_5 m 227 (h : Int) (p : Int) (usum (fun l => ab (hnd w d p l) (sp σ h l)) l) (l : Int) w = some (far w V σ d h p, w)
  | r, 0, l, _, hm => absurd hm (by omega)
  | 0, m + 1, l, hr, hm => by
    have hs1 := hM.1
    refine wp_out ?_
    rw [Mo_copiedFrom_5]
    refine wp_R12_23 hO (wp_gI hO rfl ?_)
    rw [hs]
    refine wp_rI hO rfl (by omega) ?_
    rw [Int.toNat_natCast, hM.2.1.1]
    refine wp_pos (by omega) (wp_ret ?_)
    unfold far
    rw [show nl V = l by omega]
  | r + 1, m + 1, l, hr, hm => by
    have hs1 := hM.1
    have h6 := hV.1
    have h6' := hV.2.1
    refine wp_out ?_
    rw [Mo_copiedFrom_5]
    refine wp_R12_23 hO (wp_gI hO rfl ?_)
    rw [hs]
    refine wp_rI hO rfl (by omega) ?_
    rw [Int.toNat_natCast, hM.2.1.1]
    refine wp_neg (by omega) (wp_R12_49 hO ?_)
    rw [ix6 (by omega) (by omega)]
    refine wp_rI hO rfl (ix_bd (by omega) (by omega)) ?_
    have e1 := hN.2.2.1.2.2.2.2.1 h hh l (by omega)
    rw [Nat.zero_add] at e1
    rw [Int.toNat_natCast, e1]
    have hb := hnd_bd (p := p) (l := l) hN hd' (by omega)
    refine wp_eq (q_handIn hV hO hN hd' (by omega)) (wp_eq (q_apart _ (hN.1.2.1 h hh l (by omega)) hb) ?_)
    rw [w32_id (z := (l : Int) + 1) (by omega) (by omega), show (l : Int) + 1 = ((l + 1 : Nat) : Int) by omega, ab_comm]
    exact wp_is (m_cpFrom5 hV hO hs hM hN hd' hh r m (l + 1) (by omega) (by omega)) rfl
theorem q_apNow (hV : VOK V) (hv : isWi wl) (hO : Ok L wl dr tx w) (hW : CW w wl V) (hN : NOW w V Y σ) (hh : h < nh V) : Hh_apartNow 6 (h : Int) w = some (far w V σ d h d, w) := by
  have h6 := hV.1
  unfold Hh_apartNow Hh_apartNow_0
  generalize hFU : FU = fu
  have hfu : 1000000 = fu := hFU
  rw [ok_gd (c := 11) (a := 6) hO rfl]
  exact c_apNow4 hV hv hO hW hN hh (nl V) fu 0 (by omega) (by omega)
theorem q_apThen {p : Nat} (hV : VOK V) (hv : isWi wl) (hO : Ok L wl dr tx w) (hW : CW w wl V) (hN : NOW w V Y σ) (hd' : (d : Int) = min (yr σ) 400) (hp : p < d) (hh : h < nh V) : Hh_apartThen 6 (h : Int) (p : Int) w = some (far w V σ d h p, w) := by
  have h6 := hV.1
  unfold Hh_apartThen Hh_apartThen_0
  generalize hFU : FU = fu
  have hfu : 1000000 = fu := hFU
  rw [ok_gd (c := 11) (a := 6) hO rfl]
  exact c_apThen5 hV hv hO hW hN hd' hp hh (nl V) fu 0 (by omega) (by omega)
theorem q_cpFrom {p : Nat} (hV : VOK V) (hO : Ok L wl dr tx w) (hs : wI w 227 18 = (s : Int)) (hM : MW w s V) (hN : NOW w V Y σ) (hd' : (d : Int) = min (yr σ) 400) (hh : h < nh V) : Mo_copiedFrom 227 (h : Int) (p : Int) w = some (far w V σ d h p, w) := by
  have h6 := hV.1
  unfold Mo_copiedFrom Mo_copiedFrom_0
  generalize hFU : FU = fu
  have hfu : 1000000 = fu := hFU
  rw [ok_gd (c := 12) (a := 227) hO rfl]
  exact m_cpFrom5 hV hO hs hM hN hd' hh (nl V) fu 0 (by omega) (by omega)
theorem c_cp45 (hV : VOK V) (hv : isWi wl) (hO : Ok L wl dr tx w) (hW : CW w wl V) (hN : NOW w V Y σ) (hd' : (d : Int) = min (yr σ) 400) (hh : h < nh V) : ∀ (r m j : Nat), j + r = d → r < m → Hh_copied_45 m 6 (h : Int) x (dres σ d (bw (far w V σ d h) d j)) (far w V σ d h (bw (far w V σ d h) d j)) ((d : Int) - 1 - (j : Int)) w = some (if x = 0 then dres σ d (bw (far w V σ d h) d d) else far w V σ d h (bw (far w V σ d h) d d), w)
  | r, 0, j, _, hm => absurd hm (by omega)
  | 0, m + 1, j, hr, hm => by
    have e : j = d := by omega
    subst e
    refine wp_out ?_
    rw [Hh_copied_45]
    unfold Hh_copied_79 Hh_copied_89
    refine wp_pos (by omega) (wp_ite (fun q => wp_ret ?_) (fun q => wp_ret ?_))
    · rw [if_pos q]
    · rw [if_neg q]
  | r + 1, m + 1, j, hr, hm => by
    refine wp_out ?_
    rw [Hh_copied_45]
    have g := q_apThen (p := d - (j + 1)) hV hv hO hW hN hd' (by omega) hh
    rw [show ((d - (j + 1) : Nat) : Int) = (d : Int) - 1 - (j : Int) by omega] at g
    refine wp_neg (by omega) (wp_eq g ?_)
    have ih := c_cp45 hV hv hO hW hN hd' hh r m (j + 1) (by omega) (by omega)
    have e : bw (far w V σ d h) d (j + 1) = if far w V σ d h (d - (j + 1)) ≤ far w V σ d h (bw (far w V σ d h) d j) then d - (j + 1) else bw (far w V σ d h) d j := rfl
    unfold Hh_copied_73
    rw [w32_id (z := (d : Int) - 1 - (j : Int) + -1) (by omega) (by omega), show (d : Int) - 1 - (j : Int) + -1 = (d : Int) - 1 - ((j + 1 : Nat) : Int) by omega]
    rw [e] at ih
    refine wp_ite (fun q => ?_) (fun q => ?_)
    · rw [if_neg (show ¬ far w V σ d h (d - (j + 1)) ≤ far w V σ d h (bw (far w V σ d h) d j) from fun c => absurd (show far w V σ d h (bw (far w V σ d h) d j) < far w V σ d h (d - (j + 1)) from q) (by omega))] at ih
      exact wp_is ih rfl
    · rw [if_pos (show far w V σ d h (d - (j + 1)) ≤ far w V σ d h (bw (far w V σ d h) d j) from Int.not_lt.mp q), show dres σ d (d - (j + 1)) = (d : Int) - 1 - (j : Int) by unfold dres; rw [if_neg (by omega)]; omega] at ih
      exact wp_is ih rfl
theorem m_cp24 (hV : VOK V) (hO : Ok L wl dr tx w) (hs : wI w 227 18 = (s : Int)) (hM : MW w s V) (hN : NOW w V Y σ) (hd' : (d : Int) = min (yr σ) 400) (hh : h < nh V) (hx : 0 ≤ x ∧ x ≤ 1) : ∀ (r m j : Nat), j + r = d → r < m → Mo_copied_24 m 227 (h : Int) x (fw (far w V σ d h) j : Int) ((j + 1 : Nat) : Int) w = some (if x = 0 then dres σ d (fw (far w V σ d h) d) else far w V σ d h (fw (far w V σ d h) d), w)
  | r, 0, j, _, hm => absurd hm (by omega)
  | 0, m + 1, j, hr, hm => by
    have e : j = d := by omega
    subst e
    have hf := (fw_is (far w V σ j h) j).1
    refine wp_out ?_
    rw [Mo_copied_24]
    unfold Mo_copied_61 Mo_copied_97
    refine wp_R12_49 hO (wp_rI hO rfl (by omega) ?_)
    rw [show wI w 259 (45 : Int).toNat = wI w 259 45 from rfl, n45 hN]
    refine wp_pos (by omega) (wp_ite (fun q => wp_eq (q_cpFrom hV hO hs hM hN hd' hh) (wp_ret ?_)) (fun q => wp_R12_49 hO (wp_rI hO rfl (by omega) ?_)))
    · rw [if_neg (by omega)]
    · rw [show wI w 259 (45 : Int).toNat = wI w 259 45 from rfl, n45 hN, if_pos (show x = 0 by omega)]
      unfold dres
      refine wp_ite (fun p => wp_R12_49 hO (wp_rI hO rfl (by omega) (wp_ret ?_))) (fun p => wp_ret ?_)
      · rw [if_pos (by omega), show wI w 259 (42 : Int).toNat = wI w 259 42 from rfl, n42 hN]
      · rw [if_neg (by omega)]
  | r + 1, m + 1, j, hr, hm => by
    refine wp_out ?_
    rw [Mo_copied_24]
    refine wp_R12_49 hO (wp_rI hO rfl (by omega) ?_)
    rw [show wI w 259 (45 : Int).toNat = wI w 259 45 from rfl, n45 hN]
    refine wp_neg (by omega) (wp_eq (q_cpFrom hV hO hs hM hN hd' hh) (wp_eq (q_cpFrom hV hO hs hM hN hd' hh) ?_))
    have ih := m_cp24 hV hO hs hM hN hd' hh hx r m (j + 1) (by omega) (by omega)
    have e : fw (far w V σ d h) (j + 1) = if far w V σ d h (j + 1) < far w V σ d h (fw (far w V σ d h) j) then j + 1 else fw (far w V σ d h) j := rfl
    unfold Mo_copied_55
    rw [w32_id (z := ((j + 1 : Nat) : Int) + 1) (by omega) (by omega), show ((j + 1 : Nat) : Int) + 1 = ((j + 1 + 1 : Nat) : Int) by omega]
    rw [e] at ih
    refine wp_ite (fun q => ?_) (fun q => ?_)
    · rw [if_neg (show ¬ far w V σ d h (j + 1) < far w V σ d h (fw (far w V σ d h) j) from Int.not_lt.mpr q)] at ih
      exact wp_is ih rfl
    · rw [if_pos (show far w V σ d h (j + 1) < far w V σ d h (fw (far w V σ d h) j) from Int.not_le.mp q)] at ih
      exact wp_is ih rfl
theorem call_copied (h : INV L w Y) : CALL L w Y (Hh_copied 6 x y) (Mo_copied 227 x y) := by
  have hI := h
  obtain ⟨wl, dr, tx, s, V, σ, hO, hv, hdr, hne, hV, hW, hs, hM, hN, -⟩ := h
  have hy := hN.2.2.2.1
  unfold CALL Hh_copied Hh_copied_0 Hh_copied_17 Mo_copied Mo_copied_0 Mo_copied_17
  generalize hFU : FU = fu; have hfu : 1000000 = fu := hFU
  refine wp_gd hO rfl (wp_eq (q_isHeir hO hv hW) ?_)
  unfold bz
  by_cases q : 0 ≤ x ∧ x < (nh V : Int)
  · rw [if_pos q]
    refine wp_neg (show ¬ (1 : Int) = 0 by decide) (wp_eq (q_within 0 1) ?_)
    unfold bz
    by_cases p : 0 ≤ y ∧ y ≤ 1
    · rw [if_pos p]
      obtain ⟨a, rfl⟩ := Int.eq_ofNat_of_zero_le q.1
      refine wp_neg (show ¬ (1 : Int) = 0 by decide) (wp_R11_4 hO (wp_gI hO (sh_St L isSt_40) (wp_eq (q_apNow (d := (min (yr σ) 400).toNat) hV hv hO hW hN (by omega)) (wp_R11_4 hO (wp_eq (c_led40 hO hN) ?_)))))
      have g := c_cp45 (x := y) (h := a) (d := (min (yr σ) 400).toNat) hV hv hO hW hN (by omega) (by omega) (min (yr σ) 400).toNat fu 0 (by omega) (by omega)
      have e0 : dres σ (min (yr σ) 400).toNat (bw (far w V σ (min (yr σ) 400).toNat a) (min (yr σ) 400).toNat 0) = wI w 40 0 := by
        rw [hN.2.1.1]
        exact if_pos rfl
      rw [e0, show (((min (yr σ) 400).toNat : Nat) : Int) - 1 - ((0 : Nat) : Int) = w32 (min (yr σ) 400 - 1) by rw [w32_id (by omega) (by omega)]; omega] at g
      refine wp_is g ?_
      refine wp_gd hO rfl (wp_eq (q_misHeir hV hO hs hM) ?_)
      unfold bz
      rw [if_pos q]
      refine wp_neg (show ¬ (1 : Int) = 0 by decide) (wp_eq (q_min 0 1) ?_)
      unfold bz
      rw [if_pos p]
      refine wp_neg (show ¬ (1 : Int) = 0 by decide) (wp_is (m_cp24 (d := (min (yr σ) 400).toNat) hV hO hs hM hN (by omega) (by omega) p (min (yr σ) 400).toNat fu 0 (by omega) (by omega)) ⟨?_, hI, rfl, rfl⟩)
      show (if y = 0 then dres σ (min (yr σ) 400).toNat (fw (far w V σ (min (yr σ) 400).toNat a) (min (yr σ) 400).toNat) else far w V σ (min (yr σ) 400).toNat a (fw (far w V σ (min (yr σ) 400).toNat a) (min (yr σ) 400).toNat)) = (if y = 0 then dres σ (min (yr σ) 400).toNat (bw (far w V σ (min (yr σ) 400).toNat a) (min (yr σ) 400).toNat (min (yr σ) 400).toNat) else far w V σ (min (yr σ) 400).toNat a (bw (far w V σ (min (yr σ) 400).toNat a) (min (yr σ) 400).toNat (min (yr σ) 400).toNat))
      rw [fw_bw]
    · rw [if_neg p]
      refine wp_pos rfl (wp_ret (wp_gd hO rfl (wp_eq (q_misHeir hV hO hs hM) ?_)))
      unfold bz
      rw [if_pos q]
      refine wp_neg (show ¬ (1 : Int) = 0 by decide) (wp_eq (q_min 0 1) ?_)
      unfold bz
      rw [if_neg p]
      exact wp_pos rfl (wp_ret ⟨rfl, hI, rfl, rfl⟩)
  · rw [if_neg q]
    refine wp_pos rfl (wp_ret (wp_gd hO rfl (wp_eq (q_misHeir hV hO hs hM) ?_)))
    unfold bz
    rw [if_neg q]
    exact wp_pos rfl (wp_ret ⟨rfl, hI, rfl, rfl⟩)
end K25
