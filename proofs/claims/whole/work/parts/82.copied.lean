/-! Level 3: calls, copied. -/
def fw (S : Nat → Int) : Nat → Nat
  | 0 => 0
  | n + 1 => if S (n + 1) < S (fw S n) then n + 1 else fw S n
theorem fw_is (S : Nat → Int) : ∀ n, fw S n ≤ n ∧ ∀ j, j ≤ n → S (fw S n) ≤ S j ∧ (j < fw S n → S (fw S n) < S j)
  | 0 => ⟨Nat.le_refl _, fun j hj => by rw [show j = 0 by omega]; exact ⟨Int.le_refl _, fun h => absurd h (by show ¬ 0 < 0; omega)⟩⟩
  | n + 1 => by
    obtain ⟨h1, h2⟩ := fw_is S n
    have e : fw S (n + 1) = if S (n + 1) < S (fw S n) then n + 1 else fw S n := rfl
    rw [e]
    split
    · rename_i q
      refine ⟨Nat.le_refl _, fun j hj => ?_⟩
      by_cases p : j = n + 1
      · rw [p]; exact ⟨Int.le_refl _, fun h => absurd h (by omega)⟩
      · have := (h2 j (by omega)).1
        exact ⟨by omega, fun _ => by omega⟩
    · rename_i q
      refine ⟨by omega, fun j hj => ?_⟩
      by_cases p : j = n + 1
      · rw [p]; exact ⟨by omega, fun h => absurd h (by omega)⟩
      · exact h2 j (by omega)
theorem ix6 {h l : Nat} (hh : h < 6) (hl : l < 6) : w32 (w32 (6 + w32 (6 * (h : Int))) + (l : Int)) = ((6 + 6 * h + l : Nat) : Int) := by
  rw [w32_id (z := 6 * (h : Int)) (by omega) (by omega), w32_id (z := 6 + 6 * (h : Int)) (by omega) (by omega), w32_id (by omega) (by omega)]
  omega
section K25
variable {L wl dr tx s : Nat} {w w0 : Wd} {V : Vl} {σ : Sg} {x y z Y : Int} {h d : Nat}
/-- how far the shapes of an heir are from the hand of a year -/
def far (w : Wd) (V : Vl) (σ : Sg) (d h p : Nat) : Int := usum (fun l => ab (hnd w d p l) (sp σ h l)) (nl V)
theorem c_ap5 {p : Nat} (hV : VOK V) (hv : isWi wl) (hO : Ok L wl dr tx w) (hW : CW w wl V) (hN : NOW w V Y σ) (hd' : (d : Int) = min (yr σ) 400) (hh : h < nh V) : ∀ (r m l : Nat), l + r = nl V → r < m → Hh_apart_5 m 6 (h : Int) (p : Int) (usum (fun l => ab (hnd w d p l) (sp σ h l)) l) (l : Int) w = some (far w V σ d h p, w)
  | r, 0, l, _, hm => absurd hm (by omega)
  | 0, m + 1, l, hr, hm => by
    refine wp_out ?_
    rw [Hh_apart_5]
    refine wp_R11_3 hO (wi_ne hv) (wp_gI hO (sh_Wi L hv) ?_)
    rw [hW.1.1]
    refine wp_pos (by omega) (wp_ret ?_)
    unfold far
    rw [show nl V = l by omega]
  | r + 1, m + 1, l, hr, hm => by
    have h6 := hV.1
    refine wp_out ?_
    rw [Hh_apart_5]
    refine wp_R11_3 hO (wi_ne hv) (wp_gI hO (sh_Wi L hv) ?_)
    rw [hW.1.1]
    have hb := hnd_bd (p := p) (l := l) hN hd' (by omega)
    refine wp_neg (by omega) (wp_eq (q_handOn hV hO hN hd' (by omega)) (wp_R11_4 hO (wp_eq (c_own hV hO isSt_40 hN.2.1 hh (by omega)) ?_)))
    rw [w32_id (z := (l : Int) + 1) (by omega) (by omega), show (l : Int) + 1 = ((l + 1 : Nat) : Int) by omega, iabs_ab hb (hN.1.2.1 h hh l (by omega))]
    exact wp_is (c_ap5 hV hv hO hW hN hd' hh r m (l + 1) (by omega) (by omega)) rfl
theorem m_cpFrom5 {p : Nat} (hV : VOK V) (hO : Ok L wl dr tx w) (hs : wI w 223 18 = (s : Int)) (hM : MW w s V) (hN : NOW w V Y σ) (hd' : (d : Int) = min (yr σ) 400) (hh : h < nh V) : ∀ (r m l : Nat), l + r = nl V → r < m → Mo_copiedFrom_5 m 223 (h : Int) (p : Int) (usum (fun l => ab (hnd w d p l) (sp σ h l)) l) (l : Int) w = some (far w V σ d h p, w)
  | r, 0, l, _, hm => absurd hm (by omega)
  | 0, m + 1, l, hr, hm => by
    have hs1 := hM.1
    refine wp_out ?_
    rw [Mo_copiedFrom_5]
    refine wp_R12_23 hO (wp_gI hO rfl ?_)
    rw [hs]
    refine wp_rI hO rfl (by omega) ?_
    rw [Int.toNat_natCast, hM.2.1.1]
    refine wp_pos (by omega) (wp_ret ?_)
    unfold far
    rw [show nl V = l by omega]
  | r + 1, m + 1, l, hr, hm => by
    have hs1 := hM.1
    have h6 := hV.1
    have h6' := hV.2.1
    refine wp_out ?_
    rw [Mo_copiedFrom_5]
    refine wp_R12_23 hO (wp_gI hO rfl ?_)
    rw [hs]
    refine wp_rI hO rfl (by omega) ?_
    rw [Int.toNat_natCast, hM.2.1.1]
    refine wp_neg (by omega) (wp_R12_49 hO ?_)
    rw [ix6 (by omega) (by omega)]
    refine wp_rI hO rfl (ix_bd (by omega) (by omega)) ?_
    have e1 := hN.2.2.1.2.2.2.2.1 h hh l (by omega)
    rw [Nat.zero_add] at e1
    rw [Int.toNat_natCast, e1]
    have hb := hnd_bd (p := p) (l := l) hN hd' (by omega)
    refine wp_eq (q_handIn hV hO hN hd' (by omega)) (wp_eq (q_apart _ (hN.1.2.1 h hh l (by omega)) hb) ?_)
    rw [w32_id (z := (l : Int) + 1) (by omega) (by omega), show (l : Int) + 1 = ((l + 1 : Nat) : Int) by omega, ab_comm]
    exact wp_is (m_cpFrom5 hV hO hs hM hN hd' hh r m (l + 1) (by omega) (by omega)) rfl
theorem q_ap {p : Nat} (hV : VOK V) (hv : isWi wl) (hO : Ok L wl dr tx w) (hW : CW w wl V) (hN : NOW w V Y σ) (hd' : (d : Int) = min (yr σ) 400) (hh : h < nh V) : Hh_apart 6 (h : Int) (p : Int) w = some (far w V σ d h p, w) := by
  have h6 := hV.1
  unfold Hh_apart Hh_apart_0
  generalize hFU : FU = fu
  have hfu : 1000000 = fu := hFU
  rw [ok_gd (c := 11) (a := 6) hO rfl]
  exact c_ap5 hV hv hO hW hN hd' hh (nl V) fu 0 (by omega) (by omega)
theorem q_cpFrom {p : Nat} (hV : VOK V) (hO : Ok L wl dr tx w) (hs : wI w 223 18 = (s : Int)) (hM : MW w s V) (hN : NOW w V Y σ) (hd' : (d : Int) = min (yr σ) 400) (hh : h < nh V) : Mo_copiedFrom 223 (h : Int) (p : Int) w = some (far w V σ d h p, w) := by
  have h6 := hV.1
  unfold Mo_copiedFrom Mo_copiedFrom_0
  generalize hFU : FU = fu
  have hfu : 1000000 = fu := hFU
  rw [ok_gd (c := 12) (a := 223) hO rfl]
  exact m_cpFrom5 hV hO hs hM hN hd' hh (nl V) fu 0 (by omega) (by omega)
theorem c_cp32 (hV : VOK V) (hv : isWi wl) (hO : Ok L wl dr tx w) (hW : CW w wl V) (hN : NOW w V Y σ) (hd' : (d : Int) = min (yr σ) 400) (hh : h < nh V) : ∀ (r m j : Nat), j + r = d → r < m → Hh_copied_32 m 6 (h : Int) x (fw (far w V σ d h) j : Int) (far w V σ d h (fw (far w V σ d h) j)) ((j + 1 : Nat) : Int) w = some (if x = 0 then dres σ d (fw (far w V σ d h) d) else far w V σ d h (fw (far w V σ d h) d), w)
  | r, 0, j, _, hm => absurd hm (by omega)
  | 0, m + 1, j, hr, hm => by
    have e : j = d := by omega
    subst e
    have hf := (fw_is (far w V σ j h) j).1
    refine wp_out ?_
    rw [Hh_copied_32]
    unfold Hh_copied_73 Hh_copied_87
    refine wp_R11_4 hO (wp_eq (c_led40 hO hN) (wp_pos (show min (yr σ) 400 < ((j + 1 : Nat) : Int) by omega) (wp_ite (fun q => wp_eq (q_yearOn hO hN hd' hf) (wp_ret ?_)) (fun q => wp_ret ?_))))
    · rw [if_pos q]
    · rw [if_neg q]
  | r + 1, m + 1, j, hr, hm => by
    refine wp_out ?_
    rw [Hh_copied_32]
    refine wp_R11_4 hO (wp_eq (c_led40 hO hN) (wp_neg (show ¬ min (yr σ) 400 < ((j + 1 : Nat) : Int) by omega) (wp_eq (q_ap hV hv hO hW hN hd' hh) ?_)))
    have ih := c_cp32 hV hv hO hW hN hd' hh r m (j + 1) (by omega) (by omega)
    have e : fw (far w V σ d h) (j + 1) = if far w V σ d h (j + 1) < far w V σ d h (fw (far w V σ d h) j) then j + 1 else fw (far w V σ d h) j := rfl
    unfold Hh_copied_67
    rw [w32_id (z := ((j + 1 : Nat) : Int) + 1) (by omega) (by omega), show ((j + 1 : Nat) : Int) + 1 = ((j + 1 + 1 : Nat) : Int) by omega]
    rw [e] at ih
    refine wp_ite (fun q => ?_) (fun q => ?_)
    · rw [if_neg (show ¬ far w V σ d h (j + 1) < far w V σ d h (fw (far w V σ d h) j) from Int.not_lt.mpr q)] at ih
      exact wp_is ih rfl
    · rw [if_pos (show far w V σ d h (j + 1) < far w V σ d h (fw (far w V σ d h) j) from Int.not_le.mp q)] at ih
      exact wp_is ih rfl
theorem m_cp24 (hV : VOK V) (hO : Ok L wl dr tx w) (hs : wI w 223 18 = (s : Int)) (hM : MW w s V) (hN : NOW w V Y σ) (hd' : (d : Int) = min (yr σ) 400) (hh : h < nh V) (hx : 0 ≤ x ∧ x ≤ 1) : ∀ (r m j : Nat), j + r = d → r < m → Mo_copied_24 m 223 (h : Int) x (fw (far w V σ d h) j : Int) ((j + 1 : Nat) : Int) w = some (if x = 0 then dres σ d (fw (far w V σ d h) d) else far w V σ d h (fw (far w V σ d h) d), w)
  | r, 0, j, _, hm => absurd hm (by omega)
  | 0, m + 1, j, hr, hm => by
    have e : j = d := by omega
    subst e
    have hf := (fw_is (far w V σ j h) j).1
    refine wp_out ?_
    rw [Mo_copied_24]
    unfold Mo_copied_61 Mo_copied_97
    refine wp_R12_49 hO (wp_rI hO rfl (by omega) ?_)
    rw [show wI w 255 (45 : Int).toNat = wI w 255 45 from rfl, n45 hN]
    refine wp_pos (by omega) (wp_ite (fun q => wp_eq (q_cpFrom hV hO hs hM hN hd' hh) (wp_ret ?_)) (fun q => wp_R12_49 hO (wp_rI hO rfl (by omega) ?_)))
    · rw [if_neg (by omega)]
    · rw [show wI w 255 (45 : Int).toNat = wI w 255 45 from rfl, n45 hN, if_pos (show x = 0 by omega)]
      unfold dres
      refine wp_ite (fun p => wp_R12_49 hO (wp_rI hO rfl (by omega) (wp_ret ?_))) (fun p => wp_ret ?_)
      · rw [if_pos (by omega), show wI w 255 (42 : Int).toNat = wI w 255 42 from rfl, n42 hN]
      · rw [if_neg (by omega)]
  | r + 1, m + 1, j, hr, hm => by
    refine wp_out ?_
    rw [Mo_copied_24]
    refine wp_R12_49 hO (wp_rI hO rfl (by omega) ?_)
    rw [show wI w 255 (45 : Int).toNat = wI w 255 45 from rfl, n45 hN]
    refine wp_neg (by omega) (wp_eq (q_cpFrom hV hO hs hM hN hd' hh) (wp_eq (q_cpFrom hV hO hs hM hN hd' hh) ?_))
    have ih := m_cp24 hV hO hs hM hN hd' hh hx r m (j + 1) (by omega) (by omega)
    have e : fw (far w V σ d h) (j + 1) = if far w V σ d h (j + 1) < far w V σ d h (fw (far w V σ d h) j) then j + 1 else fw (far w V σ d h) j := rfl
    unfold Mo_copied_55
    rw [w32_id (z := ((j + 1 : Nat) : Int) + 1) (by omega) (by omega), show ((j + 1 : Nat) : Int) + 1 = ((j + 1 + 1 : Nat) : Int) by omega]
    rw [e] at ih
    refine wp_ite (fun q => ?_) (fun q => ?_)
    · rw [if_neg (show ¬ far w V σ d h (j + 1) < far w V σ d h (fw (far w V σ d h) j) from Int.not_lt.mpr q)] at ih
      exact wp_is ih rfl
    · rw [if_pos (show far w V σ d h (j + 1) < far w V σ d h (fw (far w V σ d h) j) from Int.not_le.mp q)] at ih
      exact wp_is ih rfl
theorem call_copied (h : INV L w Y) : CALL L w Y (Hh_copied 6 x y) (Mo_copied 223 x y) := by
  have hI := h
  obtain ⟨wl, dr, tx, s, V, σ, hO, hv, hdr, hne, hV, hW, hs, hM, hN, -⟩ := h
  have hy := hN.2.2.2.1
  unfold CALL Hh_copied Hh_copied_0 Hh_copied_17 Mo_copied Mo_copied_0 Mo_copied_17
  generalize hFU : FU = fu; have hfu : 1000000 = fu := hFU
  refine wp_gd hO rfl (wp_eq (q_isHeir hO hv hW) ?_)
  unfold bz
  by_cases q : 0 ≤ x ∧ x < (nh V : Int)
  · rw [if_pos q]
    refine wp_neg (show ¬ (1 : Int) = 0 by decide) (wp_eq (q_within 0 1) ?_)
    unfold bz
    by_cases p : 0 ≤ y ∧ y ≤ 1
    · rw [if_pos p]
      obtain ⟨a, rfl⟩ := Int.eq_ofNat_of_zero_le q.1
      refine wp_neg (show ¬ (1 : Int) = 0 by decide) (wp_eq (q_ap (p := 0) (d := (min (yr σ) 400).toNat) hV hv hO hW hN (by omega) (by omega)) ?_)
      refine wp_is (c_cp32 (x := y) (h := a) (d := (min (yr σ) 400).toNat) hV hv hO hW hN (by omega) (by omega) (min (yr σ) 400).toNat fu 0 (by omega) (by omega)) ?_
      refine wp_gd hO rfl (wp_eq (q_misHeir hV hO hs hM) ?_)
      unfold bz
      rw [if_pos q]
      refine wp_neg (show ¬ (1 : Int) = 0 by decide) (wp_eq (q_min 0 1) ?_)
      unfold bz
      rw [if_pos p]
      refine wp_neg (show ¬ (1 : Int) = 0 by decide) (wp_is (m_cp24 (d := (min (yr σ) 400).toNat) hV hO hs hM hN (by omega) (by omega) p (min (yr σ) 400).toNat fu 0 (by omega) (by omega)) ⟨?_, hI, rfl, rfl⟩)
      rfl
    · rw [if_neg p]
      refine wp_pos rfl (wp_ret (wp_gd hO rfl (wp_eq (q_misHeir hV hO hs hM) ?_)))
      unfold bz
      rw [if_pos q]
      refine wp_neg (show ¬ (1 : Int) = 0 by decide) (wp_eq (q_min 0 1) ?_)
      unfold bz
      rw [if_neg p]
      exact wp_pos rfl (wp_ret ⟨rfl, hI, rfl, rfl⟩)
  · rw [if_neg q]
    refine wp_pos rfl (wp_ret (wp_gd hO rfl (wp_eq (q_misHeir hV hO hs hM) ?_)))
    unfold bz
    rw [if_neg q]
    exact wp_pos rfl (wp_ret ⟨rfl, hI, rfl, rfl⟩)
end K25
