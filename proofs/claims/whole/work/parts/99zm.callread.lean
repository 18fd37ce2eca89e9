/-! Level 3, the calls: read. -/
/-- what stays over a text in which something is wrong, wills aside -/
def KP (a k : Nat) : Prop := (40 ≤ a ∧ a ≤ 43) ∨ (49 ≤ a ∧ a ≤ 171) ∨ (173 ≤ a ∧ a ≤ 175) ∨ (202 ≤ a ∧ a ≤ 222) ∨ a = 255 ∨ a = 259 ∨ (263 ≤ a ∧ a ≤ 266) ∨ (a = 223 ∧ (k = 58 ∨ k = 63))
section KK
variable {L : Nat} {w w1 : Wd} {V : Vl} {Y : Int} {σ : Sg}
theorem now_k (hV : VOK V) (h : NOW w V Y σ) (e : ∀ a k, KP a k → wI w1 a k = wI w a k) (el : ∀ a k, (a = 49 ∨ (202 ≤ a ∧ a ≤ 222)) → wL w1 a k = wL w a k) : NOW w1 V Y σ := rw_fr hV h (fun x k q => e x k (by unfold KP; omega)) (fun k => el 49 k (by omega))
theorem past_k (hV : VOK V) (h : PAST w V Y σ) (e : ∀ a k, KP a k → wI w1 a k = wI w a k) (el : ∀ a k, (a = 49 ∨ (202 ≤ a ∧ a ≤ 222)) → wL w1 a k = wL w a k) : PAST w1 V Y σ := by
  obtain ⟨u, x, τ, h1, h2, h3, h4, h5, h6, h7⟩ := h
  refine ⟨u, x, τ, h1, h2, (e 50 0 (by unfold KP; omega)).trans h3, (e 50 1 (by unfold KP; omega)).trans h4, (e 223 58 (by unfold KP; omega)).trans h5, fun i hi => rw_fr hV (h6 i hi) (fun y k q => e y k ?_) (fun k => el 49 k (by omega)), h7⟩
  have hm : (x + 30 - u + i) % 30 < 30 := Nat.mod_lt _ (by omega)
  unfold KP
  omega
theorem slot_k (hV : VOK V) (h : SLOT w V Y) (e : ∀ a k, KP a k → wI w1 a k = wI w a k) (el : ∀ a k, (a = 49 ∨ (202 ≤ a ∧ a ≤ 222)) → wL w1 a k = wL w a k) : SLOT w1 V Y := by
  intro i hi
  obtain ⟨h1, h2⟩ := h i hi
  have e1 : wI w1 265 i = wI w 265 i := e 265 i (by unfold KP; omega)
  refine ⟨by rw [e (202 + 7 * i) 0 (by unfold KP; omega), e1]; exact h1, ?_⟩
  rw [e1]
  rcases h2 with h2 | ⟨h2, τ, h3⟩
  · exact Or.inl h2
  · exact Or.inr ⟨h2, τ, rw_fr hV h3 (fun y k q => e y k (by unfold KP; omega)) (fun k => el _ k (by omega))⟩
theorem papr_k (h : PAPR w V) (e : ∀ a k, KP a k → wI w1 a k = wI w a k) : PAPR w1 V := by
  obtain ⟨n, h1, h2, h3, h4⟩ := h
  refine ⟨n, h1, (e 173 0 (by unfold KP; omega)).trans h2, (e 223 63 (by unfold KP; omega)).trans h3, fun i hi => ?_⟩
  obtain ⟨l, z, g1, g2, g3, g4, g5, g6⟩ := h4 i hi
  exact ⟨l, z, g1, g2, (e 174 i (by unfold KP; omega)).trans g3, (e 263 i (by unfold KP; omega)).trans g4, (e 175 i (by unfold KP; omega)).trans g5, (e 264 i (by unfold KP; omega)).trans g6⟩
end KK
theorem rgd_ge {d a k : Nat} (h : RG d a k) : 233 ≤ a ∧ a ≤ 251 ∧ a ≠ 234 ∧ a ≠ 238 := by unfold RG at h; omega
theorem rg_rg {s d a k : Nat} (hs : s ≤ 1) (hd : d = 1 - s) (h : RG s a k) : ¬ RG d a k := by
  rcases (show s = 0 ∨ s = 1 by omega) with rfl | rfl
  · subst hd
    unfold RG at h ⊢
    omega
  · subst hd
    unfold RG at h ⊢
    omega
theorem prm_ge {d a k : Nat} (h : PRm d a k) : 223 ≤ a ∧ (a = 223 → k ≠ 17 ∧ k ≠ 18 ∧ k ≠ 58 ∧ k ≠ 63) ∧ (a ≤ 252 ∧ a ≠ 224 ∧ a ≠ 230) := by
  rcases h with (h | h | h) | h
  · rcases h with h | h | h | h | h | h
    · omega
    · omega
    · omega
    · omega
    · omega
    · have := rgd_ge h; omega
  · unfold PMt at h; omega
  · omega
  · omega
theorem prm_rg {s d a k : Nat} (hs : s ≤ 1) (hd : d = 1 - s) (h : RG s a k) : ¬ PRm d a k := by
  have g := rgd_ge h
  have g2 := rg_rg hs hd h
  intro q
  rcases q with (q | q | q) | q
  · rcases q with q | q | q | q | q | q
    · omega
    · omega
    · omega
    · omega
    · omega
    · exact g2 q
  · unfold PMt at q; omega
  · omega
  · omega
theorem prx_at {d a k : Nat} (h : PRx d a k) : 223 ≤ a ∧ (a = 223 → k ≠ 18 ∧ k ≠ 58 ∧ k ≠ 63) ∧ (a ≤ 252 ∧ a ≠ 224 ∧ a ≠ 230) := by
  rcases h with h | h
  · have := prm_ge h; omega
  · unfold P17 at h; omega
theorem pry_at {d a k : Nat} (h : PRy d a k) : 223 ≤ a := by
  rcases h with h | h
  · exact (prm_ge h).1
  · unfold PE0 at h; omega
theorem prc_at {dr a k : Nat} (hd : isWi dr) (h : PRc dr a k) : a ≤ 37 ∧ (a = 8 ∨ (dr ≤ a ∧ a ≤ dr + 9) ∨ (21 ≤ a ∧ a ≤ 23) ∨ (a = 6 ∧ k = 1)) := by
  have := wi_bd hd
  unfold PRc PRt at h
  omega
theorem vd_inr {ρ : Sum Ft Sst} {s : Sst} (h : vd ρ = .inr s) : ρ = .inr s ∧ (sT s).1 = 0 := by
  cases ρ with
  | inl e => cases h
  | inr t =>
    have h : (if (sT t).1 = 0 then (Sum.inr t : Sum Ft Sst) else .inl (sT t)) = .inr s := h
    by_cases c : (sT t).1 = 0
    · rw [if_pos c] at h
      have := Sum.inr.inj h
      subst this
      exact ⟨rfl, c⟩
    · rw [if_neg c] at h
      cases h
section KR
variable {L wl dr tx s d N : Nat} {w w1 w2 : Wd} {V : Vl} {Y : Int} {σ : Sg} {c : Nat → Int}
/-- a text in which something is wrong -/
theorem inv_bad {v : Int} {e : Ft} {r : Int × Wd} (hw : isWi wl) (hd : isWi dr) (hne : wl ≠ dr) (hs : s ≤ 1) (hds : d = 1 - s) (hV : VOK V) (hW : CW w wl V) (h18 : wI w 223 18 = (s : Int)) (hN : NOW w V Y σ) (hP : PAST w V Y σ) (hS : SLOT w V Y) (hA : PAPR w V) (hT : TXT w) (hM : MWS w s V) (g : CBAD L wl dr c N w e (v, w1)) (l1 : ∀ a k, a ≠ 8 → a ≠ 24 → a ≠ 27 → wL w1 a k = wL w a k) (h6 : wI w1 6 1 = 0) (m : MBAD c N d w1 e r) (h2 : wI r.2 223 2 = 0) : r.1 = v ∧ INV L r.2 Y := by
  obtain ⟨x, w2⟩ := r
  obtain ⟨g1, hO1, g3, g4⟩ := g
  obtain ⟨m1, -, m3, m4⟩ := m
  have g1 : v = (e.1 : Int) := g1
  have hO1 : Ok L wl dr 7 w1 := hO1
  have g3 : ∀ a k, ¬ PRc dr a k → wI w1 a k = wI w a k := g3
  have g4 : wI w1 8 0 = (kP c N e.2 : Int) := g4
  have m1 : x = (e.1 : Int) := m1
  have m3 : FL (PRx d) Q36 w1 w2 := m3
  have m4 : wI w2 223 17 = (kP c N e.2 : Int) := m4
  have h2 : wI w2 223 2 = 0 := h2
  show x = v ∧ INV L w2 Y
  have bw := wi_bd hw
  have i : ∀ a k, ¬ PRc dr a k → ¬ PRx d a k → wI w2 a k = wI w a k := fun a k q1 q2 => (m3.i a k q2).trans (g3 a k q1)
  have j : ∀ a k, a ≤ 222 → wI w2 a k = wI w1 a k := fun a k q => m3.i a k (fun z => by have := prx_at z; omega)
  have l : ∀ a k, a = 25 ∨ a = 230 → wL w2 a k = wL w a k := fun a k q => (m3.l a k (by unfold Q36; omega)).trans (l1 a k (by omega) (by omega) (by omega))
  have eK : ∀ a k, KP a k → wI w2 a k = wI w a k := fun a k q => i a k (fun z => by have := prc_at hd z; unfold KP at q; omega) (fun z => by have := prx_at z; unfold KP at q; omega)
  have eL : ∀ a k, (a = 49 ∨ (202 ≤ a ∧ a ≤ 222)) → wL w2 a k = wL w a k := fun a k q => (m3.l a k (by unfold Q36; omega)).trans (l1 a k (by omega) (by omega) (by omega))
  have eR : ∀ a k, RG s a k → wI w2 a k = wI w a k := fun a k q => i a k (fun z => by have := prc_at hd z; have := rgd_ge q; omega) (fun z => by
    rcases z with z | z
    · exact prm_rg hs hds q z
    · have := rgd_ge q; unfold P17 at z; omega)
  have hM2 : MWS w2 s V := fun w3 hw3 => hM w3 (fun a k q => (hw3 a k q).trans (eR a k q))
  refine ⟨by omega, wl, dr, 7, s, V, σ, m3.ok hO1, hw, hd, hne, hV, hW.eq (fun a k q1 q2 => i a k (fun z => ?_) (fun z => ?_)), (i 223 18 (fun z => ?_) (fun z => ?_)).trans h18, hM2 w2 (fun a k _ => rfl), now_k hV hN eK eL, past_k hV hP eK eL, slot_k hV hS eK eL, papr_k hA eK, ⟨0, by omega, (j 6 1 (by omega)).trans h6, h2, fun i hi => absurd hi (Nat.not_lt_zero _)⟩, ?_, ⟨fun k hk => ?_, ?_, fun k hk => ?_⟩, hM2⟩
  · have := prc_at hd z
    rcases hw with rfl | rfl <;> rcases hd with rfl | rfl <;> omega
  · have := prx_at z; omega
  · have := prc_at hd z; omega
  · have := prx_at z; omega
  · rw [j 8 0 (by omega), g4, m4]
  · rw [l 25 k (by omega), l 230 k (by omega)]; exact hT.1 k hk
  · exact ((j 4 1 (by omega)).trans (g3 4 1 (fun z => by have := prc_at hd z; have := wi_bd hd; omega))).trans hT.2.1
  · exact ((j 5 k (by omega)).trans (g3 5 k (fun z => by have := prc_at hd z; have := wi_bd hd; omega))).trans (hT.2.2 k hk)
/-- a text in which all is well -/
theorem inv_good {v : Int} {t : Sst} {r : Int × Wd} (hw : isWi wl) (hd : isWi dr) (hne : wl ≠ dr) (hd1 : d ≤ 1) (hY : 0 ≤ Y) (hG : GS t) (h0 : (sT t).1 = 0) (hT : TXT w) (g : CGOOD L wl dr w t (v, w1)) (l1 : ∀ a k, a ≠ 8 → a ≠ 24 → a ≠ 27 → wL w1 a k = wL w a k) (h6 : wI w1 6 1 = 0) (m : MGOOD d w1 t r) (h2 : wI r.2 223 2 = 0) : r.1 = v ∧ INV L r.2 Y := by
  obtain ⟨x, w2⟩ := r
  obtain ⟨g0, g1, g2, g3, ⟨g4, g5, g6⟩, g7, g8, g9, ⟨ga, gb, gc⟩, gd', ge⟩ := g
  obtain ⟨m0, m1, m2, ⟨m3, m4, m5, m6⟩, m7, m8, m9, ma, mb⟩ := m
  have g0 : v = 0 := g0
  have g1 : Ok L dr wl 7 w1 := g1
  have g2 : ∀ a k, ¬ (PRc dr a k ∨ Pan a k) → wI w1 a k = wI w a k := g2
  have g3 : CW w1 dr (sV t) := g3
  have m0 : x = 0 := m0
  have m1 : FL (PRy d) Q36 w1 w2 := m1
  have m2 : MWS w2 d (sV t) := m2
  have h2 : wI w2 223 2 = 0 := h2
  show x = v ∧ INV L w2 Y
  have bd := wi_bd hd
  have hV := gs_ok hG h0
  have j : ∀ a k, a ≤ 222 → wI w2 a k = wI w1 a k := fun a k q => m1.i a k (fun z => by have := pry_at z; omega)
  have l : ∀ a k, a = 25 ∨ a = 230 → wL w2 a k = wL w a k := fun a k q => (m1.l a k (by unfold Q36; omega)).trans (l1 a k (by omega) (by omega) (by omega))
  obtain ⟨⟨b1, b2, b3⟩, -, hG3⟩ := hG
  obtain ⟨-, -, hG4, hG5⟩ := hG3 h0
  clear hG3
  refine ⟨by omega, dr, wl, 7, d, sV t, (0, 0, -1, sH t, sS t, fun _ => 0), m1.ok g1, hd, hw, Ne.symm hne, hV, g3.eq (fun a k q1 q2 => j a k (by omega)), m4, m2 w2 (fun a k _ => rfl), ⟨⟨hG4, fun h hh l _ => hG5 h hh l, by show (-1 : Int) ≤ -1; omega, by show (-1 : Int) < (nh (sV t) : Int); omega⟩, ⟨(j 40 0 (by omega)).trans g4, (j 40 1 (by omega)).trans g5, ((j 40 2 (by omega)).trans g6).trans (show (-2 : Int) = cow (-1) by decide), fun l hl => ((j 41 l (by omega)).trans (g7 l (by omega))).trans (if_pos hl), fun h hh l hl => (j 42 _ (by omega)).trans (g8 h hh l hl), fun h hh => (j 43 h (by omega)).trans (g9 h (by omega))⟩, ⟨mb 42 (by omega) (by omega) (by omega), mb 44 (by omega) (by omega) (by omega), ma, fun l hl => ?_, fun h hh l hl => ?_, fun h hh => ?_⟩, ⟨Int.le_refl _, hY⟩, mb 45 (by omega) (by omega) (by omega), fun p hp => ?_, fun l hl => ?_⟩, ⟨0, 0, fun _ => (0, 0, -1, sH t, sS t, fun _ => 0), by omega, by omega, (j 50 0 (by omega)).trans ga, (j 50 1 (by omega)).trans gb, m5, fun i hi => absurd hi (Nat.not_lt_zero _), fun i j _ hj => absurd hj (Nat.not_lt_zero _), fun i hi => absurd hi (Nat.not_lt_zero _)⟩, fun i hi => ⟨?_, Or.inl (m7 i hi)⟩, ⟨0, by omega, (j 173 0 (by omega)).trans gc, m6, fun i hi => absurd hi (Nat.not_lt_zero _)⟩, ⟨0, by omega, (j 6 1 (by omega)).trans h6, h2, fun i hi => absurd hi (Nat.not_lt_zero _)⟩, ?_, ⟨fun k hk => ?_, ?_, fun k hk => ?_⟩, m2⟩
  · rw [show 0 + l = l by omega]; exact m8 l hl
  · rw [show 0 + 6 + 6 * h + l = 6 + 6 * h + l by omega]; exact m9 h hh l hl
  · rw [show 0 + 46 + h = 46 + h by omega]; exact mb (46 + h) (by omega) (by omega) (by omega)
  · exact absurd hp (by show ¬ (p : Int) < min 0 400; omega)
  · rw [show wI w2 (40 + 1) l = if l < nl (sV t) then sH t l else 0 from (j 41 l (by omega)).trans (g7 l hl)]
    split
    · rename_i q
      exact hG4 l q
    · omega
  · rw [j _ _ (by omega)]; exact (gd' i hi).trans (m7 i hi).symm
  · rw [j 8 0 (by omega)]; exact ge.trans m3.symm
  · rw [l 25 k (by omega), l 230 k (by omega)]; exact hT.1 k hk
  · refine ((j 4 1 (by omega)).trans (g2 4 1 (fun z => ?_))).trans hT.2.1
    rcases z with z | z
    · have := prc_at hd z; omega
    · unfold Pan Psl at z; omega
  · refine ((j 5 k (by omega)).trans (g2 5 k (fun z => ?_))).trans (hT.2.2 k hk)
    rcases z with z | z
    · have := prc_at hd z; omega
    · unfold Pan Psl at z; omega
theorem call_read (h : INV L w Y) : CALL L w Y (Hh_read 6) (Mo_read 223) := by
  obtain ⟨wl, dr, tx, s, V, σ, hO, hw, hd, hne, hV, hW, h18, hMW, hN, hP, hS, hA, ⟨N, t1, t2, t3, t4⟩, h80, hT, hM⟩ := h
  have hs := hMW.1
  have hY : 0 ≤ Y := by have := hN.2.2.2.1; omega
  have bd := wi_bd hd
  have hB : ∀ i, i < N → -128 ≤ wI w 224 i ∧ wI w 224 i ≤ 127 := fun i hi => by have := t4 i hi; omega
  have hpos : ∀ e, rdl (kK (cb (fun i => wI w 224 i) N) N) (kV (cb (fun i => wI w 224 i) N) N) (kN (cb (fun i => wI w 224 i) N) N) 402 s0 0 = .inl e → e.1 ≠ 0 := fun e he => rdl_pos hs hO t1 t3 hB (fun k hk => (hT.1 k hk).2) h18 (by rw [he]; rfl)
  unfold CALL
  refine wp_use (c_readW (B := fun i => wI w 224 i) hw hd hO t1 t2 (fun i hi => ⟨(t4 i hi).1, hB i hi⟩) (fun k hk => (hT.1 k hk).1) hT.2.1 hT.2.2 hpos) (fun r g => ?_)
  obtain ⟨v, w1⟩ := r
  obtain ⟨n1, l1, h6, g⟩ := g
  have n1 : wn w1 = wn w ∧ wz w1 = wz w := n1
  have l1 : ∀ a k, a ≠ 8 → a ≠ 24 → a ≠ 27 → wL w1 a k = wL w a k := l1
  have h6 : wI w1 6 1 = 0 := h6
  show Wp (Mo_read 223 w1) (fun q => q.1 = v ∧ INV L q.2 Y ∧ wn q.2 = wn w ∧ wz q.2 = wz w)
  have big : (∃ u' v', Ok L u' v' 7 w1) → (∀ a k, 223 ≤ a → wI w1 a k = wI w a k) → Wp (Mo_read 223 w1) (fun r => wI r.2 223 2 = 0 ∧ match vd (rdl (kK (cb (fun i => wI w 224 i) N) N) (kV (cb (fun i => wI w 224 i) N) N) (kN (cb (fun i => wI w 224 i) N) N) 402 s0 0) with
    | .inl e => MBAD (cb (fun i => wI w 224 i) N) N (1 - s) w1 e r
    | .inr s' => MGOOD (1 - s) w1 s' r) := by
    rintro ⟨u', v', hO1⟩ hf
    have e : (fun i => wI w 224 i) = (fun i => wI w1 224 i) := funext (fun i => (hf 224 i (by omega)).symm)
    rw [e]
    exact m_readW hs rfl hO1 t1 ((hf 223 2 (by omega)).trans t3) (fun i hi => by rw [hf 224 i (by omega)]; exact hB i hi) (fun k hk => (l1 230 k (by omega) (by omega) (by omega)).trans (hT.1 k hk).2) ((hf 223 18 (by omega)).trans h18)
  cases hv : vd (rdl (kK (cb (fun i => wI w 224 i) N) N) (kV (cb (fun i => wI w 224 i) N) N) (kN (cb (fun i => wI w 224 i) N) N) 402 s0 0) with
  | inl e =>
    rw [hv] at g big
    have g : CBAD L wl dr (cb (fun i => wI w 224 i) N) N w e (v, w1) := g
    refine wp_use (big ⟨wl, dr, g.2.1⟩ (fun a k q => g.2.2.1 a k (fun z => by have := prc_at hd z; omega))) (fun q m => ?_)
    have m2 : MBAD (cb (fun i => wI w 224 i) N) N (1 - s) w1 e q := m.2
    have z := inv_bad hw hd hne hs rfl hV hW h18 hN hP hS hA hT hM g l1 h6 m2 m.1
    exact ⟨z.1, z.2, m2.2.2.1.1.1.trans n1.1, m2.2.2.1.1.2.trans n1.2⟩
  | inr t =>
    rw [hv] at g big
    have g : CGOOD L wl dr w t (v, w1) := g
    refine wp_use (big ⟨dr, wl, g.2.1⟩ (fun a k q => g.2.2.1 a k (fun z => ?_))) (fun q m => ?_)
    · rcases z with z | z
      · have := prc_at hd z; omega
      · unfold Pan Psl at z; omega
    have m2 : MGOOD (1 - s) w1 t q := m.2
    obtain ⟨v1, v2⟩ := vd_inr hv
    have hG : GS t := gs_rdl (fun t h => (tV_bd h).1) 402 s0 0 t gs_0 v1
    have z := inv_good hw hd hne (by omega) hY hG v2 hT g l1 h6 m2 m.1
    exact ⟨z.1, z.2, m2.2.1.1.1.trans n1.1, m2.2.1.1.2.trans n1.2⟩
end KR
