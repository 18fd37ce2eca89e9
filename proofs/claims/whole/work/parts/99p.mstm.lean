/-! Level 3, read: what the reference has read so far; a number is told. -/
def PMs (d a k : Nat) : Prop := (a = 223 ∧ (k = 11 ∨ k = 12 ∨ k = 13 ∨ k = 14 ∨ k = 15 ∨ k = 16 ∨ k = 20 ∨ k = 35 ∨ k = 41 ∨ k = 45)) ∨ a = 232 ∨ a = 234 ∨ a = 238 ∨ a = 252 ∨ RG d a k
def QMs (a k : Nat) : Prop := a = 231
def MDF (w : Wd) (d : Nat) (s : Sst) : Prop := (nl (sV s) ≤ 6 ∧ nh (sV s) ≤ 6 ∧ nm (sV s) ≤ 3) ∧ (wI w 233 d = (nl (sV s) : Int) ∧ wI w 235 d = (nh (sV s) : Int) ∧ wI w 239 d = (nm (sV s) : Int) ∧ wI w 240 d = (dy (sV s) : Int) ∧ wI w 241 d = lm (sV s) ∧ wI w 242 d = sd (sV s)) ∧ (∀ l, l < nl (sV s) → wI w 234 (6 * d + l) = sH s l) ∧ (∀ h, h < nh (sV s) → wI w 236 (6 * d + h) = sk (sV s) h ∧ wI w 237 (6 * d + h) = tr (sV s) h) ∧ (∀ h, h < nh (sV s) → ∀ l, l < 6 → wI w 238 (36 * d + 6 * h + l) = sS s h l)
def MLS (w : Wd) (d b z : Nat) (V : Vl) : Prop := ∀ k, k < 10 → mlo w (130 * d) (420 * d) b z (10 * d + k) (lo V k)
def MLX (w : Wd) (d t : Nat) (V : Vl) : Prop := ∃ b z : Nat, wI w 223 35 = (b : Int) ∧ wI w 223 41 = (z : Int) ∧ 130 * d ≤ b ∧ 4 * b ≤ 4 * (130 * d) + t ∧ 420 * d ≤ z ∧ z ≤ 420 * d + t ∧ MLS w d b z V
def MDR (c : Nat → Int) (N d : Nat) (w : Wd) (s : Sst) (t : Nat) : Prop := (wI w 223 13 = 0 ∧ wI w 223 12 = 0 ∧ wI w 223 19 = (d : Int)) ∧ MCU c N w t ∧ NTM c N w (sT s) t ∧ MDF w d s ∧ MLX w d t (sV s) ∧ NMM w (sV s) (sN s) (sA s)
def SMR (c : Nat → Int) (N d : Nat) (w0 : Wd) (res : Sum Ft (Nat × Sst)) (w1 : Wd) : Prop := FL (PMs d) QMs w0 w1 ∧ match res with
  | .inl e => ERR c N w1 e
  | .inr q => MDR c N d w1 q.2 q.1
section MP
variable {L wl dr tx : Nat} {c : Nat → Int} {N d : Nat} {w : Wd}
theorem bd_ms {w1 : Wd} (f : Fr PBd w w1) : FL (PMs d) QMs w w1 := (f.mono (fun a k q => by unfold PBd at q; unfold PMs; omega)).fl
theorem go_ms {w1 : Wd} (f : Fr PGo w w1) : FL (PMs d) QMs w w1 := bd_ms (go_bd f)
theorem MT.ms {w1 : Wd} (hT : MT c N w) (f : FL (PMs d) QMs w w1) : MT c N w1 := hT.eq (fun a k q1 q2 => f.i a k (by unfold PMs RG; omega)) (fun k => f.l 229 k (by unfold QMs; omega))
theorem SMR.tr {w0 : Wd} {res : Sum Ft (Nat × Sst)} {w1 : Wd} (f : FL (PMs d) QMs w0 w) (h : SMR c N d w res w1) : SMR c N d w0 res w1 := ⟨f.tr h.1, h.2⟩
theorem mls_eq {w1 : Wd} {b z : Nat} {V V1 : Vl} (h : MLS w d b z V) (e : ∀ a k, 243 ≤ a → a ≤ 251 → wI w1 a k = wI w a k) (eV : lo V1 = lo V) : MLS w1 d b z V1 := fun k hk => by
  rw [eV]
  exact mlo_ag (h k hk) ⟨fun a k q1 q2 _ _ => e a k (by omega) (by omega), fun a k q _ _ => e a k (by omega) (by omega)⟩ (Nat.le_refl _) (Nat.le_refl _) ⟨e _ _ (by omega) (by omega), e _ _ (by omega) (by omega)⟩
theorem mlx_eq {w1 : Wd} {t t1 : Nat} {V V1 : Vl} (h : MLX w d t V) (e : ∀ a k, 243 ≤ a → a ≤ 251 → wI w1 a k = wI w a k) (e2 : ∀ k, k = 35 ∨ k = 41 → wI w1 223 k = wI w 223 k) (ht : t ≤ t1) (eV : lo V1 = lo V) : MLX w1 d t1 V1 := by
  obtain ⟨b, z, h1, h2, h3, h4, h5, h6, h7⟩ := h
  exact ⟨b, z, (e2 35 (by omega)).trans h1, (e2 41 (by omega)).trans h2, h3, by omega, h5, by omega, mls_eq h7 e eV⟩
theorem mdr_mk {w1 : Wd} {s s1 : Sst} {t t1 : Nat} (h : MDR c N d w s t) (e : ∀ a k, (a = 223 ∧ (k = 12 ∨ k = 19 ∨ k = 20 ∨ k = 35 ∨ k = 41)) ∨ a = 232 ∨ (243 ≤ a ∧ a ≤ 251) → wI w1 a k = wI w a k) (el : ∀ k, wL w1 231 k = wL w 231 k) (h13 : wI w1 223 13 = 0) (hC : MCU c N w1 t1) (hN : NTM c N w1 (sT s1) t1) (hD : MDF w1 d s1) (ht : t ≤ t1) (e1 : (sV s1).1 = (sV s).1) (e2 : lo (sV s1) = lo (sV s)) (e3 : sN s1 = sN s) (e4 : sA s1 = sA s) : MDR c N d w1 s1 t1 := by
  obtain ⟨⟨a1, a2, a3⟩, b1, c1, d1, g1, m1⟩ := h
  refine ⟨⟨h13, (e _ _ (by omega)).trans a2, (e _ _ (by omega)).trans a3⟩, hC, hN, hD, mlx_eq g1 (fun a k q1 q2 => e a k (by omega)) (fun k q => e _ _ (by omega)) ht e2, ?_⟩
  have m2 := m1.eq (w1 := w1) (e _ _ (by omega)) (fun k => e _ _ (by omega)) el
  rw [e3, e4]
  unfold NMM nl nh nm at m2 ⊢
  rw [e1]
  exact m2
theorem MDF.eq {w1 : Wd} {s : Sst} (h : MDF w d s) (e : ∀ a k, 233 ≤ a → a ≤ 242 → wI w1 a k = wI w a k) : MDF w1 d s := by
  obtain ⟨b0, ⟨d0, d1, d2, d3, d4, d5⟩, d6, d7, d8⟩ := h
  have q := fun a k h1 h2 => e a k h1 h2
  exact ⟨b0, ⟨(q _ _ (by omega) (by omega)).trans d0, (q _ _ (by omega) (by omega)).trans d1, (q _ _ (by omega) (by omega)).trans d2, (q _ _ (by omega) (by omega)).trans d3, (q _ _ (by omega) (by omega)).trans d4, (q _ _ (by omega) (by omega)).trans d5⟩, fun l hl => (q _ _ (by omega) (by omega)).trans (d6 l hl), fun x hx => ⟨(q _ _ (by omega) (by omega)).trans (d7 x hx).1, (q _ _ (by omega) (by omega)).trans (d7 x hx).2⟩, fun x hx l hl => (q _ _ (by omega) (by omega)).trans (d8 x hx l hl)⟩
theorem mdr_go {w1 : Wd} {s : Sst} {t t1 : Nat} (h : MDR c N d w s t) (f : Fr PGo w w1) (h13 : wI w1 223 13 = 0) (hC : MCU c N w1 t1) (ht : t ≤ t1) : MDR c N d w1 s t1 := mdr_mk h (fun a k q => f.at a k (by unfold PGo; omega)) (fun k => by rw [f.2.2.2.1]) h13 hC (h.2.2.1.eq (fun k q => f.at _ _ (by unfold PGo; omega)) ht) (h.2.2.2.1.eq (fun a k q1 q2 => f.at _ _ (by unfold PGo; omega))) ht rfl rfl rfl rfl
/-- days, limit, seed -/
def PNu (A d a k : Nat) : Prop := PBd a k ∨ (a = A ∧ k = d)
theorem m_numF {A : Nat} {x most : Int} (hd : d ≤ 1) (hs : SH L A = (20, 2)) (hA : A ≠ 223) (hO : Ok L wl dr tx w) {e : Ft} (hE : ERR c N w e) (h19 : wI w 223 19 = (d : Int)) : Wp ((fgI w 223 12 19).bind fun v191 => (Mo_bounded 223 x most w).bind fun r198 => (wrI r198.2 A v191 r198.1).bind fun w201 => (Mo_must 223 4 w201).bind fun r204 => Mo_tellText_273 r204) (fun w1 => Fr (PNu A d) w w1 ∧ ERR c N w1 e) := by
  unfold Mo_tellText_273
  refine wp_gI hO rfl ?_
  rw [h19]
  refine wp_eq (m_boundedF hO (err_pos hE)) (wp_wI hO hs (by omega) ?_)
  rw [Int.toNat_natCast]
  have E1 : ERR c N (sI w A d x) e := hE.eq (fun k q => wI_ne (by omega))
  exact wp_eq (m_mustF hO.sI (err_pos E1)) (wp_ret ⟨fr_sI (Or.inr ⟨rfl, rfl⟩), E1⟩)
theorem m_num {A t : Nat} {most : Int} {n : Ft} (hd : d ≤ 1) (hs : SH L A = (20, 2)) (hA : 240 ≤ A ∧ A ≤ 242) (hO : Ok L wl dr tx w) (hT : MT c N w) (h13 : wI w 223 13 = 0) (hC : MCU c N w t) (hN : NTM c N w n t) (h19 : wI w 223 19 = (d : Int)) : Wp ((fgI w 223 12 19).bind fun v191 => (Mo_bounded 223 0 most w).bind fun r198 => (wrI r198.2 A v191 r198.1).bind fun w201 => (Mo_must 223 4 w201).bind fun r204 => Mo_tellText_273 r204) (fun w1 => Fr (PNu A d) w w1 ∧ match sb (ex (kK c N) 2 t) (fun t2 => ex (kK c N) 4 t2) with
    | .inl e => ERR c N w1 e
    | .inr t3 => wI w1 223 13 = 0 ∧ MCU c N w1 t3 ∧ NTM c N w1 (ind (kV c N) most n t) t3 ∧ wI w1 A d = kV c N t ∧ t < t3) := by
  unfold Mo_tellText_273
  refine wp_gI hO rfl ?_
  rw [h19]
  refine wp_call (m_bounded hO hT h13 hC hN) (fun r g => ?_)
  obtain ⟨f1, g⟩ := g
  have hO1 := f1.ok hO
  refine wp_wI hO1 hs (by omega) ?_
  rw [Int.toNat_natCast]
  generalize hw2 : sI r.2 A d r.1 = w2
  have hO2 : Ok L wl dr tx w2 := by rw [← hw2]; exact hO1.sI
  have f2 : Fr (PNu A d) w w2 := by rw [← hw2]; exact (f1.mono (fun a k q => Or.inl q)).sI (Or.inr ⟨rfl, rfl⟩)
  have n2 : ∀ a k, a ≠ A → wI w2 a k = wI r.2 a k := fun a k q => by rw [← hw2, wI_ne (by omega)]
  have v2 : wI w2 A d = r.1 := by rw [← hw2, wI_eq]
  clear hw2
  have hT2 : MT c N w2 := hT.eq (fun a k q1 q2 => f2.at a k (by unfold PNu PBd; omega)) (fun k => by rw [f2.2.2.2.1])
  generalize hx2 : ex (kK c N) 2 t = y at g
  cases y with
  | inl e =>
    have E2 : ERR c N w2 e := g.eq (fun k q => n2 _ _ (by omega))
    exact wp_eq (m_mustF hO2 (err_pos E2)) (wp_ret ⟨f2, E2⟩)
  | inr t2 =>
    have e2 := ex_inr hx2
    obtain ⟨g1, g2, g3, g4⟩ := g
    refine wp_call (m_must (x := 4) hO2 hT2 ⟨g2.1, (n2 _ _ (by omega)).trans g2.2⟩ ((n2 _ _ (by omega)).trans g1) (by omega)) (fun w3 h => wp_ret ?_)
    obtain ⟨f3, h⟩ := h
    refine ⟨f2.tr (f3.mono (fun a k q => Or.inl (by unfold PGo at q; unfold PBd; omega))), ?_⟩
    show match ex (kK c N) 4 t2 with
      | .inl e => ERR c N w3 e
      | .inr t3 => wI w3 223 13 = 0 ∧ MCU c N w3 t3 ∧ NTM c N w3 (ind (kV c N) most n t) t3 ∧ wI w3 A d = kV c N t ∧ t < t3
    generalize hx4 : ex (kK c N) 4 t2 = y4 at h
    cases y4 with
    | inl e => exact h
    | inr t3 =>
      have e4 := ex_inr hx4
      exact ⟨h.2, h.1, g3.eq (fun k q => (f3.at _ _ (by unfold PGo; omega)).trans (n2 _ _ (by omega))) (by omega), by rw [f3.at A d (by unfold PGo; omega), v2, g4], by omega⟩
theorem nu_ms {A : Nat} {w1 : Wd} (hA : 240 ≤ A ∧ A ≤ 242) (f : Fr (PNu A d) w w1) : FL (PMs d) QMs w w1 := (f.mono (fun a k q => by unfold PNu PBd at q; unfold PMs RG; omega)).fl
/-- a number's statement, behind its word -/
theorem m_numst {A t1 : Nat} {most : Int} {s : Sst} {u : Nat → Sst} (hd : d ≤ 1) (hs : SH L A = (20, 2)) (hA : 240 ≤ A ∧ A ≤ 242) (hO : Ok L wl dr tx w) (hT : MT c N w) (h : MDR c N d w s t1) (eT : sT (u t1) = ind (kV c N) most (sT s) t1) (e1 : (sV (u t1)).1 = (sV s).1) (e2 : lo (sV (u t1)) = lo (sV s)) (e3 : sN (u t1) = sN s) (e4 : sA (u t1) = sA s) (eD : ∀ w1, Fr (PNu A d) w w1 → wI w1 A d = kV c N t1 → kK c N t1 = 2 → MDF w1 d (u t1)) : Wp ((fgI w 223 12 19).bind fun v191 => (Mo_bounded 223 0 most w).bind fun r198 => (wrI r198.2 A v191 r198.1).bind fun w201 => (Mo_must 223 4 w201).bind fun r204 => Mo_tellText_273 r204) (SMR c N d w (sb (ex (kK c N) 2 t1) (fun t2 => sb (ex (kK c N) 4 t2) (fun t3 => .inr (t3, u t1))))) := by
  refine wp_use (m_num hd hs hA hO hT h.1.1 h.2.1 h.2.2.1 h.1.2.2) (fun w1 g => ⟨nu_ms hA g.1, ?_⟩)
  obtain ⟨f, g⟩ := g
  have er : sb (ex (kK c N) 2 t1) (fun t2 => sb (ex (kK c N) 4 t2) (fun t3 => Sum.inr (t3, u t1))) = sb (sb (ex (kK c N) 2 t1) (fun t2 => ex (kK c N) 4 t2)) (fun t3 => .inr (t3, u t1)) := (sb_as _ _ _).symm
  rw [er]
  generalize hy : sb (ex (kK c N) 2 t1) (fun t2 => ex (kK c N) 4 t2) = y at g
  cases y with
  | inl e => exact g
  | inr t3 =>
    obtain ⟨g1, g2, g3, g4, g5⟩ := g
    obtain ⟨t2, k2, _⟩ := sb_inr hy
    exact mdr_mk h (fun a k q => f.at a k (by unfold PNu PBd; omega)) (fun k => by rw [f.2.2.2.1]) g1 g2 (eT ▸ g3) (eD w1 f g4 (ex_inr k2).1) (by omega) e1 e2 e3 e4
theorem m_days {t1 : Nat} {s : Sst} (hd : d ≤ 1) (hO : Ok L wl dr tx w) (hT : MT c N w) (h : MDR c N d w s t1) : Wp ((fgI w 223 12 19).bind fun v191 => (Mo_bounded 223 0 9 w).bind fun r198 => (wrI r198.2 240 v191 r198.1).bind fun w201 => (Mo_must 223 4 w201).bind fun r204 => Mo_tellText_273 r204) (SMR c N d w (sb (ex (kK c N) 2 t1) (fun t2 => sb (ex (kK c N) 4 t2) (fun t3 => .inr (t3, uDays (kV c N) s t1))))) := by
  refine m_numst (u := uDays (kV c N) s) hd rfl (by omega) hO hT h rfl rfl rfl rfl rfl (fun w1 f v k2 => ?_)
  obtain ⟨b0, ⟨d0, d1, d2, d3, d4, d5⟩, d6, d7, d8⟩ := h.2.2.2.1
  have q : ∀ a k, a ≠ 240 → 233 ≤ a → wI w1 a k = wI w a k := fun a k q1 q2 => f.at a k (by unfold PNu PBd; omega)
  have := (tV_bd k2).1
  exact ⟨b0, ⟨(q _ _ (by omega) (by omega)).trans d0, (q _ _ (by omega) (by omega)).trans d1, (q _ _ (by omega) (by omega)).trans d2, by rw [v]; exact (Int.toNat_of_nonneg this).symm, (q _ _ (by omega) (by omega)).trans d4, (q _ _ (by omega) (by omega)).trans d5⟩, fun l hl => (q _ _ (by omega) (by omega)).trans (d6 l hl), fun x hx => ⟨(q _ _ (by omega) (by omega)).trans (d7 x hx).1, (q _ _ (by omega) (by omega)).trans (d7 x hx).2⟩, fun x hx l hl => (q _ _ (by omega) (by omega)).trans (d8 x hx l hl)⟩
theorem m_limit {t1 : Nat} {s : Sst} (hd : d ≤ 1) (hO : Ok L wl dr tx w) (hT : MT c N w) (h : MDR c N d w s t1) : Wp ((fgI w 223 12 19).bind fun v191 => (Mo_bounded 223 0 9999 w).bind fun r198 => (wrI r198.2 241 v191 r198.1).bind fun w201 => (Mo_must 223 4 w201).bind fun r204 => Mo_tellText_273 r204) (SMR c N d w (sb (ex (kK c N) 2 t1) (fun t2 => sb (ex (kK c N) 4 t2) (fun t3 => .inr (t3, uLimit (kV c N) s t1))))) := by
  refine m_numst (u := uLimit (kV c N) s) hd rfl (by omega) hO hT h rfl rfl rfl rfl rfl (fun w1 f v k2 => ?_)
  obtain ⟨b0, ⟨d0, d1, d2, d3, d4, d5⟩, d6, d7, d8⟩ := h.2.2.2.1
  have q : ∀ a k, a ≠ 241 → 233 ≤ a → wI w1 a k = wI w a k := fun a k q1 q2 => f.at a k (by unfold PNu PBd; omega)
  exact ⟨b0, ⟨(q _ _ (by omega) (by omega)).trans d0, (q _ _ (by omega) (by omega)).trans d1, (q _ _ (by omega) (by omega)).trans d2, (q _ _ (by omega) (by omega)).trans d3, v, (q _ _ (by omega) (by omega)).trans d5⟩, fun l hl => (q _ _ (by omega) (by omega)).trans (d6 l hl), fun x hx => ⟨(q _ _ (by omega) (by omega)).trans (d7 x hx).1, (q _ _ (by omega) (by omega)).trans (d7 x hx).2⟩, fun x hx l hl => (q _ _ (by omega) (by omega)).trans (d8 x hx l hl)⟩
theorem m_seed {t1 : Nat} {s : Sst} (hd : d ≤ 1) (hO : Ok L wl dr tx w) (hT : MT c N w) (h : MDR c N d w s t1) : Wp ((fgI w 223 12 19).bind fun v191 => (Mo_bounded 223 0 9999 w).bind fun r198 => (wrI r198.2 242 v191 r198.1).bind fun w201 => (Mo_must 223 4 w201).bind fun r204 => Mo_tellText_273 r204) (SMR c N d w (sb (ex (kK c N) 2 t1) (fun t2 => sb (ex (kK c N) 4 t2) (fun t3 => .inr (t3, uSeed (kV c N) s t1))))) := by
  refine m_numst (u := uSeed (kV c N) s) hd rfl (by omega) hO hT h rfl rfl rfl rfl rfl (fun w1 f v k2 => ?_)
  obtain ⟨b0, ⟨d0, d1, d2, d3, d4, d5⟩, d6, d7, d8⟩ := h.2.2.2.1
  have q : ∀ a k, a ≠ 242 → 233 ≤ a → wI w1 a k = wI w a k := fun a k q1 q2 => f.at a k (by unfold PNu PBd; omega)
  exact ⟨b0, ⟨(q _ _ (by omega) (by omega)).trans d0, (q _ _ (by omega) (by omega)).trans d1, (q _ _ (by omega) (by omega)).trans d2, (q _ _ (by omega) (by omega)).trans d3, (q _ _ (by omega) (by omega)).trans d4, v⟩, fun l hl => (q _ _ (by omega) (by omega)).trans (d6 l hl), fun x hx => ⟨(q _ _ (by omega) (by omega)).trans (d7 x hx).1, (q _ _ (by omega) (by omega)).trans (d7 x hx).2⟩, fun x hx l hl => (q _ _ (by omega) (by omega)).trans (d8 x hx l hl)⟩
end MP
