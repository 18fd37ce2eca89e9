/-! Level 3, read: what a text says, out of its tokens: kinds K, ints Iv, names Nm. A fault is (its number, the token). -/
abbrev Ft : Type := Nat × Nat
def sb {α β : Type} (r : Sum Ft α) (f : α → Sum Ft β) : Sum Ft β := match r with
  | .inl e => .inl e
  | .inr a => f a
def ps1 (t : Nat) : Sum Ft Nat := if t < 400 then .inr (t + 1) else .inl (2, t)
section GR
variable (K : Nat → Nat) (Iv Nm : Nat → Int)
def ex (k t : Nat) : Sum Ft Nat := if K t = k then ps1 t else .inl (1, t)
abbrev Xr : Type := Sum Ft (Nat × List Op)
def un (rc : Nat → Nat → Xr) (d t : Nat) : Xr :=
  if K t = 2 then sb (ps1 t) (fun t' => .inr (t', [(0, Iv t)]))
  else if K t = 20 then sb (ps1 t) (fun t' => .inr (t', [(1, 1)]))
  else if 31 ≤ K t ∧ K t ≤ 36 then sb (ps1 t) (fun t' => .inr (t', [(1, if K t = 31 then 0 else (K t : Int) - 30)]))
  else if K t = 6 then (if d < 6 then sb (ps1 t) (fun t1 => sb (rc (d + 1) t1) (fun q => sb (ex K 7 q.1) (fun t2 => .inr (t2, q.2)))) else .inl (2, t))
  else .inl (1, t)
def prl (rc : Nat → Nat → Xr) (d : Nat) : Nat → Nat → List Op → Xr
  | 0, t, e => .inr (t, e)
  | n + 1, t, e => if K t = 10 ∨ K t = 15 then sb (ps1 t) (fun t1 => sb (un K Iv rc d t1) (fun q => prl rc d n q.1 (e ++ q.2 ++ [(if K t = 10 then 4 else 5, 0)]))) else .inr (t, e)
def prd (rc : Nat → Nat → Xr) (d t : Nat) : Xr := sb (un K Iv rc d t) (fun q => prl K Iv rc d 401 q.1 q.2)
def sml (rc : Nat → Nat → Xr) (d : Nat) : Nat → Nat → List Op → Xr
  | 0, t, e => .inr (t, e)
  | n + 1, t, e => if K t = 8 ∨ K t = 9 then sb (ps1 t) (fun t1 => sb (prd K Iv rc d t1) (fun q => sml rc d n q.1 (e ++ q.2 ++ [(if K t = 8 then 2 else 3, 0)]))) else .inr (t, e)
def smd (rc : Nat → Nat → Xr) (d t : Nat) : Xr := sb (prd K Iv rc d t) (fun q => sml K Iv rc d 401 q.1 q.2)
def smx : Nat → Nat → Nat → Xr
  | 0, _, t => .inl (1, t)
  | n + 1, d, t => smd K Iv (smx n) d t
/-! a law -/
def lw1 (t : Nat) : Sum Ft (Nat × (List Op × List Op × List Op)) := sb (ps1 t) (fun t1 => sb (smx K Iv 20 0 t1) (fun a => sb (ex K 13 a.1) (fun t2 => sb (smx K Iv 20 0 t2) (fun b => sb (ex K 29 b.1) (fun t3 => sb (smx K Iv 20 0 t3) (fun c => sb (ex K 30 c.1) (fun t4 => .inr (t4, (a.2, b.2, c.2)))))))))
def lwl : Nat → Nat → Bs → Sum Ft (Nat × (Bs × List Op))
  | 0, t, bs => if K t = 28 then .inl (2, t) else sb (smx K Iv 20 0 t) (fun q => .inr (q.1, (bs, q.2)))
  | n + 1, t, bs => if K t = 28 then sb (lw1 K Iv t) (fun q => lwl n q.1 (bs ++ [q.2])) else sb (smx K Iv 20 0 t) (fun q => .inr (q.1, (bs, q.2)))
def law' (t : Nat) : Sum Ft (Nat × (Bs × List Op)) := sb (ex K 5 t) (fun t1 => lwl K Iv 4 t1 [])
end GR
/-! what a sound result is worth -/
def GD (K : Nat → Nat) (M t : Nat) (t' : Nat) (e : List Op) : Prop := t < t' ∧ t' ≤ 400 ∧ t + e.length ≤ t' ∧ (∀ i, t ≤ i → i < t' → K i ≠ 0 ∧ K i ≠ 3) ∧ wk M e 0 = some 1
theorem sb_inr {α β : Type} {r : Sum Ft α} {f : α → Sum Ft β} {b : β} (h : sb r f = .inr b) : ∃ a, r = .inr a ∧ f a = .inr b := by
  cases r with
  | inl e => cases h
  | inr a => exact ⟨a, rfl, h⟩
theorem ps1_inr {t t' : Nat} (h : ps1 t = .inr t') : t < 400 ∧ t' = t + 1 := by
  unfold ps1 at h
  split at h
  · rename_i q
    exact ⟨q, (Sum.inr.inj h).symm⟩
  · cases h
theorem ex_inr {K : Nat → Nat} {k t t' : Nat} (h : ex K k t = .inr t') : K t = k ∧ t < 400 ∧ t' = t + 1 := by
  unfold ex at h
  split at h
  · rename_i q
    exact ⟨q, ps1_inr h⟩
  · cases h
theorem wk_app {M : Nat} (q : List Op) : ∀ (p : List Op) (s s' : Nat), wk M p s = some s' → wk M (p ++ q) s = wk M q s'
  | [], s, s', h => by have := Option.some.inj h; subst this; rfl
  | (k, z) :: p, s, s', h => by
    show wk M ((k, z) :: (p ++ q)) s = _
    generalize hR : wk M q s' = R
    unfold wk at h ⊢
    by_cases k0 : k = 0
    · rw [if_pos k0] at h ⊢
      by_cases c : s < M
      · rw [if_pos c] at h ⊢; exact (wk_app q p _ _ h).trans hR
      · rw [if_neg c] at h; cases h
    · rw [if_neg k0] at h ⊢
      by_cases k1 : k = 1
      · rw [if_pos k1] at h ⊢
        by_cases c : s < M ∧ 0 ≤ z ∧ z < 7
        · rw [if_pos c] at h ⊢; exact (wk_app q p _ _ h).trans hR
        · rw [if_neg c] at h; cases h
      · rw [if_neg k1] at h ⊢
        by_cases c : k ≤ 5 ∧ 2 ≤ s
        · rw [if_pos c] at h ⊢; exact (wk_app q p _ _ h).trans hR
        · rw [if_neg c] at h; cases h
theorem wk_op {M k : Nat} (h : 2 ≤ k ∧ k ≤ 5) : wk M [(k, 0)] 2 = some 1 := by
  unfold wk
  rw [if_neg (by omega), if_neg (by omega), if_pos ⟨h.2, by omega⟩]
  rfl
section GP
variable {K : Nat → Nat} {Iv : Nat → Int}
theorem gd_un {rc : Nat → Nat → Xr} {d t t' : Nat} {e : List Op} (hd : d ≤ 6) (hr : d < 6 → ∀ t1 t2 e2, rc (d + 1) t1 = .inr (t2, e2) → GD K (13 - 2 * d) t1 t2 e2) (h : un K Iv rc d t = .inr (t', e)) : GD K (13 - 2 * d) t t' e := by
  have hM : 0 < 13 - 2 * d := by omega
  unfold un at h
  by_cases k2 : K t = 2
  · rw [if_pos k2] at h
    obtain ⟨a, h1, h2⟩ := sb_inr h
    obtain ⟨h3, rfl⟩ := ps1_inr h1
    obtain ⟨rfl, rfl⟩ := Prod.mk.inj (Sum.inr.inj h2)
    refine ⟨by omega, by omega, Nat.le_refl _, fun i h4 h5 => ?_, ?_⟩
    · rw [show i = t by omega, k2]; decide
    · show (if (0 : Nat) = 0 then (if 0 < 13 - 2 * d then wk (13 - 2 * d) [] (0 + 1) else none) else _) = _
      rw [if_pos rfl, if_pos hM]; rfl
  rw [if_neg k2] at h
  by_cases k20 : K t = 20
  · rw [if_pos k20] at h
    obtain ⟨a, h1, h2⟩ := sb_inr h
    obtain ⟨h3, rfl⟩ := ps1_inr h1
    obtain ⟨rfl, rfl⟩ := Prod.mk.inj (Sum.inr.inj h2)
    refine ⟨by omega, by omega, Nat.le_refl _, fun i h4 h5 => ?_, ?_⟩
    · rw [show i = t by omega, k20]; decide
    · unfold wk
      rw [if_neg (by decide), if_pos rfl, if_pos ⟨hM, by decide, by decide⟩]; rfl
  rw [if_neg k20] at h
  by_cases k31 : 31 ≤ K t ∧ K t ≤ 36
  · rw [if_pos k31] at h
    obtain ⟨a, h1, h2⟩ := sb_inr h
    obtain ⟨h3, rfl⟩ := ps1_inr h1
    obtain ⟨rfl, rfl⟩ := Prod.mk.inj (Sum.inr.inj h2)
    refine ⟨by omega, by omega, Nat.le_refl _, fun i h4 h5 => ?_, ?_⟩
    · rw [show i = t by omega]; omega
    · unfold wk
      rw [if_neg (by decide), if_pos rfl, if_pos ⟨hM, by split <;> omega, by split <;> omega⟩]; rfl
  rw [if_neg k31] at h
  by_cases k6 : K t = 6
  · rw [if_pos k6] at h
    by_cases hd6 : d < 6
    · rw [if_pos hd6] at h
      obtain ⟨a, h1, h2⟩ := sb_inr h
      obtain ⟨h3, rfl⟩ := ps1_inr h1
      obtain ⟨⟨t2, e2⟩, h4, h5⟩ := sb_inr h2
      obtain ⟨g1, g2, g3, g4, g5⟩ := hr hd6 _ _ _ h4
      obtain ⟨t3, h6, h7⟩ := sb_inr h5
      obtain ⟨h8, h9, rfl⟩ := ex_inr h6
      obtain ⟨rfl, rfl⟩ := Prod.mk.inj (Sum.inr.inj h7)
      have h9 : t2 < 400 := h9
      refine ⟨by omega, by omega, by show t + e2.length ≤ t2 + 1; omega, fun i i1 i2 => ?_, g5⟩
      by_cases c1 : i = t
      · rw [c1, k6]; decide
      by_cases c2 : i = t2
      · rw [c2, show K t2 = 7 from h8]; decide
      exact g4 i (by omega) (by omega)
    · rw [if_neg hd6] at h; cases h
  · rw [if_neg k6] at h; cases h
theorem gd_prl {rc : Nat → Nat → Xr} {d t0 : Nat} (hu : ∀ t1 t2 e2, un K Iv rc d t1 = .inr (t2, e2) → GD K (13 - 2 * d) t1 t2 e2) (hd : d ≤ 6) : ∀ (n t : Nat) (e : List Op) (t' : Nat) (e' : List Op), GD K (14 - 2 * d) t0 t e → prl K Iv rc d n t e = .inr (t', e') → GD K (14 - 2 * d) t0 t' e'
  | 0, t, e, t', e', hg, h => by
    obtain ⟨rfl, rfl⟩ := Prod.mk.inj (Sum.inr.inj h)
    exact hg
  | n + 1, t, e, t', e', hg, h => by
    unfold prl at h
    by_cases k : K t = 10 ∨ K t = 15
    · rw [if_pos k] at h
      obtain ⟨a, h1, h2⟩ := sb_inr h
      obtain ⟨h3, rfl⟩ := ps1_inr h1
      obtain ⟨⟨t2, e2⟩, h4, h5⟩ := sb_inr h2
      obtain ⟨g1, g2, g3, g4, g5⟩ := hu _ _ _ h4
      obtain ⟨f1, f2, f3, f4, f5⟩ := hg
      refine gd_prl hu hd n t2 _ t' e' ⟨by omega, g2, ?_, fun i i1 i2 => ?_, ?_⟩ h5
      · simp only [List.length_append, List.length_cons, List.length_nil]; omega
      · by_cases c1 : i < t
        · exact f4 i i1 c1
        by_cases c2 : i = t
        · rw [c2]; omega
        exact g4 i (by omega) i2
      · rw [List.append_assoc, wk_app _ _ _ _ f5, wk_app _ _ _ _ (wk_mono (j := 1) (by omega) _ _ _ g5)]
        exact wk_op (by split <;> omega)
    · rw [if_neg k] at h
      obtain ⟨rfl, rfl⟩ := Prod.mk.inj (Sum.inr.inj h)
      exact hg
theorem gd_mono {M M' t t' : Nat} {e : List Op} (h : GD K M t t' e) (hM : M ≤ M') : GD K M' t t' e := ⟨h.1, h.2.1, h.2.2.1, h.2.2.2.1, wk_mono (j := 0) (by omega) _ _ _ h.2.2.2.2⟩
theorem gd_prd {rc : Nat → Nat → Xr} {d t t' : Nat} {e : List Op} (hu : ∀ t1 t2 e2, un K Iv rc d t1 = .inr (t2, e2) → GD K (13 - 2 * d) t1 t2 e2) (hd : d ≤ 6) (h : prd K Iv rc d t = .inr (t', e)) : GD K (14 - 2 * d) t t' e := by
  obtain ⟨⟨t2, e2⟩, h4, h5⟩ := sb_inr h
  exact gd_prl hu hd _ _ _ _ _ (gd_mono (hu _ _ _ h4) (by omega)) h5
theorem gd_sml {rc : Nat → Nat → Xr} {d t0 : Nat} (hu : ∀ t1 t2 e2, prd K Iv rc d t1 = .inr (t2, e2) → GD K (14 - 2 * d) t1 t2 e2) (hd : d ≤ 6) : ∀ (n t : Nat) (e : List Op) (t' : Nat) (e' : List Op), GD K (15 - 2 * d) t0 t e → sml K Iv rc d n t e = .inr (t', e') → GD K (15 - 2 * d) t0 t' e'
  | 0, t, e, t', e', hg, h => by
    obtain ⟨rfl, rfl⟩ := Prod.mk.inj (Sum.inr.inj h)
    exact hg
  | n + 1, t, e, t', e', hg, h => by
    unfold sml at h
    by_cases k : K t = 8 ∨ K t = 9
    · rw [if_pos k] at h
      obtain ⟨a, h1, h2⟩ := sb_inr h
      obtain ⟨h3, rfl⟩ := ps1_inr h1
      obtain ⟨⟨t2, e2⟩, h4, h5⟩ := sb_inr h2
      obtain ⟨g1, g2, g3, g4, g5⟩ := hu _ _ _ h4
      obtain ⟨f1, f2, f3, f4, f5⟩ := hg
      refine gd_sml hu hd n t2 _ t' e' ⟨by omega, g2, ?_, fun i i1 i2 => ?_, ?_⟩ h5
      · simp only [List.length_append, List.length_cons, List.length_nil]; omega
      · by_cases c1 : i < t
        · exact f4 i i1 c1
        by_cases c2 : i = t
        · rw [c2]; omega
        exact g4 i (by omega) i2
      · rw [List.append_assoc, wk_app _ _ _ _ f5, wk_app _ _ _ _ (wk_mono (j := 1) (by omega) _ _ _ g5)]
        exact wk_op (by split <;> omega)
    · rw [if_neg k] at h
      obtain ⟨rfl, rfl⟩ := Prod.mk.inj (Sum.inr.inj h)
      exact hg
theorem gd_smx : ∀ (n d t t' : Nat) (e : List Op), d ≤ 6 → smx K Iv n d t = .inr (t', e) → GD K (15 - 2 * d) t t' e
  | 0, d, t, t', e, _, h => by cases h
  | n + 1, d, t, t', e, hd, h => by
    have hu : ∀ t1 t2 e2, un K Iv (smx K Iv n) d t1 = .inr (t2, e2) → GD K (13 - 2 * d) t1 t2 e2 := fun t1 t2 e2 h1 => gd_un hd (fun h6 t3 t4 e4 h2 => by
      have := gd_smx n (d + 1) t3 t4 e4 (by omega) h2
      rw [show 15 - 2 * (d + 1) = 13 - 2 * d by omega] at this
      exact this) h1
    have hp : ∀ t1 t2 e2, prd K Iv (smx K Iv n) d t1 = .inr (t2, e2) → GD K (14 - 2 * d) t1 t2 e2 := fun t1 t2 e2 h1 => gd_prd hu hd h1
    obtain ⟨⟨t2, e2⟩, h4, h5⟩ := sb_inr h
    exact gd_sml hp hd _ _ _ _ _ (gd_mono (hp _ _ _ h4) (by omega)) h5
end GP
