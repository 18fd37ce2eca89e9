/-! Level 3: the estate itself. A state: year, worn, owner (-1 for nobody), the hand, the shapes, the years had. A will: how many letters, heirs, masters; days, limit, seed; skill; tremor; laws (0..2 the masters', 3..8 what heirs learn, 9 the drift). -/
abbrev Lo : Type := Option (Bs × List Op)
abbrev Sg : Type := Int × Int × Int × (Nat → Int) × (Nat → Nat → Int) × (Nat → Int)
def yr (σ : Sg) : Int := σ.1
def wo (σ : Sg) : Int := σ.2.1
def ow (σ : Sg) : Int := σ.2.2.1
def hd (σ : Sg) : Nat → Int := σ.2.2.2.1
def sp (σ : Sg) : Nat → Nat → Int := σ.2.2.2.2.1
def ha (σ : Sg) : Nat → Int := σ.2.2.2.2.2
abbrev Vl : Type := (Nat × Nat × Nat) × (Nat × Int × Int) × (Nat → Int) × (Nat → Int) × (Nat → Lo)
def nl (V : Vl) : Nat := V.1.1
def nh (V : Vl) : Nat := V.1.2.1
def nm (V : Vl) : Nat := V.1.2.2
def dy (V : Vl) : Nat := V.2.1.1
def lm (V : Vl) : Int := V.2.1.2.1
def sd (V : Vl) : Int := V.2.1.2.2
def sk (V : Vl) : Nat → Int := V.2.2.1
def tr (V : Vl) : Nat → Int := V.2.2.2.1
def lo (V : Vl) : Nat → Lo := V.2.2.2.2
def VOK (V : Vl) : Prop := nl V ≤ 6 ∧ nh V ≤ 6 ∧ nm V ≤ 3 ∧ dy V ≤ 9 ∧ (∀ h, h < nh V → (0 ≤ sk V h ∧ sk V h ≤ 99) ∧ (0 ≤ tr V h ∧ tr V h ≤ 9)) ∧ (∀ m, m < nm V → lo V m ≠ none)
def SOK (V : Vl) (σ : Sg) : Prop := (∀ l, l < nl V → 0 ≤ hd σ l ∧ hd σ l ≤ 99) ∧ (∀ h, h < nh V → ∀ l, l < nl V → 0 ≤ sp σ h l ∧ sp σ h l ≤ 99) ∧ -1 ≤ ow σ ∧ ow σ < nh V
def cow (o : Int) : Int := if o < 0 then -2 else o
/-- the class's will at b -/
def clawAt (w : Wd) (c z0 : Nat) (v : Int) (q : Lo) : Prop := match q with
  | none => v = -1
  | some (bs, e) => ∃ f : Nat, v = (f : Int) ∧ claw w c z0 f bs e
def CW (w : Wd) (b : Nat) (V : Vl) : Prop := (wI w b 0 = (nl V : Int) ∧ wI w b 1 = (nh V : Int) ∧ wI w b 2 = (nm V : Int) ∧ wI w b 3 = (dy V : Int) ∧ wI w b 4 = lm V ∧ wI w b 5 = sd V) ∧ (∀ h, h < nh V → wI w (b + 2) h = sk V h ∧ wI w (b + 3) h = tr V h) ∧ ∃ z0 : Nat, z0 ≤ 400 ∧ wI w (b + 7) 0 = (z0 : Int) ∧ (∀ m, m < nm V → clawAt w (b + 7) z0 (wI w (b + 5) m) (lo V m)) ∧ (∀ h, h < nh V → clawAt w (b + 7) z0 (wI w (b + 6) h) (lo V (3 + h))) ∧ clawAt w (b + 7) z0 (wI w b 6) (lo V 9)
theorem clawAt_eq {w w1 : Wd} {c z0 : Nat} {v : Int} {q : Lo} (h : ∀ k, wI w1 (c + 1) k = wI w (c + 1) k) (h2 : ∀ k, wI w1 (c + 2) k = wI w (c + 2) k) (hq : clawAt w c z0 v q) : clawAt w1 c z0 v q := by
  match q, hq with
  | none, hq => exact hq
  | some (bs, e), ⟨f, h3, h4⟩ => exact ⟨f, h3, claw_eq h h2 bs f e h4⟩
theorem CW.eq {w w1 : Wd} {b : Nat} {V : Vl} (hW : CW w b V) (h : ∀ a k, b ≤ a → a ≤ b + 9 → wI w1 a k = wI w a k) : CW w1 b V := by
  obtain ⟨⟨h0, h1, h2, h3, h4, h5⟩, h6, z0, h7, h8, h9, ha, hb⟩ := hW
  have q1 : ∀ k, wI w1 (b + 7 + 1) k = wI w (b + 7 + 1) k := fun k => h _ k (by omega) (by omega)
  have q2 : ∀ k, wI w1 (b + 7 + 2) k = wI w (b + 7 + 2) k := fun k => h _ k (by omega) (by omega)
  have q : ∀ k, wI w1 b k = wI w b k := fun k => h b k (by omega) (by omega)
  refine ⟨⟨(q _).trans h0, (q _).trans h1, (q _).trans h2, (q _).trans h3, (q _).trans h4, (q _).trans h5⟩, fun x hx => ⟨(h _ _ (by omega) (by omega)).trans (h6 x hx).1, (h _ _ (by omega) (by omega)).trans (h6 x hx).2⟩, z0, h7, (h _ _ (by omega) (by omega)).trans h8, fun m hm => ?_, fun x hx => ?_, ?_⟩
  · rw [h (b + 5) m (by omega) (by omega)]; exact clawAt_eq q1 q2 (h9 m hm)
  · rw [h (b + 6) x (by omega) (by omega)]; exact clawAt_eq q1 q2 (ha x hx)
  · rw [q]; exact clawAt_eq q1 q2 hb
/-- the reference's will on side s -/
def MW (w : Wd) (s : Nat) (V : Vl) : Prop := s ≤ 1 ∧ (wI w 233 s = (nl V : Int) ∧ wI w 235 s = (nh V : Int) ∧ wI w 239 s = (nm V : Int) ∧ wI w 240 s = (dy V : Int) ∧ wI w 241 s = lm V ∧ wI w 242 s = sd V) ∧ (∀ h, h < nh V → wI w 236 (6 * s + h) = sk V h ∧ wI w 237 (6 * s + h) = tr V h) ∧ (∀ k, (k < nm V ∨ (3 ≤ k ∧ k < 3 + nh V) ∨ k = 9) → mlawAt w (10 * s + k) (lo V k))
theorem mlawAt_eq {w w1 : Wd} {i : Nat} {q : Lo} (h : ∀ a k, 233 ≤ a → a ≤ 251 → wI w1 a k = wI w a k) (hq : mlawAt w i q) : mlawAt w1 i q := by
  match q, hq with
  | none, hq => exact ⟨(h _ _ (by omega) (by omega)).trans hq.1, (h _ _ (by omega) (by omega)).trans hq.2⟩
  | some (bs, e), ⟨f, h1, h2, h3⟩ => exact ⟨f, (h _ _ (by omega) (by omega)).trans h1, (h _ _ (by omega) (by omega)).trans h2, mlaw_eq (fun a k h5 h6 => h a k (by omega) h6) bs f e h3⟩
theorem MW.eq {w w1 : Wd} {s : Nat} {V : Vl} (hW : MW w s V) (h : ∀ a k, 233 ≤ a → a ≤ 251 → wI w1 a k = wI w a k) : MW w1 s V := by
  obtain ⟨hs, ⟨h0, h1, h2, h3, h4, h5⟩, h6, h7⟩ := hW
  exact ⟨hs, ⟨(h _ _ (by omega) (by omega)).trans h0, (h _ _ (by omega) (by omega)).trans h1, (h _ _ (by omega) (by omega)).trans h2, (h _ _ (by omega) (by omega)).trans h3, (h _ _ (by omega) (by omega)).trans h4, (h _ _ (by omega) (by omega)).trans h5⟩, fun x hx => ⟨(h _ _ (by omega) (by omega)).trans (h6 x hx).1, (h _ _ (by omega) (by omega)).trans (h6 x hx).2⟩, fun k hk => mlawAt_eq h (h7 k hk)⟩
/-- the class's state at b -/
def CS (w : Wd) (b : Nat) (V : Vl) (σ : Sg) : Prop := wI w b 0 = yr σ ∧ wI w b 1 = wo σ ∧ wI w b 2 = cow (ow σ) ∧ (∀ l, l < nl V → wI w (b + 1) l = hd σ l) ∧ (∀ h, h < nh V → ∀ l, l < nl V → wI w (b + 2) (6 * h + l) = sp σ h l) ∧ (∀ h, h < nh V → wI w (b + 3) h = ha σ h)
theorem CS.eq {w w1 : Wd} {b : Nat} {V : Vl} {σ : Sg} (hS : CS w b V σ) (h : ∀ a k, b ≤ a → a ≤ b + 3 → wI w1 a k = wI w a k) : CS w1 b V σ := by
  obtain ⟨h0, h1, h2, h3, h4, h5⟩ := hS
  exact ⟨(h _ _ (by omega) (by omega)).trans h0, (h _ _ (by omega) (by omega)).trans h1, (h _ _ (by omega) (by omega)).trans h2, fun l hl => (h _ _ (by omega) (by omega)).trans (h3 l hl), fun x hx l hl => (h _ _ (by omega) (by omega)).trans (h4 x hx l hl), fun x hx => (h _ _ (by omega) (by omega)).trans (h5 x hx)⟩
/-- the reference's state in row a from o on -/
def MS (w : Wd) (a o : Nat) (V : Vl) (σ : Sg) : Prop := wI w a (o + 42) = yr σ ∧ wI w a (o + 44) = wo σ ∧ wI w a (o + 43) = ow σ ∧ (∀ l, l < nl V → wI w a (o + l) = hd σ l) ∧ (∀ h, h < nh V → ∀ l, l < nl V → wI w a (o + 6 + 6 * h + l) = sp σ h l) ∧ (∀ h, h < nh V → wI w a (o + 46 + h) = ha σ h)
theorem MS.eq {w w1 : Wd} {a a1 o o1 : Nat} {V : Vl} {σ : Sg} (hV : VOK V) (hS : MS w a o V σ) (h : ∀ k, k < 60 → wI w1 a1 (o1 + k) = wI w a (o + k)) : MS w1 a1 o1 V σ := by
  obtain ⟨h0, h1, h2, h3, h4, h5⟩ := hS
  obtain ⟨v0, v1, -⟩ := hV
  refine ⟨(h 42 (by omega)).trans h0, (h 44 (by omega)).trans h1, (h 43 (by omega)).trans h2, fun l hl => (h l (by omega)).trans (h3 l hl), fun x hx l hl => ?_, fun x hx => ?_⟩
  · have := h (6 + 6 * x + l) (by omega)
    rw [show o1 + (6 + 6 * x + l) = o1 + 6 + 6 * x + l by omega, show o + (6 + 6 * x + l) = o + 6 + 6 * x + l by omega] at this
    exact this.trans (h4 x hx l hl)
  · have := h (46 + x) (by omega)
    rw [show o1 + (46 + x) = o1 + 46 + x by omega, show o + (46 + x) = o + 46 + x by omega] at this
    exact this.trans (h5 x hx)
/-! what both sides reckon -/
def ab (x y : Int) : Int := if x < y then y - x else x - y
/-- nearer by p points -/
def near (s t p : Int) : Int := if s < t then s + min p (ab s t) else s - min p (ab s t)
def mx (h v : Int) : Int := oxor (w32 (w32 (oxor h v * 1103515245) + 12345)) (oushr (w32 (w32 (oxor h v * 1103515245) + 12345)) 15)
def lot (n s which : Int) : Int := (oushr (mx (mx s 27) which) 1).tmod n
def cl (lo' hi z : Int) : Int := max lo' (min hi z)
def wrt (V : Vl) (σ : Sg) (s : Int) (h l : Nat) : Int := cl 0 99 (w32 (w32 (sp σ h l + lot (w32 (w32 (2 * tr V h) + 1)) s (w32 (w32 (w32 (36 * yr σ) + w32 (6 * (h : Int))) + (l : Int)))) - tr V h))
/-- what a law looks at -/
def env (off l y wn' own hn d : Int) (i : Nat) : Int := if i = 0 then off else if i = 1 then l else if i = 2 then y else if i = 3 then wn' else if i = 4 then own else if i = 5 then hn else d
def una (V : Vl) (σ : Sg) (m l : Nat) (own : Int) : Int := cl 0 999 (levo (env (ab own (hd σ l)) (l : Int) (yr σ) (wo σ) own (hd σ l) 0) (lo V m))
/-- a sum as the machine makes it -/
def usum (f : Nat → Int) : Nat → Int
  | 0 => 0
  | n + 1 => w32 (usum f n + f n)
def usk (f : Nat → Int) (no : Int) : Nat → Int
  | 0 => 0
  | n + 1 => if (n : Int) = no then usk f no n else w32 (usk f no n + f n)
def ulk (V : Vl) (σ : Sg) (s : Int) (h m : Nat) : Int := usum (fun l => una V σ m l (wrt V σ s h l)) (nl V)
def uall (V : Vl) (σ : Sg) (s no : Int) (h : Nat) : Int := usk (fun m => ulk V σ s h m) no (nm V)
theorem wrt_bd (V : Vl) (σ : Sg) (s : Int) (h l : Nat) : 0 ≤ wrt V σ s h l ∧ wrt V σ s h l ≤ 99 := by unfold wrt cl; omega
theorem iabs_ab {x y : Int} (hx : 0 ≤ x ∧ x ≤ 99) (hy : 0 ≤ y ∧ y ≤ 99) : iabs (w32 (x - y)) = ab x y := by
  rw [w32_id (by omega) (by omega)]
  unfold iabs ab
  split <;> split <;> (try rw [w32_id (by omega) (by omega)]) <;> omega
theorem near_bd {s t p : Int} (hs : 0 ≤ s ∧ s ≤ 99) (ht : 0 ≤ t ∧ t ≤ 99) (hp : 0 ≤ p) : 0 ≤ near s t p ∧ near s t p ≤ 99 := by
  unfold near ab
  split <;> omega
theorem near_add {s t p q : Int} (hp : 0 ≤ p) (hq : 0 ≤ q) : near (near s t p) t q = near s t (p + q) := by
  unfold near ab
  split <;> split <;> omega
theorem near_zero {s t : Int} : near s t 0 = s := by
  unfold near ab
  split <;> omega
