/-! Level 3: what ties both objects between two calls. -/
/-- the class's hand at b holds shapes, also where no letter is told -/
def HB (w : Wd) (b : Nat) : Prop := ∀ l, l < 6 → 0 ≤ wI w (b + 1) l ∧ wI w (b + 1) l ≤ 99
theorem HB.eq {w w1 : Wd} {b : Nat} (h : HB w b) (e : ∀ k, wI w1 (b + 1) k = wI w (b + 1) k) : HB w1 b := fun l hl => by rw [e l]; exact h l hl
theorem hb_copy {w w1 : Wd} {b c : Nat} (h : HB w c) (e : ∀ i, i < 6 → wI w1 (b + 1) i = wI w (c + 1) i) : HB w1 b := fun l hl => by rw [e l hl]; exact h l hl
/-- one state with its book: the class's state at b with the book at k', the reference's row a from o on; years at most Y -/
def RW (w : Wd) (V : Vl) (Y : Int) (a o b k' : Nat) (σ : Sg) : Prop := SOK V σ ∧ CS w b V σ ∧ MS w a o V σ ∧ (0 ≤ yr σ ∧ yr σ ≤ Y) ∧ wI w a (o + 45) = min (yr σ) 400 ∧ (∀ p : Nat, (p : Int) < min (yr σ) 400 → (∀ l, l < nl V → wI w a (o + 60 + 7 * p + l) = pgh (wL w (k' + 1) p) l ∧ 0 ≤ pgh (wL w (k' + 1) p) l ∧ pgh (wL w (k' + 1) p) l ≤ 99) ∧ pgo (wL w (k' + 1) p) = cow (wI w a (o + 66 + 7 * p)) ∧ (-1 ≤ wI w a (o + 66 + 7 * p) ∧ wI w a (o + 66 + 7 * p) < (nh V : Int)) ∧ pgk (wL w (k' + 1) p)) ∧ HB w b
theorem RW.eq {w w1 : Wd} {V : Vl} {Y Y1 : Int} {a a1 o o1 b b1 k' k1 : Nat} {σ : Sg} (hV : VOK V) (h : RW w V Y a o b k' σ) (hY : Y ≤ Y1) (hS : CS w1 b1 V σ) (hH : HB w1 b1) (hB : ∀ p : Nat, (p : Int) < min (yr σ) 400 → wL w1 (k1 + 1) p = wL w (k' + 1) p) (hm : ∀ k, k < 2860 → wI w1 a1 (o1 + k) = wI w a (o + k)) : RW w1 V Y1 a1 o1 b1 k1 σ := by
  obtain ⟨h0, h1, h2, h3, h4, h5, -⟩ := h
  have h6 := hV.1
  refine ⟨h0, hS, h2.eq hV (fun k hk => hm k (by omega)), ⟨h3.1, by omega⟩, (hm 45 (by omega)).trans h4, fun p hp => ?_, hH⟩
  have hp4 : p < 400 := by omega
  obtain ⟨g1, g2, g3, g4⟩ := h5 p hp
  have e3 : wI w1 a1 (o1 + 66 + 7 * p) = wI w a (o + 66 + 7 * p) := by
    have := hm (66 + 7 * p) (by omega)
    rw [show o1 + (66 + 7 * p) = o1 + 66 + 7 * p by omega, show o + (66 + 7 * p) = o + 66 + 7 * p by omega] at this
    exact this
  rw [hB p hp, e3]
  refine ⟨fun l hl => ?_, g2, g3, g4⟩
  have := hm (60 + 7 * p + l) (by omega)
  rw [show o1 + (60 + 7 * p + l) = o1 + 60 + 7 * p + l by omega, show o + (60 + 7 * p + l) = o + 60 + 7 * p + l by omega] at this
  rw [this]
  exact g1 l hl
/-- everything, but for the will: now, the past (u things kept, the class's next place x), the slots, the papers, the tape, the place -/
def NOW (w : Wd) (V : Vl) (Y : Int) (σ : Sg) : Prop := RW w V Y 255 0 40 48 σ
def PAST (w : Wd) (V : Vl) (Y : Int) (σ : Sg) : Prop := ∃ (u x : Nat) (τ : Nat → Sg), u ≤ 30 ∧ x < 30 ∧ wI w 50 0 = (u : Int) ∧ wI w 50 1 = (x : Int) ∧ wI w 223 58 = (u : Int) ∧ (∀ i, i < u → RW w V Y 259 (2860 * i) (52 + 4 * ((x + 30 - u + i) % 30)) 48 (τ i)) ∧ (∀ i j, i ≤ j → j < u → min (yr (τ i)) 400 ≤ min (yr (τ j)) 400) ∧ (∀ i, i < u → min (yr (τ i)) 400 ≤ min (yr σ) 400)
def SLOT (w : Wd) (V : Vl) (Y : Int) : Prop := ∀ i, i < 3 → wI w (202 + 7 * i) 0 = wI w 265 i ∧ (wI w 265 i = 0 ∨ (wI w 265 i = 1 ∧ ∃ τ, RW w V Y 266 (2860 * i) (203 + 7 * i) (207 + 7 * i) τ))
def PAPR (w : Wd) (V : Vl) : Prop := ∃ n : Nat, n ≤ 20 ∧ wI w 173 0 = (n : Int) ∧ wI w 223 63 = (n : Int) ∧ ∀ i, i < n → ∃ (l : Nat) (z : Int), l < nl V ∧ (0 ≤ z ∧ z ≤ 99) ∧ wI w 174 i = (l : Int) ∧ wI w 263 i = (l : Int) ∧ wI w 175 i = z ∧ wI w 264 i = z
def TAPE (w : Wd) : Prop := ∃ n : Nat, n ≤ 2000 ∧ wI w 6 1 = (n : Int) ∧ wI w 223 2 = (n : Int) ∧ ∀ i, i < n → wI w 7 i = wI w 224 i ∧ -128 ≤ wI w 7 i ∧ wI w 7 i ≤ 127
/-- the words and the signs -/
def ky (k : Nat) : Int := ([175252482, 161370, 187455942, 6476936, 2486801, 80155, 6564179, 377761, 249, 399641, 107681, 11103, 495765, 464144, 11570, 158575, 2968] : List Int).getD k 0
def sgn (k : Nat) : Int := ([59, 61, 43, 45, 42, 47, 60, 40, 41] : List Int).getD k 0
def TXT (w : Wd) : Prop := (∀ k, k < 17 → wL w 25 k = ky k ∧ wL w 230 k = ky k) ∧ wI w 4 1 = 0 ∧ ∀ k, k < 9 → wI w 5 k = sgn k
/-- where the reference keeps the will of side s -/
def RG (s a k : Nat) : Prop := ((a = 233 ∨ a = 235 ∨ (239 ≤ a ∧ a ≤ 242)) ∧ k = s) ∨ ((a = 236 ∨ a = 237) ∧ 6 * s ≤ k ∧ k < 6 * s + 6) ∨ ((a = 243 ∨ a = 244) ∧ 10 * s ≤ k ∧ k < 10 * s + 10) ∨ (245 ≤ a ∧ a ≤ 249 ∧ 130 * s ≤ k ∧ k < 130 * s + 130) ∨ ((a = 250 ∨ a = 251) ∧ 420 * s ≤ k ∧ k < 420 * s + 420)
def MWS (w : Wd) (s : Nat) (V : Vl) : Prop := ∀ w1, (∀ a k, RG s a k → wI w1 a k = wI w a k) → MW w1 s V
/-- both objects between two calls: L the script's length, years at most Y -/
def INV (L : Nat) (w : Wd) (Y : Int) : Prop := ∃ (wl dr tx s : Nat) (V : Vl) (σ : Sg), Ok L wl dr tx w ∧ isWi wl ∧ isWi dr ∧ wl ≠ dr ∧ VOK V ∧ CW w wl V ∧ wI w 223 18 = (s : Int) ∧ MW w s V ∧ NOW w V Y σ ∧ PAST w V Y σ ∧ SLOT w V Y ∧ PAPR w V ∧ TAPE w ∧ wI w 8 0 = wI w 223 17 ∧ TXT w ∧ MWS w s V
