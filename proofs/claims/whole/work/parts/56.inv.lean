/-! Level 3: what ties both objects between two calls. -/
/-- one state with its book: the class's state at b with the book at k', the reference's row a from o on; years at most Y -/
def RW (w : Wd) (V : Vl) (Y : Int) (a o b k' : Nat) (σ : Sg) : Prop := SOK V σ ∧ CS w b V σ ∧ MS w a o V σ ∧ (0 ≤ yr σ ∧ yr σ ≤ Y) ∧ wI w a (o + 45) = min (yr σ) 400 ∧ ∀ p : Nat, (p : Int) < min (yr σ) 400 → (∀ l, l < nl V → wI w a (o + 60 + 7 * p + l) = wI w (k' + 2) (6 * p + l) ∧ 0 ≤ wI w (k' + 2) (6 * p + l) ∧ wI w (k' + 2) (6 * p + l) ≤ 99) ∧ wI w (k' + 1) p = cow (wI w a (o + 66 + 7 * p)) ∧ -1 ≤ wI w a (o + 66 + 7 * p) ∧ wI w a (o + 66 + 7 * p) < (nh V : Int)
theorem RW.eq {w w1 : Wd} {V : Vl} {Y Y1 : Int} {a a1 o o1 b b1 k' k1 : Nat} {σ : Sg} (hV : VOK V) (h : RW w V Y a o b k' σ) (hY : Y ≤ Y1) (hS : CS w1 b1 V σ) (hB : ∀ p : Nat, (p : Int) < min (yr σ) 400 → wI w1 (k1 + 1) p = wI w (k' + 1) p ∧ ∀ l, l < 6 → wI w1 (k1 + 2) (6 * p + l) = wI w (k' + 2) (6 * p + l)) (hm : ∀ k, k < 2860 → wI w1 a1 (o1 + k) = wI w a (o + k)) : RW w1 V Y1 a1 o1 b1 k1 σ := by
  obtain ⟨h0, h1, h2, h3, h4, h5⟩ := h
  have h6 := hV.1
  refine ⟨h0, hS, h2.eq hV (fun k hk => hm k (by omega)), ⟨h3.1, by omega⟩, (hm 45 (by omega)).trans h4, fun p hp => ?_⟩
  have hp4 : p < 400 := by omega
  obtain ⟨g1, g2, g3⟩ := h5 p hp
  obtain ⟨e1, e2⟩ := hB p hp
  have e3 : wI w1 a1 (o1 + 66 + 7 * p) = wI w a (o + 66 + 7 * p) := by
    have := hm (66 + 7 * p) (by omega)
    rw [show o1 + (66 + 7 * p) = o1 + 66 + 7 * p by omega, show o + (66 + 7 * p) = o + 66 + 7 * p by omega] at this
    exact this
  refine ⟨fun l hl => ?_, ?_, ?_⟩
  · have := hm (60 + 7 * p + l) (by omega)
    rw [show o1 + (60 + 7 * p + l) = o1 + 60 + 7 * p + l by omega, show o + (60 + 7 * p + l) = o + 60 + 7 * p + l by omega] at this
    rw [this, e2 l (by omega)]
    exact g1 l hl
  · rw [e1, e3]; exact g2
  · rw [e3]; exact g3
/-- everything, but for the will: now, the past (u things kept, the class's next place x), the slots, the papers, the tape, the place -/
def NOW (w : Wd) (V : Vl) (Y : Int) (σ : Sg) : Prop := RW w V Y 259 0 40 48 σ
def PAST (w : Wd) (V : Vl) (Y : Int) (σ : Sg) : Prop := ∃ (u x : Nat) (τ : Nat → Sg), u ≤ 30 ∧ x < 30 ∧ wI w 51 0 = (u : Int) ∧ wI w 51 1 = (x : Int) ∧ wI w 227 58 = (u : Int) ∧ (∀ i, i < u → RW w V Y 263 (2860 * i) (53 + 4 * ((x + 30 - u + i) % 30)) 48 (τ i)) ∧ (∀ i j, i ≤ j → j < u → min (yr (τ i)) 400 ≤ min (yr (τ j)) 400) ∧ (∀ i, i < u → min (yr (τ i)) 400 ≤ min (yr σ) 400)
def SLOT (w : Wd) (V : Vl) (Y : Int) : Prop := ∀ i, i < 3 → wI w (203 + 8 * i) 0 = wI w 269 i ∧ (wI w 269 i = 0 ∨ (wI w 269 i = 1 ∧ ∃ τ, RW w V Y 270 (2860 * i) (204 + 8 * i) (208 + 8 * i) τ))
def PAPR (w : Wd) (V : Vl) : Prop := ∃ n : Nat, n ≤ 20 ∧ wI w 174 0 = (n : Int) ∧ wI w 227 63 = (n : Int) ∧ ∀ i, i < n → ∃ (l : Nat) (z : Int), l < nl V ∧ (0 ≤ z ∧ z ≤ 99) ∧ wI w 175 i = (l : Int) ∧ wI w 267 i = (l : Int) ∧ wI w 176 i = z ∧ wI w 268 i = z
def TAPE (w : Wd) : Prop := ∃ n : Nat, n ≤ 2000 ∧ wI w 6 1 = (n : Int) ∧ wI w 227 2 = (n : Int) ∧ ∀ i, i < n → wI w 7 i = wI w 228 i ∧ -128 ≤ wI w 7 i ∧ wI w 7 i ≤ 127
/-- the words and the signs -/
def ky (k : Nat) : Int := ([175252482, 161370, 187455942, 6476936, 2486801, 80155, 6564179, 377761, 249, 399641, 107681, 11103, 495765, 464144, 11570, 158575, 2968] : List Int).getD k 0
def sgn (k : Nat) : Int := ([59, 61, 43, 45, 42, 47, 60, 40, 41] : List Int).getD k 0
def TXT (w : Wd) : Prop := (∀ k, k < 17 → wL w 25 k = ky k ∧ wL w 234 k = ky k) ∧ wI w 4 1 = 0 ∧ ∀ k, k < 9 → wI w 5 k = sgn k
/-- where the reference keeps the will of side s -/
def RG (s a k : Nat) : Prop := ((a = 237 ∨ a = 239 ∨ (243 ≤ a ∧ a ≤ 246)) ∧ k = s) ∨ ((a = 240 ∨ a = 241) ∧ 6 * s ≤ k ∧ k < 6 * s + 6) ∨ ((a = 247 ∨ a = 248) ∧ 10 * s ≤ k ∧ k < 10 * s + 10) ∨ (249 ≤ a ∧ a ≤ 253 ∧ 130 * s ≤ k ∧ k < 130 * s + 130) ∨ ((a = 254 ∨ a = 255) ∧ 420 * s ≤ k ∧ k < 420 * s + 420)
def MWS (w : Wd) (s : Nat) (V : Vl) : Prop := ∀ w1, (∀ a k, RG s a k → wI w1 a k = wI w a k) → MW w1 s V
/-- both objects between two calls: L the script's length, years at most Y -/
def INV (L : Nat) (w : Wd) (Y : Int) : Prop := ∃ (wl dr tx s : Nat) (V : Vl) (σ : Sg), Ok L wl dr tx w ∧ isWi wl ∧ isWi dr ∧ wl ≠ dr ∧ VOK V ∧ CW w wl V ∧ wI w 227 18 = (s : Int) ∧ MW w s V ∧ NOW w V Y σ ∧ PAST w V Y σ ∧ SLOT w V Y ∧ PAPR w V ∧ TAPE w ∧ wI w 8 0 = wI w 227 17 ∧ TXT w ∧ MWS w s V
