/-! Level 2.5: where the cells lie once both objects stand. -/
def SHl : List (Nat × Nat) := [(99, 0), (99, 0), (13, 2), (31, 86), (13, 2), (32, 9), (11, 12), (21, 2000), (6, 10), (10, 14), (20, 6), (20, 6), (20, 6), (20, 36), (20, 3), (20, 6), (2, 5), (20, 400), (20, 400), (20, 7), (20, 24), (7, 7), (20, 401), (20, 401), (22, 401), (22, 17), (21, 0), (22, 15), (10, 14), (20, 6), (20, 6), (20, 6), (20, 36), (20, 3), (20, 6), (2, 5), (20, 400), (20, 400), (20, 7), (20, 24), (9, 6), (20, 6), (20, 36), (20, 6), (9, 6), (20, 6), (20, 36), (20, 6), (0, 1), (22, 400), (4, 3), (24, 30), (9, 6), (20, 6), (20, 36), (20, 6), (9, 6), (20, 6), (20, 36), (20, 6), (9, 6), (20, 6), (20, 36), (20, 6), (9, 6), (20, 6), (20, 36), (20, 6), (9, 6), (20, 6), (20, 36), (20, 6), (9, 6), (20, 6), (20, 36), (20, 6), (9, 6), (20, 6), (20, 36), (20, 6), (9, 6), (20, 6), (20, 36), (20, 6), (9, 6), (20, 6), (20, 36), (20, 6), (9, 6), (20, 6), (20, 36), (20, 6), (9, 6), (20, 6), (20, 36), (20, 6), (9, 6), (20, 6), (20, 36), (20, 6), (9, 6), (20, 6), (20, 36), (20, 6), (9, 6), (20, 6), (20, 36), (20, 6), (9, 6), (20, 6), (20, 36), (20, 6), (9, 6), (20, 6), (20, 36), (20, 6), (9, 6), (20, 6), (20, 36), (20, 6), (9, 6), (20, 6), (20, 36), (20, 6), (9, 6), (20, 6), (20, 36), (20, 6), (9, 6), (20, 6), (20, 36), (20, 6), (9, 6), (20, 6), (20, 36), (20, 6), (9, 6), (20, 6), (20, 36), (20, 6), (9, 6), (20, 6), (20, 36), (20, 6), (9, 6), (20, 6), (20, 36), (20, 6), (9, 6), (20, 6), (20, 36), (20, 6), (9, 6), (20, 6), (20, 36), (20, 6), (9, 6), (20, 6), (20, 36), (20, 6), (9, 6), (20, 6), (20, 36), (20, 6), (9, 6), (20, 6), (20, 36), (20, 6), (9, 6), (20, 6), (20, 36), (20, 6), (25, 3), (3, 3), (20, 20), (20, 20), (1, 3), (26, 6), (20, 3), (20, 3), (20, 3), (20, 3), (20, 3), (20, 3), (20, 3), (20, 6), (5, 3), (20, 6), (26, 6), (20, 13), (20, 13), (20, 13), (20, 13), (20, 13), (20, 13), (26, 6), (20, 13), (20, 13), (20, 13), (20, 13), (20, 13), (20, 13), (8, 3), (9, 6), (20, 6), (20, 36), (20, 6), (0, 1), (22, 400), (8, 3), (9, 6), (20, 6), (20, 36), (20, 6), (0, 1), (22, 400), (8, 3), (9, 6), (20, 6), (20, 36), (20, 6), (0, 1), (22, 400), (12, 68), (21, 2000), (21, 2000), (20, 403), (20, 403), (20, 403), (22, 403), (22, 17), (22, 15), (20, 15), (20, 2), (20, 12), (20, 2), (20, 12), (20, 12), (20, 72), (20, 2), (20, 2), (20, 2), (20, 2), (20, 20), (20, 20), (23, 260), (20, 260), (20, 260), (20, 260), (20, 260), (20, 840), (20, 840), (20, 64), (20, 7), (20, 400), (20, 2860), (20, 2860), (20, 6), (20, 3), (20, 85800), (20, 91), (20, 6), (20, 78), (20, 20), (20, 20), (23, 3), (20, 8580)]
def SH (L a : Nat) : Nat × Nat := if a = 1 then (30, L) else SHl.getD a (99, 0)
def RRl : List (List Nat) := [[], [], [3], [], [5], [], [7, 0, 8, 0, 40, 44, 48, 50, 172, 173, 176, 186], [], [0, 0, 0, 21, 27], [0, 0, 0, 0, 0, 0, 0, 10, 11, 12, 13, 14, 15, 16], [], [], [], [], [], [], [0, 17, 18, 19, 20], [], [], [], [], [22, 23, 24, 25], [], [], [], [], [], [], [0, 0, 0, 0, 0, 0, 0, 29, 30, 31, 32, 33, 34, 35], [], [], [], [], [], [], [0, 36, 37, 38, 39], [], [], [], [], [0, 0, 0, 41, 42, 43], [], [], [], [0, 0, 0, 45, 46, 47], [], [], [], [49], [], [0, 0, 51], [52, 56, 60, 64, 68, 72, 76, 80, 84, 88, 92, 96, 100, 104, 108, 112, 116, 120, 124, 128, 132, 136, 140, 144, 148, 152, 156, 160, 164, 168], [0, 0, 0, 53, 54, 55], [], [], [], [0, 0, 0, 57, 58, 59], [], [], [], [0, 0, 0, 61, 62, 63], [], [], [], [0, 0, 0, 65, 66, 67], [], [], [], [0, 0, 0, 69, 70, 71], [], [], [], [0, 0, 0, 73, 74, 75], [], [], [], [0, 0, 0, 77, 78, 79], [], [], [], [0, 0, 0, 81, 82, 83], [], [], [], [0, 0, 0, 85, 86, 87], [], [], [], [0, 0, 0, 89, 90, 91], [], [], [], [0, 0, 0, 93, 94, 95], [], [], [], [0, 0, 0, 97, 98, 99], [], [], [], [0, 0, 0, 101, 102, 103], [], [], [], [0, 0, 0, 105, 106, 107], [], [], [], [0, 0, 0, 109, 110, 111], [], [], [], [0, 0, 0, 113, 114, 115], [], [], [], [0, 0, 0, 117, 118, 119], [], [], [], [0, 0, 0, 121, 122, 123], [], [], [], [0, 0, 0, 125, 126, 127], [], [], [], [0, 0, 0, 129, 130, 131], [], [], [], [0, 0, 0, 133, 134, 135], [], [], [], [0, 0, 0, 137, 138, 139], [], [], [], [0, 0, 0, 141, 142, 143], [], [], [], [0, 0, 0, 145, 146, 147], [], [], [], [0, 0, 0, 149, 150, 151], [], [], [], [0, 0, 0, 153, 154, 155], [], [], [], [0, 0, 0, 157, 158, 159], [], [], [], [0, 0, 0, 161, 162, 163], [], [], [], [0, 0, 0, 165, 166, 167], [], [], [], [0, 0, 0, 169, 170, 171], [], [], [], [202, 209, 216], [0, 174, 175], [], [], [177, 184, 185], [178, 179, 180, 181, 182, 183], [], [], [], [], [], [], [], [], [187, 188, 195], [], [189, 190, 191, 192, 193, 194], [], [], [], [], [], [], [196, 197, 198, 199, 200, 201], [], [], [], [], [], [], [0, 203, 207], [0, 0, 0, 204, 205, 206], [], [], [], [208], [], [0, 210, 214], [0, 0, 0, 211, 212, 213], [], [], [], [215], [], [0, 217, 221], [0, 0, 0, 218, 219, 220], [], [], [], [222], [], [0, 224, 0, 225, 0, 226, 227, 228, 229, 230, 0, 0, 0, 0, 0, 0, 0, 0, 0, 0, 0, 231, 232, 233, 234, 235, 236, 237, 238, 239, 240, 241, 242, 243, 244, 0, 245, 246, 247, 248, 249, 0, 250, 251, 252, 0, 253, 254, 0, 255, 256, 0, 0, 0, 0, 0, 257, 258, 0, 259, 260, 261, 262, 0, 263, 264, 265, 266], [], [], [], [], [], [], [], [], [], [], [], [], [], [], [], [], [], [], [], [], [], [], [], [], [], [], [], [], [], [], [], [], [], [], [], [], [], [], [], [], [], [], []]
def RR0 (a k : Nat) : Nat := (RRl.getD a []).getD k 0
def RR (wl dr tx a k : Nat) : Nat := if a = 6 ∧ k = 3 then wl else if a = 8 ∧ k = 1 then dr else if a = 21 ∧ k = 4 then tx else RR0 a k
/-- both objects stand: L the script's length, wl the will in force, dr the draft, tx the scanner's text -/
def Ok (L wl dr tx : Nat) (w : Wd) : Prop := wsh w = SH L ∧ wR w = RR wl dr tx
def stL : List Nat := [40, 44, 52, 56, 60, 64, 68, 72, 76, 80, 84, 88, 92, 96, 100, 104, 108, 112, 116, 120, 124, 128, 132, 136, 140, 144, 148, 152, 156, 160, 164, 168, 203, 210, 217]
def isSt (b : Nat) : Prop := b ∈ stL
def isWi (b : Nat) : Prop := b = 9 ∨ b = 28
def isLw (b : Nat) : Prop := b = 16 ∨ b = 35
def bkL : List Nat := [48, 207, 214, 221]
def isBk (b : Nat) : Prop := b ∈ bkL
def isSl (b : Nat) : Prop := b = 202 ∨ b = 209 ∨ b = 216
def Sm (w w1 : Wd) : Prop := wsh w1 = wsh w ∧ wR w1 = wR w
theorem Sm.rf (w : Wd) : Sm w w := ⟨rfl, rfl⟩
theorem Sm.trans {w w1 w2 : Wd} (h : Sm w w1) (h2 : Sm w1 w2) : Sm w w2 := ⟨h2.1.trans h.1, h2.2.trans h.2⟩
theorem Ok.sm {L wl dr tx : Nat} {w w1 : Wd} (h : Ok L wl dr tx w) (hs : Sm w w1) : Ok L wl dr tx w1 := ⟨hs.1.trans h.1, hs.2.trans h.2⟩
theorem Ok.sI {L wl dr tx a k : Nat} {z : Int} {w : Wd} (h : Ok L wl dr tx w) : Ok L wl dr tx (_root_.Jvm.Pilot.@@N@@.sI w a k z) := h
theorem Ok.sL {L wl dr tx a k : Nat} {z : Int} {w : Wd} (h : Ok L wl dr tx w) : Ok L wl dr tx (_root_.Jvm.Pilot.@@N@@.sL w a k z) := h
theorem sm_fpI {w w1 : Wd} {a c k : Nat} {z : Int} (h : fpI w a c k z = some w1) : Sm w w1 := by obtain ⟨-, rfl⟩ := ite_some h; exact ⟨rfl, rfl⟩
theorem sm_fpZ {w w1 : Wd} {a c k : Nat} {z : Int} (h : fpZ w a c k z = some w1) : Sm w w1 := by obtain ⟨-, rfl⟩ := ite_some h; exact ⟨rfl, rfl⟩
theorem sm_fpL {w w1 : Wd} {a c k : Nat} {z : Int} (h : fpL w a c k z = some w1) : Sm w w1 := by obtain ⟨-, rfl⟩ := ite_some h; exact ⟨rfl, rfl⟩
theorem sm_wrI {w w1 : Wd} {a : Nat} {j z : Int} (h : wrI w a j z = some w1) : Sm w w1 := by obtain ⟨-, rfl⟩ := ite_some h; exact ⟨rfl, rfl⟩
theorem sm_wrL {w w1 : Wd} {a : Nat} {j z : Int} (h : wrL w a j z = some w1) : Sm w w1 := by obtain ⟨-, rfl⟩ := ite_some h; exact ⟨rfl, rfl⟩
theorem sm_wrB {w w1 : Wd} {a : Nat} {j z : Int} (h : wrB w a j z = some w1) : Sm w w1 := by
  unfold wrB at h
  split at h
  · obtain rfl := Option.some.inj h; exact ⟨rfl, rfl⟩
  · obtain ⟨-, rfl⟩ := ite_some h; exact ⟨rfl, rfl⟩
theorem sm_cpyI {w w1 : Wd} {a b : Nat} {i j n : Int} (h : cpyI w a i b j n = some w1) : Sm w w1 := by obtain ⟨-, rfl⟩ := ite_some h; exact ⟨rfl, rfl⟩
theorem sm_cpyL {w w1 : Wd} {a b : Nat} {i j n : Int} (h : cpyL w a i b j n = some w1) : Sm w w1 := by obtain ⟨-, rfl⟩ := ite_some h; exact ⟨rfl, rfl⟩
theorem sm_rZ {w : Wd} {z : Int} {r : Int × Wd} (h : rZ z w = some r) : Sm w r.2 := by obtain ⟨-, rfl⟩ := ite_some h; exact ⟨rfl, rfl⟩
theorem sm_rB {w : Wd} {z : Int} {r : Int × Wd} (h : rB z w = some r) : Sm w r.2 := by obtain ⟨-, rfl⟩ := ite_some h; exact ⟨rfl, rfl⟩
theorem sm_rC {w : Wd} {z : Int} {r : Int × Wd} (h : rC z w = some r) : Sm w r.2 := by obtain ⟨-, rfl⟩ := ite_some h; exact ⟨rfl, rfl⟩
/-- the looks at rows of known length -/
def ri (w : Wd) (a n : Nat) (j : Int) : Option Int := if 0 ≤ j ∧ j < (n : Int) then some (wI w a j.toNat) else none
def rl' (w : Wd) (a n : Nat) (j : Int) : Option Int := if 0 ≤ j ∧ j < (n : Int) then some (wL w a j.toNat) else none
def rr (n : Nat) (j : Int) : Option Nat := if 0 ≤ j ∧ j < (n : Int) then some j.toNat else none
def wi (w : Wd) (a n : Nat) (j z : Int) : Option Wd := if 0 ≤ j ∧ j < (n : Int) then some (sI w a j.toNat z) else none
def wb (w : Wd) (a n : Nat) (j z : Int) : Option Wd := if 0 ≤ j ∧ j < (n : Int) then some (sI w a j.toNat (n8 z)) else none
def wz' (w : Wd) (a n : Nat) (j z : Int) : Option Wd := if (0 ≤ j ∧ j < (n : Int)) ∧ (z = 0 ∨ z = 1) then some (sI w a j.toNat z) else none
def wl' (w : Wd) (a n : Nat) (j z : Int) : Option Wd := if 0 ≤ j ∧ j < (n : Int) then some (sL w a j.toNat z) else none
def cp (w : Wd) (a na : Nat) (i : Int) (b nb : Nat) (j n : Int) : Option Wd := if 0 ≤ i ∧ 0 ≤ j ∧ 0 ≤ n ∧ i + n ≤ (na : Int) ∧ j + n ≤ (nb : Int) then some (cpI w a i.toNat b j.toNat n.toNat) else none
def cp' (w : Wd) (a na : Nat) (i : Int) (b nb : Nat) (j n : Int) : Option Wd := if 0 ≤ i ∧ 0 ≤ j ∧ 0 ≤ n ∧ i + n ≤ (na : Int) ∧ j + n ≤ (nb : Int) then some (cpL w a i.toNat b j.toNat n.toNat) else none
theorem bd {α β : Type} {o : Option α} {x : α} {f : α → Option β} (h : o = some x) : o.bind f = f x := by rw [h]; rfl
theorem bdc {α β : Type} {o o1 : Option α} {f f1 : α → Option β} (h : o = o1) (k : ∀ v, o1 = some v → f v = f1 v) : o.bind f = o1.bind f1 := by
  subst h
  cases o with
  | none => rfl
  | some v => exact k v rfl
theorem bdm {β : Type} {o o1 : Option Nat} {φ : Nat → Nat} {f f1 : Nat → Option β} (h : o = o1.map φ) (k : ∀ v, o1 = some v → f (φ v) = f1 v) : o.bind f = o1.bind f1 := by
  subst h
  cases o1 with
  | none => rfl
  | some v => exact k v rfl
theorem itc {α : Type} {c : Prop} [Decidable c] {x x1 y y1 : α} (h : c → x = x1) (k : ¬ c → y = y1) : (if c then x else y) = if c then x1 else y1 := by
  by_cases hc : c
  · rw [if_pos hc, if_pos hc, h hc]
  · rw [if_neg hc, if_neg hc, k hc]
section OK
variable {L wl dr tx a b c k n na nb : Nat} {i j z m : Int} {w : Wd} {α : Type}
theorem ok_gd {x : Option α} (h : Ok L wl dr tx w) (hs : (SH L a).1 = c) : gd c w a x = x := by unfold gd; rw [h.1, if_pos hs]
theorem ok_tg (h : Ok L wl dr tx w) (hs : (SH L a).1 = c) : (wsh w a).1 = c := by rw [h.1]; exact hs
theorem ok_fgI (h : Ok L wl dr tx w) (hs : (SH L a).1 = c) : fgI w a c k = some (wI w a k) := if_pos (ok_tg h hs)
theorem ok_fgL (h : Ok L wl dr tx w) (hs : (SH L a).1 = c) : fgL w a c k = some (wL w a k) := if_pos (ok_tg h hs)
theorem ok_fgR (h : Ok L wl dr tx w) (hs : (SH L a).1 = c) (hr : RR wl dr tx a k = b) (h0 : b ≠ 0) : fgR w a c k = some b := by
  unfold fgR
  rw [h.2, hr, if_pos ⟨ok_tg h hs, h0⟩]
theorem ok_fpI (h : Ok L wl dr tx w) (hs : (SH L a).1 = c) : fpI w a c k z = some (sI w a k z) := if_pos (ok_tg h hs)
theorem ok_fpZ (h : Ok L wl dr tx w) (hs : (SH L a).1 = c) (hz : z = 0 ∨ z = 1) : fpZ w a c k z = some (sI w a k z) := if_pos ⟨ok_tg h hs, hz⟩
theorem ok_fpL (h : Ok L wl dr tx w) (hs : (SH L a).1 = c) : fpL w a c k z = some (sL w a k z) := if_pos (ok_tg h hs)
theorem ok_rdI (h : Ok L wl dr tx w) (hs : SH L a = (20, n)) : rdI w a j = ri w a n j := by
  unfold rdI ri
  rw [h.1, hs]
  by_cases q : 0 ≤ j ∧ j < (n : Int)
  · rw [if_pos q, if_pos ⟨Or.inl rfl, q⟩]
  · rw [if_neg q, if_neg (fun p => q p.2)]
theorem ok_rdB (h : Ok L wl dr tx w) (hs : SH L a = (21, n)) : rdB w a j = ri w a n j := by
  unfold rdB ri
  rw [h.1, hs]
  by_cases q : 0 ≤ j ∧ j < (n : Int)
  · rw [if_pos q, if_pos ⟨Or.inl rfl, q⟩]
  · rw [if_neg q, if_neg (fun p => q p.2)]
theorem ok_rdZ (h : Ok L wl dr tx w) (hs : SH L a = (23, n)) : rdB w a j = ri w a n j := by
  unfold rdB ri
  rw [h.1, hs]
  by_cases q : 0 ≤ j ∧ j < (n : Int)
  · rw [if_pos q, if_pos ⟨Or.inr (Or.inl rfl), q⟩]
  · rw [if_neg q, if_neg (fun p => q p.2)]
theorem ok_rdL (h : Ok L wl dr tx w) (hs : SH L a = (22, n)) : rdL w a j = rl' w a n j := by
  unfold rdL rl'
  rw [h.1, hs]
  by_cases q : 0 ≤ j ∧ j < (n : Int)
  · rw [if_pos q, if_pos ⟨rfl, q⟩]
  · rw [if_neg q, if_neg (fun p => q p.2)]
theorem ok_rdR {φ : Nat → Nat} (h : Ok L wl dr tx w) (hs : ∃ t, (t = 24 ∨ t = 25 ∨ t = 26) ∧ SH L a = (t, n)) (hr : ∀ q, q < n → RR wl dr tx a q = φ q ∧ φ q ≠ 0) : rdR w a j = (rr n j).map φ := by
  obtain ⟨t, ht, hs⟩ := hs
  unfold rdR rr
  rw [h.1, hs, h.2]
  by_cases q : 0 ≤ j ∧ j < (n : Int)
  · obtain ⟨e1, e2⟩ := hr j.toNat (by omega)
    rw [if_pos q, if_pos ⟨ht, q.1, q.2, by rw [e1]; exact e2⟩, e1]; rfl
  · rw [if_neg q, if_neg (fun p => q ⟨p.2.1, p.2.2.1⟩)]; rfl
theorem ok_wrI (h : Ok L wl dr tx w) (hs : SH L a = (20, n)) : wrI w a j z = wi w a n j z := by
  unfold wrI wi
  rw [h.1, hs]
  by_cases q : 0 ≤ j ∧ j < (n : Int)
  · rw [if_pos q, if_pos ⟨rfl, q⟩]
  · rw [if_neg q, if_neg (fun p => q p.2)]
theorem ok_wrB (h : Ok L wl dr tx w) (hs : SH L a = (21, n)) : wrB w a j z = wb w a n j z := by
  unfold wrB wb
  rw [h.1, hs]
  by_cases q : 0 ≤ j ∧ j < (n : Int)
  · rw [if_pos q, if_pos ⟨rfl, q⟩]
  · rw [if_neg q, if_neg (fun p => q p.2), if_neg (fun p => q ⟨p.2.1, p.2.2.1⟩)]
theorem ok_wrZ (h : Ok L wl dr tx w) (hs : SH L a = (23, n)) : wrB w a j z = wz' w a n j z := by
  unfold wrB wz'
  rw [h.1, hs]
  rw [if_neg (fun p => absurd p.1 (by show ¬ (23 : Nat) = 21; decide))]
  by_cases q : (0 ≤ j ∧ j < (n : Int)) ∧ (z = 0 ∨ z = 1)
  · rw [if_pos q, if_pos ⟨rfl, q.1.1, q.1.2, q.2⟩]
  · rw [if_neg q, if_neg (fun p => q ⟨⟨p.2.1, p.2.2.1⟩, p.2.2.2⟩)]
theorem ok_wrL (h : Ok L wl dr tx w) (hs : SH L a = (22, n)) : wrL w a j z = wl' w a n j z := by
  unfold wrL wl'
  rw [h.1, hs]
  by_cases q : 0 ≤ j ∧ j < (n : Int)
  · rw [if_pos q, if_pos ⟨rfl, q⟩]
  · rw [if_neg q, if_neg (fun p => q p.2)]
theorem ok_cpyI (h : Ok L wl dr tx w) (hs : SH L a = (20, na)) (hs2 : SH L b = (20, nb)) : cpyI w a i b j m = cp w a na i b nb j m := by
  unfold cpyI cp
  rw [h.1, hs, hs2]
  by_cases q : 0 ≤ i ∧ 0 ≤ j ∧ 0 ≤ m ∧ i + m ≤ (na : Int) ∧ j + m ≤ (nb : Int)
  · rw [if_pos q, if_pos ⟨rfl, rfl, q⟩]
  · rw [if_neg q, if_neg (fun p => q p.2.2)]
theorem ok_cpyL (h : Ok L wl dr tx w) (hs : SH L a = (22, na)) (hs2 : SH L b = (22, nb)) : cpyL w a i b j m = cp' w a na i b nb j m := by
  unfold cpyL cp'
  rw [h.1, hs, hs2]
  by_cases q : 0 ≤ i ∧ 0 ≤ j ∧ 0 ≤ m ∧ i + m ≤ (na : Int) ∧ j + m ≤ (nb : Int)
  · rw [if_pos q, if_pos ⟨rfl, rfl, q⟩]
  · rw [if_neg q, if_neg (fun p => q p.2.2)]
theorem ok_aln {t : Nat} (h : Ok L wl dr tx w) (hs : SH L a = (t, n)) (ht : t ∈ tgs) : aln w a = some (n : Int) := by
  unfold aln
  rw [h.1, hs, if_pos ht]
end OK
theorem sm_wi {w w1 : Wd} {a n : Nat} {j z : Int} (h : wi w a n j z = some w1) : Sm w w1 := by obtain ⟨-, rfl⟩ := ite_some h; exact ⟨rfl, rfl⟩
theorem sm_wb {w w1 : Wd} {a n : Nat} {j z : Int} (h : wb w a n j z = some w1) : Sm w w1 := by obtain ⟨-, rfl⟩ := ite_some h; exact ⟨rfl, rfl⟩
theorem sm_wz {w w1 : Wd} {a n : Nat} {j z : Int} (h : wz' w a n j z = some w1) : Sm w w1 := by obtain ⟨-, rfl⟩ := ite_some h; exact ⟨rfl, rfl⟩
theorem sm_wl {w w1 : Wd} {a n : Nat} {j z : Int} (h : wl' w a n j z = some w1) : Sm w w1 := by obtain ⟨-, rfl⟩ := ite_some h; exact ⟨rfl, rfl⟩
theorem sm_cp {w w1 : Wd} {a b na nb : Nat} {i j n : Int} (h : cp w a na i b nb j n = some w1) : Sm w w1 := by obtain ⟨-, rfl⟩ := ite_some h; exact ⟨rfl, rfl⟩
theorem rr_lt {n q : Nat} {j : Int} (h : rr n j = some q) : q < n := by obtain ⟨h1, rfl⟩ := ite_some h; omega
theorem sh6 (L : Nat) : SH L 6 = (11, 12) := rfl
theorem sh7 (L : Nat) : SH L 7 = (21, 2000) := rfl
theorem sh8 (L : Nat) : SH L 8 = (6, 10) := rfl
theorem sh9 (L : Nat) : SH L 9 = (10, 14) := rfl
theorem sh10 (L : Nat) : SH L 10 = (20, 6) := rfl
theorem sh11 (L : Nat) : SH L 11 = (20, 6) := rfl
theorem sh12 (L : Nat) : SH L 12 = (20, 6) := rfl
theorem sh13 (L : Nat) : SH L 13 = (20, 36) := rfl
theorem sh14 (L : Nat) : SH L 14 = (20, 3) := rfl
theorem sh15 (L : Nat) : SH L 15 = (20, 6) := rfl
theorem sh16 (L : Nat) : SH L 16 = (2, 5) := rfl
theorem sh17 (L : Nat) : SH L 17 = (20, 400) := rfl
theorem sh18 (L : Nat) : SH L 18 = (20, 400) := rfl
theorem sh19 (L : Nat) : SH L 19 = (20, 7) := rfl
theorem sh20 (L : Nat) : SH L 20 = (20, 24) := rfl
theorem sh21 (L : Nat) : SH L 21 = (7, 7) := rfl
theorem sh22 (L : Nat) : SH L 22 = (20, 401) := rfl
theorem sh23 (L : Nat) : SH L 23 = (20, 401) := rfl
theorem sh24 (L : Nat) : SH L 24 = (22, 401) := rfl
theorem sh25 (L : Nat) : SH L 25 = (22, 17) := rfl
theorem sh27 (L : Nat) : SH L 27 = (22, 15) := rfl
theorem sh28 (L : Nat) : SH L 28 = (10, 14) := rfl
theorem sh29 (L : Nat) : SH L 29 = (20, 6) := rfl
theorem sh30 (L : Nat) : SH L 30 = (20, 6) := rfl
theorem sh31 (L : Nat) : SH L 31 = (20, 6) := rfl
theorem sh32 (L : Nat) : SH L 32 = (20, 36) := rfl
theorem sh33 (L : Nat) : SH L 33 = (20, 3) := rfl
theorem sh34 (L : Nat) : SH L 34 = (20, 6) := rfl
theorem sh35 (L : Nat) : SH L 35 = (2, 5) := rfl
theorem sh36 (L : Nat) : SH L 36 = (20, 400) := rfl
theorem sh37 (L : Nat) : SH L 37 = (20, 400) := rfl
theorem sh38 (L : Nat) : SH L 38 = (20, 7) := rfl
theorem sh39 (L : Nat) : SH L 39 = (20, 24) := rfl
theorem sh40 (L : Nat) : SH L 40 = (9, 6) := rfl
theorem sh41 (L : Nat) : SH L 41 = (20, 6) := rfl
theorem sh42 (L : Nat) : SH L 42 = (20, 36) := rfl
theorem sh43 (L : Nat) : SH L 43 = (20, 6) := rfl
theorem sh44 (L : Nat) : SH L 44 = (9, 6) := rfl
theorem sh45 (L : Nat) : SH L 45 = (20, 6) := rfl
theorem sh46 (L : Nat) : SH L 46 = (20, 36) := rfl
theorem sh47 (L : Nat) : SH L 47 = (20, 6) := rfl
theorem sh48 (L : Nat) : SH L 48 = (0, 1) := rfl
theorem sh49 (L : Nat) : SH L 49 = (22, 400) := rfl
theorem sh50 (L : Nat) : SH L 50 = (4, 3) := rfl
theorem sh51 (L : Nat) : SH L 51 = (24, 30) := rfl
theorem sh52 (L : Nat) : SH L 52 = (9, 6) := rfl
theorem sh53 (L : Nat) : SH L 53 = (20, 6) := rfl
theorem sh54 (L : Nat) : SH L 54 = (20, 36) := rfl
theorem sh55 (L : Nat) : SH L 55 = (20, 6) := rfl
theorem sh56 (L : Nat) : SH L 56 = (9, 6) := rfl
theorem sh57 (L : Nat) : SH L 57 = (20, 6) := rfl
theorem sh58 (L : Nat) : SH L 58 = (20, 36) := rfl
theorem sh59 (L : Nat) : SH L 59 = (20, 6) := rfl
theorem sh60 (L : Nat) : SH L 60 = (9, 6) := rfl
theorem sh61 (L : Nat) : SH L 61 = (20, 6) := rfl
theorem sh62 (L : Nat) : SH L 62 = (20, 36) := rfl
theorem sh63 (L : Nat) : SH L 63 = (20, 6) := rfl
theorem sh64 (L : Nat) : SH L 64 = (9, 6) := rfl
theorem sh65 (L : Nat) : SH L 65 = (20, 6) := rfl
theorem sh66 (L : Nat) : SH L 66 = (20, 36) := rfl
theorem sh67 (L : Nat) : SH L 67 = (20, 6) := rfl
theorem sh68 (L : Nat) : SH L 68 = (9, 6) := rfl
theorem sh69 (L : Nat) : SH L 69 = (20, 6) := rfl
theorem sh70 (L : Nat) : SH L 70 = (20, 36) := rfl
theorem sh71 (L : Nat) : SH L 71 = (20, 6) := rfl
theorem sh72 (L : Nat) : SH L 72 = (9, 6) := rfl
theorem sh73 (L : Nat) : SH L 73 = (20, 6) := rfl
theorem sh74 (L : Nat) : SH L 74 = (20, 36) := rfl
theorem sh75 (L : Nat) : SH L 75 = (20, 6) := rfl
theorem sh76 (L : Nat) : SH L 76 = (9, 6) := rfl
theorem sh77 (L : Nat) : SH L 77 = (20, 6) := rfl
theorem sh78 (L : Nat) : SH L 78 = (20, 36) := rfl
theorem sh79 (L : Nat) : SH L 79 = (20, 6) := rfl
theorem sh80 (L : Nat) : SH L 80 = (9, 6) := rfl
theorem sh81 (L : Nat) : SH L 81 = (20, 6) := rfl
theorem sh82 (L : Nat) : SH L 82 = (20, 36) := rfl
theorem sh83 (L : Nat) : SH L 83 = (20, 6) := rfl
theorem sh84 (L : Nat) : SH L 84 = (9, 6) := rfl
theorem sh85 (L : Nat) : SH L 85 = (20, 6) := rfl
theorem sh86 (L : Nat) : SH L 86 = (20, 36) := rfl
theorem sh87 (L : Nat) : SH L 87 = (20, 6) := rfl
theorem sh88 (L : Nat) : SH L 88 = (9, 6) := rfl
theorem sh89 (L : Nat) : SH L 89 = (20, 6) := rfl
theorem sh90 (L : Nat) : SH L 90 = (20, 36) := rfl
theorem sh91 (L : Nat) : SH L 91 = (20, 6) := rfl
theorem sh92 (L : Nat) : SH L 92 = (9, 6) := rfl
theorem sh93 (L : Nat) : SH L 93 = (20, 6) := rfl
theorem sh94 (L : Nat) : SH L 94 = (20, 36) := rfl
theorem sh95 (L : Nat) : SH L 95 = (20, 6) := rfl
theorem sh96 (L : Nat) : SH L 96 = (9, 6) := rfl
theorem sh97 (L : Nat) : SH L 97 = (20, 6) := rfl
theorem sh98 (L : Nat) : SH L 98 = (20, 36) := rfl
theorem sh99 (L : Nat) : SH L 99 = (20, 6) := rfl
theorem sh100 (L : Nat) : SH L 100 = (9, 6) := rfl
theorem sh101 (L : Nat) : SH L 101 = (20, 6) := rfl
theorem sh102 (L : Nat) : SH L 102 = (20, 36) := rfl
theorem sh103 (L : Nat) : SH L 103 = (20, 6) := rfl
theorem sh104 (L : Nat) : SH L 104 = (9, 6) := rfl
theorem sh105 (L : Nat) : SH L 105 = (20, 6) := rfl
theorem sh106 (L : Nat) : SH L 106 = (20, 36) := rfl
theorem sh107 (L : Nat) : SH L 107 = (20, 6) := rfl
theorem sh108 (L : Nat) : SH L 108 = (9, 6) := rfl
theorem sh109 (L : Nat) : SH L 109 = (20, 6) := rfl
theorem sh110 (L : Nat) : SH L 110 = (20, 36) := rfl
theorem sh111 (L : Nat) : SH L 111 = (20, 6) := rfl
theorem sh112 (L : Nat) : SH L 112 = (9, 6) := rfl
theorem sh113 (L : Nat) : SH L 113 = (20, 6) := rfl
theorem sh114 (L : Nat) : SH L 114 = (20, 36) := rfl
theorem sh115 (L : Nat) : SH L 115 = (20, 6) := rfl
theorem sh116 (L : Nat) : SH L 116 = (9, 6) := rfl
theorem sh117 (L : Nat) : SH L 117 = (20, 6) := rfl
theorem sh118 (L : Nat) : SH L 118 = (20, 36) := rfl
theorem sh119 (L : Nat) : SH L 119 = (20, 6) := rfl
theorem sh120 (L : Nat) : SH L 120 = (9, 6) := rfl
theorem sh121 (L : Nat) : SH L 121 = (20, 6) := rfl
theorem sh122 (L : Nat) : SH L 122 = (20, 36) := rfl
theorem sh123 (L : Nat) : SH L 123 = (20, 6) := rfl
theorem sh124 (L : Nat) : SH L 124 = (9, 6) := rfl
theorem sh125 (L : Nat) : SH L 125 = (20, 6) := rfl
theorem sh126 (L : Nat) : SH L 126 = (20, 36) := rfl
theorem sh127 (L : Nat) : SH L 127 = (20, 6) := rfl
theorem sh128 (L : Nat) : SH L 128 = (9, 6) := rfl
theorem sh129 (L : Nat) : SH L 129 = (20, 6) := rfl
theorem sh130 (L : Nat) : SH L 130 = (20, 36) := rfl
theorem sh131 (L : Nat) : SH L 131 = (20, 6) := rfl
theorem sh132 (L : Nat) : SH L 132 = (9, 6) := rfl
theorem sh133 (L : Nat) : SH L 133 = (20, 6) := rfl
theorem sh134 (L : Nat) : SH L 134 = (20, 36) := rfl
theorem sh135 (L : Nat) : SH L 135 = (20, 6) := rfl
theorem sh136 (L : Nat) : SH L 136 = (9, 6) := rfl
theorem sh137 (L : Nat) : SH L 137 = (20, 6) := rfl
theorem sh138 (L : Nat) : SH L 138 = (20, 36) := rfl
theorem sh139 (L : Nat) : SH L 139 = (20, 6) := rfl
theorem sh140 (L : Nat) : SH L 140 = (9, 6) := rfl
theorem sh141 (L : Nat) : SH L 141 = (20, 6) := rfl
theorem sh142 (L : Nat) : SH L 142 = (20, 36) := rfl
theorem sh143 (L : Nat) : SH L 143 = (20, 6) := rfl
theorem sh144 (L : Nat) : SH L 144 = (9, 6) := rfl
theorem sh145 (L : Nat) : SH L 145 = (20, 6) := rfl
theorem sh146 (L : Nat) : SH L 146 = (20, 36) := rfl
theorem sh147 (L : Nat) : SH L 147 = (20, 6) := rfl
theorem sh148 (L : Nat) : SH L 148 = (9, 6) := rfl
theorem sh149 (L : Nat) : SH L 149 = (20, 6) := rfl
theorem sh150 (L : Nat) : SH L 150 = (20, 36) := rfl
theorem sh151 (L : Nat) : SH L 151 = (20, 6) := rfl
theorem sh152 (L : Nat) : SH L 152 = (9, 6) := rfl
theorem sh153 (L : Nat) : SH L 153 = (20, 6) := rfl
theorem sh154 (L : Nat) : SH L 154 = (20, 36) := rfl
theorem sh155 (L : Nat) : SH L 155 = (20, 6) := rfl
theorem sh156 (L : Nat) : SH L 156 = (9, 6) := rfl
theorem sh157 (L : Nat) : SH L 157 = (20, 6) := rfl
theorem sh158 (L : Nat) : SH L 158 = (20, 36) := rfl
theorem sh159 (L : Nat) : SH L 159 = (20, 6) := rfl
theorem sh160 (L : Nat) : SH L 160 = (9, 6) := rfl
theorem sh161 (L : Nat) : SH L 161 = (20, 6) := rfl
theorem sh162 (L : Nat) : SH L 162 = (20, 36) := rfl
theorem sh163 (L : Nat) : SH L 163 = (20, 6) := rfl
theorem sh164 (L : Nat) : SH L 164 = (9, 6) := rfl
theorem sh165 (L : Nat) : SH L 165 = (20, 6) := rfl
theorem sh166 (L : Nat) : SH L 166 = (20, 36) := rfl
theorem sh167 (L : Nat) : SH L 167 = (20, 6) := rfl
theorem sh168 (L : Nat) : SH L 168 = (9, 6) := rfl
theorem sh169 (L : Nat) : SH L 169 = (20, 6) := rfl
theorem sh170 (L : Nat) : SH L 170 = (20, 36) := rfl
theorem sh171 (L : Nat) : SH L 171 = (20, 6) := rfl
theorem sh172 (L : Nat) : SH L 172 = (25, 3) := rfl
theorem sh173 (L : Nat) : SH L 173 = (3, 3) := rfl
theorem sh174 (L : Nat) : SH L 174 = (20, 20) := rfl
theorem sh175 (L : Nat) : SH L 175 = (20, 20) := rfl
theorem sh176 (L : Nat) : SH L 176 = (1, 3) := rfl
theorem sh177 (L : Nat) : SH L 177 = (26, 6) := rfl
theorem sh178 (L : Nat) : SH L 178 = (20, 3) := rfl
theorem sh179 (L : Nat) : SH L 179 = (20, 3) := rfl
theorem sh180 (L : Nat) : SH L 180 = (20, 3) := rfl
theorem sh181 (L : Nat) : SH L 181 = (20, 3) := rfl
theorem sh182 (L : Nat) : SH L 182 = (20, 3) := rfl
theorem sh183 (L : Nat) : SH L 183 = (20, 3) := rfl
theorem sh184 (L : Nat) : SH L 184 = (20, 3) := rfl
theorem sh185 (L : Nat) : SH L 185 = (20, 6) := rfl
theorem sh186 (L : Nat) : SH L 186 = (5, 3) := rfl
theorem sh187 (L : Nat) : SH L 187 = (20, 6) := rfl
theorem sh188 (L : Nat) : SH L 188 = (26, 6) := rfl
theorem sh189 (L : Nat) : SH L 189 = (20, 13) := rfl
theorem sh190 (L : Nat) : SH L 190 = (20, 13) := rfl
theorem sh191 (L : Nat) : SH L 191 = (20, 13) := rfl
theorem sh192 (L : Nat) : SH L 192 = (20, 13) := rfl
theorem sh193 (L : Nat) : SH L 193 = (20, 13) := rfl
theorem sh194 (L : Nat) : SH L 194 = (20, 13) := rfl
theorem sh195 (L : Nat) : SH L 195 = (26, 6) := rfl
theorem sh196 (L : Nat) : SH L 196 = (20, 13) := rfl
theorem sh197 (L : Nat) : SH L 197 = (20, 13) := rfl
theorem sh198 (L : Nat) : SH L 198 = (20, 13) := rfl
theorem sh199 (L : Nat) : SH L 199 = (20, 13) := rfl
theorem sh200 (L : Nat) : SH L 200 = (20, 13) := rfl
theorem sh201 (L : Nat) : SH L 201 = (20, 13) := rfl
theorem sh202 (L : Nat) : SH L 202 = (8, 3) := rfl
theorem sh203 (L : Nat) : SH L 203 = (9, 6) := rfl
theorem sh204 (L : Nat) : SH L 204 = (20, 6) := rfl
theorem sh205 (L : Nat) : SH L 205 = (20, 36) := rfl
theorem sh206 (L : Nat) : SH L 206 = (20, 6) := rfl
theorem sh207 (L : Nat) : SH L 207 = (0, 1) := rfl
theorem sh208 (L : Nat) : SH L 208 = (22, 400) := rfl
theorem sh209 (L : Nat) : SH L 209 = (8, 3) := rfl
theorem sh210 (L : Nat) : SH L 210 = (9, 6) := rfl
theorem sh211 (L : Nat) : SH L 211 = (20, 6) := rfl
theorem sh212 (L : Nat) : SH L 212 = (20, 36) := rfl
theorem sh213 (L : Nat) : SH L 213 = (20, 6) := rfl
theorem sh214 (L : Nat) : SH L 214 = (0, 1) := rfl
theorem sh215 (L : Nat) : SH L 215 = (22, 400) := rfl
theorem sh216 (L : Nat) : SH L 216 = (8, 3) := rfl
theorem sh217 (L : Nat) : SH L 217 = (9, 6) := rfl
theorem sh218 (L : Nat) : SH L 218 = (20, 6) := rfl
theorem sh219 (L : Nat) : SH L 219 = (20, 36) := rfl
theorem sh220 (L : Nat) : SH L 220 = (20, 6) := rfl
theorem sh221 (L : Nat) : SH L 221 = (0, 1) := rfl
theorem sh222 (L : Nat) : SH L 222 = (22, 400) := rfl
theorem sh223 (L : Nat) : SH L 223 = (12, 68) := rfl
theorem sh224 (L : Nat) : SH L 224 = (21, 2000) := rfl
theorem sh225 (L : Nat) : SH L 225 = (21, 2000) := rfl
theorem sh226 (L : Nat) : SH L 226 = (20, 403) := rfl
theorem sh227 (L : Nat) : SH L 227 = (20, 403) := rfl
theorem sh228 (L : Nat) : SH L 228 = (20, 403) := rfl
theorem sh229 (L : Nat) : SH L 229 = (22, 403) := rfl
theorem sh230 (L : Nat) : SH L 230 = (22, 17) := rfl
theorem sh231 (L : Nat) : SH L 231 = (22, 15) := rfl
theorem sh232 (L : Nat) : SH L 232 = (20, 15) := rfl
theorem sh233 (L : Nat) : SH L 233 = (20, 2) := rfl
theorem sh234 (L : Nat) : SH L 234 = (20, 12) := rfl
theorem sh235 (L : Nat) : SH L 235 = (20, 2) := rfl
theorem sh236 (L : Nat) : SH L 236 = (20, 12) := rfl
theorem sh237 (L : Nat) : SH L 237 = (20, 12) := rfl
theorem sh238 (L : Nat) : SH L 238 = (20, 72) := rfl
theorem sh239 (L : Nat) : SH L 239 = (20, 2) := rfl
theorem sh240 (L : Nat) : SH L 240 = (20, 2) := rfl
theorem sh241 (L : Nat) : SH L 241 = (20, 2) := rfl
theorem sh242 (L : Nat) : SH L 242 = (20, 2) := rfl
theorem sh243 (L : Nat) : SH L 243 = (20, 20) := rfl
theorem sh244 (L : Nat) : SH L 244 = (20, 20) := rfl
theorem sh245 (L : Nat) : SH L 245 = (23, 260) := rfl
theorem sh246 (L : Nat) : SH L 246 = (20, 260) := rfl
theorem sh247 (L : Nat) : SH L 247 = (20, 260) := rfl
theorem sh248 (L : Nat) : SH L 248 = (20, 260) := rfl
theorem sh249 (L : Nat) : SH L 249 = (20, 260) := rfl
theorem sh250 (L : Nat) : SH L 250 = (20, 840) := rfl
theorem sh251 (L : Nat) : SH L 251 = (20, 840) := rfl
theorem sh252 (L : Nat) : SH L 252 = (20, 64) := rfl
theorem sh253 (L : Nat) : SH L 253 = (20, 7) := rfl
theorem sh254 (L : Nat) : SH L 254 = (20, 400) := rfl
theorem sh255 (L : Nat) : SH L 255 = (20, 2860) := rfl
theorem sh256 (L : Nat) : SH L 256 = (20, 2860) := rfl
theorem sh257 (L : Nat) : SH L 257 = (20, 6) := rfl
theorem sh258 (L : Nat) : SH L 258 = (20, 3) := rfl
theorem sh259 (L : Nat) : SH L 259 = (20, 85800) := rfl
theorem sh260 (L : Nat) : SH L 260 = (20, 91) := rfl
theorem sh261 (L : Nat) : SH L 261 = (20, 6) := rfl
theorem sh262 (L : Nat) : SH L 262 = (20, 78) := rfl
theorem sh263 (L : Nat) : SH L 263 = (20, 20) := rfl
theorem sh264 (L : Nat) : SH L 264 = (20, 20) := rfl
theorem sh265 (L : Nat) : SH L 265 = (23, 3) := rfl
theorem sh266 (L : Nat) : SH L 266 = (20, 8580) := rfl
theorem fam_St0 : ∀ b ∈ (stL : List Nat), SHl.getD b (99, 0) = (9, 6) ∧ 2 ≤ b ∧ SHl.getD (b + 1) (99, 0) = (20, 6) ∧ RR0 b 3 = b + 1 ∧ SHl.getD (b + 2) (99, 0) = (20, 36) ∧ RR0 b 4 = b + 2 ∧ SHl.getD (b + 3) (99, 0) = (20, 6) ∧ RR0 b 5 = b + 3 ∧ ¬ (b = 6 ∨ b = 8 ∨ b = 21) := by decide +kernel
theorem sh_St {b : Nat} (L : Nat) (h : isSt b) : SH L b = (9, 6) := by
  obtain ⟨f0, f1, f2, f3, f4, f5, f6, f7, f8⟩ := fam_St0 b h
  unfold SH; rw [if_neg (by omega)]; exact f0
theorem sh_St_3 {b : Nat} (L : Nat) (h : isSt b) : SH L (b + 1) = (20, 6) := by
  obtain ⟨f0, f1, f2, f3, f4, f5, f6, f7, f8⟩ := fam_St0 b h
  unfold SH; rw [if_neg (by omega)]; exact f2
theorem rf_St_3 {b : Nat} (wl dr tx : Nat) (h : isSt b) : RR wl dr tx b 3 = b + 1 := by
  obtain ⟨f0, f1, f2, f3, f4, f5, f6, f7, f8⟩ := fam_St0 b h
  unfold RR; rw [if_neg (by omega), if_neg (by omega), if_neg (by omega)]; exact f3
theorem sh_St_4 {b : Nat} (L : Nat) (h : isSt b) : SH L (b + 2) = (20, 36) := by
  obtain ⟨f0, f1, f2, f3, f4, f5, f6, f7, f8⟩ := fam_St0 b h
  unfold SH; rw [if_neg (by omega)]; exact f4
theorem rf_St_4 {b : Nat} (wl dr tx : Nat) (h : isSt b) : RR wl dr tx b 4 = b + 2 := by
  obtain ⟨f0, f1, f2, f3, f4, f5, f6, f7, f8⟩ := fam_St0 b h
  unfold RR; rw [if_neg (by omega), if_neg (by omega), if_neg (by omega)]; exact f5
theorem sh_St_5 {b : Nat} (L : Nat) (h : isSt b) : SH L (b + 3) = (20, 6) := by
  obtain ⟨f0, f1, f2, f3, f4, f5, f6, f7, f8⟩ := fam_St0 b h
  unfold SH; rw [if_neg (by omega)]; exact f6
theorem rf_St_5 {b : Nat} (wl dr tx : Nat) (h : isSt b) : RR wl dr tx b 5 = b + 3 := by
  obtain ⟨f0, f1, f2, f3, f4, f5, f6, f7, f8⟩ := fam_St0 b h
  unfold RR; rw [if_neg (by omega), if_neg (by omega), if_neg (by omega)]; exact f7
theorem fam_Wi0 : ∀ b ∈ ([9, 28] : List Nat), SHl.getD b (99, 0) = (10, 14) ∧ 2 ≤ b ∧ SHl.getD (b + 1) (99, 0) = (20, 6) ∧ RR0 b 7 = b + 1 ∧ SHl.getD (b + 2) (99, 0) = (20, 6) ∧ RR0 b 8 = b + 2 ∧ SHl.getD (b + 3) (99, 0) = (20, 6) ∧ RR0 b 9 = b + 3 ∧ SHl.getD (b + 4) (99, 0) = (20, 36) ∧ RR0 b 10 = b + 4 ∧ SHl.getD (b + 5) (99, 0) = (20, 3) ∧ RR0 b 11 = b + 5 ∧ SHl.getD (b + 6) (99, 0) = (20, 6) ∧ RR0 b 12 = b + 6 ∧ RR0 b 13 = b + 7 ∧ ¬ (b = 6 ∨ b = 8 ∨ b = 21) := by decide +kernel
theorem sh_Wi {b : Nat} (L : Nat) (h : isWi b) : SH L b = (10, 14) := by
  obtain ⟨f0, f1, f2, f3, f4, f5, f6, f7, f8, f9, f10, f11, f12, f13, f14, f15⟩ := fam_Wi0 b (by rcases h with rfl | rfl <;> decide)
  unfold SH; rw [if_neg (by omega)]; exact f0
theorem sh_Wi_7 {b : Nat} (L : Nat) (h : isWi b) : SH L (b + 1) = (20, 6) := by
  obtain ⟨f0, f1, f2, f3, f4, f5, f6, f7, f8, f9, f10, f11, f12, f13, f14, f15⟩ := fam_Wi0 b (by rcases h with rfl | rfl <;> decide)
  unfold SH; rw [if_neg (by omega)]; exact f2
theorem rf_Wi_7 {b : Nat} (wl dr tx : Nat) (h : isWi b) : RR wl dr tx b 7 = b + 1 := by
  obtain ⟨f0, f1, f2, f3, f4, f5, f6, f7, f8, f9, f10, f11, f12, f13, f14, f15⟩ := fam_Wi0 b (by rcases h with rfl | rfl <;> decide)
  unfold RR; rw [if_neg (by omega), if_neg (by omega), if_neg (by omega)]; exact f3
theorem sh_Wi_8 {b : Nat} (L : Nat) (h : isWi b) : SH L (b + 2) = (20, 6) := by
  obtain ⟨f0, f1, f2, f3, f4, f5, f6, f7, f8, f9, f10, f11, f12, f13, f14, f15⟩ := fam_Wi0 b (by rcases h with rfl | rfl <;> decide)
  unfold SH; rw [if_neg (by omega)]; exact f4
theorem rf_Wi_8 {b : Nat} (wl dr tx : Nat) (h : isWi b) : RR wl dr tx b 8 = b + 2 := by
  obtain ⟨f0, f1, f2, f3, f4, f5, f6, f7, f8, f9, f10, f11, f12, f13, f14, f15⟩ := fam_Wi0 b (by rcases h with rfl | rfl <;> decide)
  unfold RR; rw [if_neg (by omega), if_neg (by omega), if_neg (by omega)]; exact f5
theorem sh_Wi_9 {b : Nat} (L : Nat) (h : isWi b) : SH L (b + 3) = (20, 6) := by
  obtain ⟨f0, f1, f2, f3, f4, f5, f6, f7, f8, f9, f10, f11, f12, f13, f14, f15⟩ := fam_Wi0 b (by rcases h with rfl | rfl <;> decide)
  unfold SH; rw [if_neg (by omega)]; exact f6
theorem rf_Wi_9 {b : Nat} (wl dr tx : Nat) (h : isWi b) : RR wl dr tx b 9 = b + 3 := by
  obtain ⟨f0, f1, f2, f3, f4, f5, f6, f7, f8, f9, f10, f11, f12, f13, f14, f15⟩ := fam_Wi0 b (by rcases h with rfl | rfl <;> decide)
  unfold RR; rw [if_neg (by omega), if_neg (by omega), if_neg (by omega)]; exact f7
theorem sh_Wi_10 {b : Nat} (L : Nat) (h : isWi b) : SH L (b + 4) = (20, 36) := by
  obtain ⟨f0, f1, f2, f3, f4, f5, f6, f7, f8, f9, f10, f11, f12, f13, f14, f15⟩ := fam_Wi0 b (by rcases h with rfl | rfl <;> decide)
  unfold SH; rw [if_neg (by omega)]; exact f8
theorem rf_Wi_10 {b : Nat} (wl dr tx : Nat) (h : isWi b) : RR wl dr tx b 10 = b + 4 := by
  obtain ⟨f0, f1, f2, f3, f4, f5, f6, f7, f8, f9, f10, f11, f12, f13, f14, f15⟩ := fam_Wi0 b (by rcases h with rfl | rfl <;> decide)
  unfold RR; rw [if_neg (by omega), if_neg (by omega), if_neg (by omega)]; exact f9
theorem sh_Wi_11 {b : Nat} (L : Nat) (h : isWi b) : SH L (b + 5) = (20, 3) := by
  obtain ⟨f0, f1, f2, f3, f4, f5, f6, f7, f8, f9, f10, f11, f12, f13, f14, f15⟩ := fam_Wi0 b (by rcases h with rfl | rfl <;> decide)
  unfold SH; rw [if_neg (by omega)]; exact f10
theorem rf_Wi_11 {b : Nat} (wl dr tx : Nat) (h : isWi b) : RR wl dr tx b 11 = b + 5 := by
  obtain ⟨f0, f1, f2, f3, f4, f5, f6, f7, f8, f9, f10, f11, f12, f13, f14, f15⟩ := fam_Wi0 b (by rcases h with rfl | rfl <;> decide)
  unfold RR; rw [if_neg (by omega), if_neg (by omega), if_neg (by omega)]; exact f11
theorem sh_Wi_12 {b : Nat} (L : Nat) (h : isWi b) : SH L (b + 6) = (20, 6) := by
  obtain ⟨f0, f1, f2, f3, f4, f5, f6, f7, f8, f9, f10, f11, f12, f13, f14, f15⟩ := fam_Wi0 b (by rcases h with rfl | rfl <;> decide)
  unfold SH; rw [if_neg (by omega)]; exact f12
theorem rf_Wi_12 {b : Nat} (wl dr tx : Nat) (h : isWi b) : RR wl dr tx b 12 = b + 6 := by
  obtain ⟨f0, f1, f2, f3, f4, f5, f6, f7, f8, f9, f10, f11, f12, f13, f14, f15⟩ := fam_Wi0 b (by rcases h with rfl | rfl <;> decide)
  unfold RR; rw [if_neg (by omega), if_neg (by omega), if_neg (by omega)]; exact f13
theorem rf_Wi_13 {b : Nat} (wl dr tx : Nat) (h : isWi b) : RR wl dr tx b 13 = b + 7 := by
  obtain ⟨f0, f1, f2, f3, f4, f5, f6, f7, f8, f9, f10, f11, f12, f13, f14, f15⟩ := fam_Wi0 b (by rcases h with rfl | rfl <;> decide)
  unfold RR; rw [if_neg (by omega), if_neg (by omega), if_neg (by omega)]; exact f14
theorem fam_Lw0 : ∀ b ∈ ([16, 35] : List Nat), SHl.getD b (99, 0) = (2, 5) ∧ 2 ≤ b ∧ SHl.getD (b + 1) (99, 0) = (20, 400) ∧ RR0 b 1 = b + 1 ∧ SHl.getD (b + 2) (99, 0) = (20, 400) ∧ RR0 b 2 = b + 2 ∧ SHl.getD (b + 3) (99, 0) = (20, 7) ∧ RR0 b 3 = b + 3 ∧ SHl.getD (b + 4) (99, 0) = (20, 24) ∧ RR0 b 4 = b + 4 ∧ ¬ (b = 6 ∨ b = 8 ∨ b = 21) := by decide +kernel
theorem sh_Lw {b : Nat} (L : Nat) (h : isLw b) : SH L b = (2, 5) := by
  obtain ⟨f0, f1, f2, f3, f4, f5, f6, f7, f8, f9, f10⟩ := fam_Lw0 b (by rcases h with rfl | rfl <;> decide)
  unfold SH; rw [if_neg (by omega)]; exact f0
theorem sh_Lw_1 {b : Nat} (L : Nat) (h : isLw b) : SH L (b + 1) = (20, 400) := by
  obtain ⟨f0, f1, f2, f3, f4, f5, f6, f7, f8, f9, f10⟩ := fam_Lw0 b (by rcases h with rfl | rfl <;> decide)
  unfold SH; rw [if_neg (by omega)]; exact f2
theorem rf_Lw_1 {b : Nat} (wl dr tx : Nat) (h : isLw b) : RR wl dr tx b 1 = b + 1 := by
  obtain ⟨f0, f1, f2, f3, f4, f5, f6, f7, f8, f9, f10⟩ := fam_Lw0 b (by rcases h with rfl | rfl <;> decide)
  unfold RR; rw [if_neg (by omega), if_neg (by omega), if_neg (by omega)]; exact f3
theorem sh_Lw_2 {b : Nat} (L : Nat) (h : isLw b) : SH L (b + 2) = (20, 400) := by
  obtain ⟨f0, f1, f2, f3, f4, f5, f6, f7, f8, f9, f10⟩ := fam_Lw0 b (by rcases h with rfl | rfl <;> decide)
  unfold SH; rw [if_neg (by omega)]; exact f4
theorem rf_Lw_2 {b : Nat} (wl dr tx : Nat) (h : isLw b) : RR wl dr tx b 2 = b + 2 := by
  obtain ⟨f0, f1, f2, f3, f4, f5, f6, f7, f8, f9, f10⟩ := fam_Lw0 b (by rcases h with rfl | rfl <;> decide)
  unfold RR; rw [if_neg (by omega), if_neg (by omega), if_neg (by omega)]; exact f5
theorem sh_Lw_3 {b : Nat} (L : Nat) (h : isLw b) : SH L (b + 3) = (20, 7) := by
  obtain ⟨f0, f1, f2, f3, f4, f5, f6, f7, f8, f9, f10⟩ := fam_Lw0 b (by rcases h with rfl | rfl <;> decide)
  unfold SH; rw [if_neg (by omega)]; exact f6
theorem rf_Lw_3 {b : Nat} (wl dr tx : Nat) (h : isLw b) : RR wl dr tx b 3 = b + 3 := by
  obtain ⟨f0, f1, f2, f3, f4, f5, f6, f7, f8, f9, f10⟩ := fam_Lw0 b (by rcases h with rfl | rfl <;> decide)
  unfold RR; rw [if_neg (by omega), if_neg (by omega), if_neg (by omega)]; exact f7
theorem sh_Lw_4 {b : Nat} (L : Nat) (h : isLw b) : SH L (b + 4) = (20, 24) := by
  obtain ⟨f0, f1, f2, f3, f4, f5, f6, f7, f8, f9, f10⟩ := fam_Lw0 b (by rcases h with rfl | rfl <;> decide)
  unfold SH; rw [if_neg (by omega)]; exact f8
theorem rf_Lw_4 {b : Nat} (wl dr tx : Nat) (h : isLw b) : RR wl dr tx b 4 = b + 4 := by
  obtain ⟨f0, f1, f2, f3, f4, f5, f6, f7, f8, f9, f10⟩ := fam_Lw0 b (by rcases h with rfl | rfl <;> decide)
  unfold RR; rw [if_neg (by omega), if_neg (by omega), if_neg (by omega)]; exact f9
theorem fam_Bk0 : ∀ b ∈ (bkL : List Nat), SHl.getD b (99, 0) = (0, 1) ∧ 2 ≤ b ∧ SHl.getD (b + 1) (99, 0) = (22, 400) ∧ RR0 b 0 = b + 1 ∧ ¬ (b = 6 ∨ b = 8 ∨ b = 21) := by decide +kernel
theorem sh_Bk {b : Nat} (L : Nat) (h : isBk b) : SH L b = (0, 1) := by
  obtain ⟨f0, f1, f2, f3, f4⟩ := fam_Bk0 b h
  unfold SH; rw [if_neg (by omega)]; exact f0
theorem sh_Bk_0 {b : Nat} (L : Nat) (h : isBk b) : SH L (b + 1) = (22, 400) := by
  obtain ⟨f0, f1, f2, f3, f4⟩ := fam_Bk0 b h
  unfold SH; rw [if_neg (by omega)]; exact f2
theorem rf_Bk_0 {b : Nat} (wl dr tx : Nat) (h : isBk b) : RR wl dr tx b 0 = b + 1 := by
  obtain ⟨f0, f1, f2, f3, f4⟩ := fam_Bk0 b h
  unfold RR; rw [if_neg (by omega), if_neg (by omega), if_neg (by omega)]; exact f3
theorem fam_Sl0 : ∀ b ∈ ([202, 209, 216] : List Nat), SHl.getD b (99, 0) = (8, 3) ∧ 2 ≤ b ∧ RR0 b 1 = b + 1 ∧ RR0 b 2 = b + 5 ∧ ¬ (b = 6 ∨ b = 8 ∨ b = 21) := by decide +kernel
theorem sh_Sl {b : Nat} (L : Nat) (h : isSl b) : SH L b = (8, 3) := by
  obtain ⟨f0, f1, f2, f3, f4⟩ := fam_Sl0 b (by rcases h with rfl | rfl | rfl <;> decide)
  unfold SH; rw [if_neg (by omega)]; exact f0
theorem rf_Sl_1 {b : Nat} (wl dr tx : Nat) (h : isSl b) : RR wl dr tx b 1 = b + 1 := by
  obtain ⟨f0, f1, f2, f3, f4⟩ := fam_Sl0 b (by rcases h with rfl | rfl | rfl <;> decide)
  unfold RR; rw [if_neg (by omega), if_neg (by omega), if_neg (by omega)]; exact f2
theorem rf_Sl_2 {b : Nat} (wl dr tx : Nat) (h : isSl b) : RR wl dr tx b 2 = b + 5 := by
  obtain ⟨f0, f1, f2, f3, f4⟩ := fam_Sl0 b (by rcases h with rfl | rfl | rfl <;> decide)
  unfold RR; rw [if_neg (by omega), if_neg (by omega), if_neg (by omega)]; exact f3
theorem isLw_of {b : Nat} (h : isWi b) : isLw (b + 7) := by rcases h with rfl | rfl <;> (unfold isLw; decide)
theorem isSt_sl {b : Nat} (h : isSl b) : isSt (b + 1) := by rcases h with rfl | rfl | rfl <;> (unfold isSt; decide)
theorem isBk_sl {b : Nat} (h : isSl b) : isBk (b + 5) := by rcases h with rfl | rfl | rfl <;> (unfold isBk; decide)
theorem isSt_kept0 : ∀ q, q < 30 → (52 + 4 * q ∈ stL ∧ RR0 51 q = 52 + 4 * q) := by decide +kernel
theorem isSl_of0 : ∀ q, q < 3 → ((202 + 7 * q = 202 ∨ 202 + 7 * q = 209 ∨ 202 + 7 * q = 216) ∧ RR0 172 q = 202 + 7 * q) := by decide +kernel
theorem in178 : ∀ q, q < 6 → (SHl.getD (178 + q) (99, 0) = (20, 3) ∧ RR0 177 q = 178 + q) := by decide +kernel
theorem in189 : ∀ q, q < 6 → (SHl.getD (189 + q) (99, 0) = (20, 13) ∧ RR0 188 q = 189 + q) := by decide +kernel
theorem in196 : ∀ q, q < 6 → (SHl.getD (196 + q) (99, 0) = (20, 13) ∧ RR0 195 q = 196 + q) := by decide +kernel
theorem sh_in178 {q : Nat} (L : Nat) (h : q < 6) : SH L (178 + q) = (20, 3) := by unfold SH; rw [if_neg (by omega)]; exact (in178 q h).1
theorem ok_in178 {L wl dr tx : Nat} {w : Wd} {j : Int} (h : Ok L wl dr tx w) : rdR w 177 j = (rr 6 j).map (fun q => 178 + q) := ok_rdR h ⟨26, by decide, rfl⟩ (fun q hq => ⟨by unfold RR; rw [if_neg (by omega), if_neg (by omega), if_neg (by omega)]; exact (in178 q hq).2, by omega⟩)
theorem sh_in189 {q : Nat} (L : Nat) (h : q < 6) : SH L (189 + q) = (20, 13) := by unfold SH; rw [if_neg (by omega)]; exact (in189 q h).1
theorem ok_in189 {L wl dr tx : Nat} {w : Wd} {j : Int} (h : Ok L wl dr tx w) : rdR w 188 j = (rr 6 j).map (fun q => 189 + q) := ok_rdR h ⟨26, by decide, rfl⟩ (fun q hq => ⟨by unfold RR; rw [if_neg (by omega), if_neg (by omega), if_neg (by omega)]; exact (in189 q hq).2, by omega⟩)
theorem sh_in196 {q : Nat} (L : Nat) (h : q < 6) : SH L (196 + q) = (20, 13) := by unfold SH; rw [if_neg (by omega)]; exact (in196 q h).1
theorem ok_in196 {L wl dr tx : Nat} {w : Wd} {j : Int} (h : Ok L wl dr tx w) : rdR w 195 j = (rr 6 j).map (fun q => 196 + q) := ok_rdR h ⟨26, by decide, rfl⟩ (fun q hq => ⟨by unfold RR; rw [if_neg (by omega), if_neg (by omega), if_neg (by omega)]; exact (in196 q hq).2, by omega⟩)
theorem ok_in52 {L wl dr tx : Nat} {w : Wd} {j : Int} (h : Ok L wl dr tx w) : rdR w 51 j = (rr 30 j).map (fun q => 52 + 4 * q) := ok_rdR h ⟨24, by decide, rfl⟩ (fun q hq => ⟨by unfold RR; rw [if_neg (by omega), if_neg (by omega), if_neg (by omega)]; exact (isSt_kept0 q hq).2, by omega⟩)
theorem ok_in173 {L wl dr tx : Nat} {w : Wd} {j : Int} (h : Ok L wl dr tx w) : rdR w 172 j = (rr 3 j).map (fun q => 202 + 7 * q) := ok_rdR h ⟨25, by decide, rfl⟩ (fun q hq => ⟨by unfold RR; rw [if_neg (by omega), if_neg (by omega), if_neg (by omega)]; exact (isSl_of0 q hq).2, by omega⟩)
theorem isSt_in52 {q : Nat} (h : q < 30) : isSt (52 + 4 * q) := (isSt_kept0 q h).1
theorem isSl_in173 {q : Nat} (h : q < 3) : isSl (202 + 7 * q) := (isSl_of0 q h).1
theorem isSt_40 : isSt 40 := by unfold isSt; decide
theorem isSt_44 : isSt 44 := by unfold isSt; decide
theorem isBk_48 : isBk 48 := by unfold isBk; decide
