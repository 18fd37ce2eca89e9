/-! Level 3, the start: worlds in the making. -/
theorem rrl_row : ∀ a, a < 267 → (20 ≤ (SHl.getD a (99, 0)).1 ∧ (SHl.getD a (99, 0)).1 ≤ 23) → RRl.getD a [] = [] := by decide +kernel
theorem rrl_big : ∀ a, a < 267 → (RRl.getD a []).length ≤ (SHl.getD a (99, 0)).2 := by decide +kernel
theorem len_SH : SHl.length = 267 ∧ RRl.length = 267 := by decide +kernel
theorem st_z : ∀ b ∈ (stL : List Nat), 25 ≤ b ∧ ∀ k, k < 3 → RR0 b k = 0 := by decide +kernel
theorem sh_out {L a : Nat} (h : 267 ≤ a) : SH L a = (99, 0) := by
  unfold SH
  rw [if_neg (by omega), List.getD_eq_getElem?_getD, List.getElem?_eq_none (by rw [len_SH.1]; omega)]
  rfl
theorem rr0_out {a k : Nat} (h : 267 ≤ a) : RR0 a k = 0 := by
  unfold RR0
  have e : RRl.getD a [] = [] := by
    rw [List.getD_eq_getElem?_getD, List.getElem?_eq_none (by rw [len_SH.2]; omega)]
    rfl
  rw [e]
  rfl
theorem sh_lt {L a t m : Nat} (h : SH L a = (t, m)) (ht : t ≠ 99) : a < 267 := by
  by_cases q : a < 267
  · exact q
  · rw [sh_out (by omega)] at h
    have := congrArg Prod.fst h
    exact absurd this.symm ht
def RQ (a k : Nat) : Nat := RR 28 9 26 a k
theorem rr_row {L a t m : Nat} (h : SH L a = (t, m)) (ht : 20 ≤ t ∧ t ≤ 23) (k : Nat) : RQ a k = 0 := by
  have h2 := sh_lt h (by omega)
  have h1 : a ≠ 1 := fun e => by
    subst e
    have := congrArg Prod.fst h
    have : (30 : Nat) = t := this
    omega
  have n6 : a ≠ 6 := fun e => by
    subst e
    have := congrArg Prod.fst h
    have : (11 : Nat) = t := this
    omega
  have n8 : a ≠ 8 := fun e => by
    subst e
    have := congrArg Prod.fst h
    have : (6 : Nat) = t := this
    omega
  have n21 : a ≠ 21 := fun e => by
    subst e
    have := congrArg Prod.fst h
    have : (7 : Nat) = t := this
    omega
  unfold SH at h
  rw [if_neg h1] at h
  have e := rrl_row a h2 (by rw [h]; exact ht)
  unfold RQ RR RR0
  rw [if_neg (by omega), if_neg (by omega), if_neg (by omega), e]
  rfl
theorem rr_big {L a t m k : Nat} (h : SH L a = (t, m)) (h1 : a ≠ 1) (ht : t ≠ 99) (hk : m ≤ k) : RQ a k = 0 := by
  have h2 := sh_lt h ht
  have n6 : ¬ (a = 6 ∧ k = 3) := fun e => by
    obtain ⟨e, e'⟩ := e
    subst e
    have := congrArg Prod.snd h
    have : (12 : Nat) = m := this
    omega
  have n8 : ¬ (a = 8 ∧ k = 1) := fun e => by
    obtain ⟨e, e'⟩ := e
    subst e
    have := congrArg Prod.snd h
    have : (10 : Nat) = m := this
    omega
  have n21 : ¬ (a = 21 ∧ k = 4) := fun e => by
    obtain ⟨e, e'⟩ := e
    subst e
    have := congrArg Prod.snd h
    have : (7 : Nat) = m := this
    omega
  unfold SH at h
  rw [if_neg h1] at h
  have e := rrl_big a h2
  rw [h] at e
  unfold RQ RR RR0
  rw [if_neg n6, if_neg n8, if_neg n21, List.getD_eq_getElem?_getD, List.getElem?_eq_none (Nat.le_trans e hk)]
  rfl
/-- how many elements and fields the cells below n have -/
def sz : Nat → Nat
  | 0 => 0
  | n + 1 => sz n + (SHl.getD n (99, 0)).2
theorem sz_s {L n t m : Nat} (h : SH L n = (t, m)) (h1 : n ≠ 1) : sz (n + 1) = sz n + m := by
  unfold SH at h
  rw [if_neg h1] at h
  show sz n + (SHl.getD n (99, 0)).2 = sz n + m
  rw [h]
/-- the first n cells are made; P is still to be told of their references -/
def PO (L n : Nat) (P : Nat → Nat → Prop) (w : Wd) : Prop := wn w = n ∧ (∀ a, a < n → wsh w a = SH L a) ∧ (∀ a, n ≤ a → wsh w a = (99, 0)) ∧ (∀ a k, a < n → ¬ P a k → wR w a k = RQ a k) ∧ (∀ a k, a < n → P a k → wR w a k = 0) ∧ (∀ a k, n ≤ a → wR w a k = 0) ∧ 6 ≤ n ∧ wz w + sz 6 = sz n
def FN (n : Nat) (w w1 : Wd) : Prop := ∀ a j, a < n → wI w1 a j = wI w a j ∧ wL w1 a j = wL w a j
theorem FN.rf (n : Nat) (w : Wd) : FN n w w := fun _ _ _ => ⟨rfl, rfl⟩
theorem FN.tr {n m : Nat} {w w1 w2 : Wd} (h : FN n w w1) (hn : n ≤ m) (h2 : FN m w1 w2) : FN n w w2 := fun a j ha => ⟨(h2 a j (by omega)).1.trans (h a j ha).1, (h2 a j (by omega)).2.trans (h a j ha).2⟩
section PO
variable {L n : Nat} {P P' : Nat → Nat → Prop} {w w1 : Wd} {β : Type}
theorem po_new {t m : Nat} (h : PO L n P w) (hs : SH L n = (t, m)) : PO L (n + 1) (fun a j => P a j ∨ (a = n ∧ 0 ≤ j)) (nw w t m) := by
  obtain ⟨rfl, h1, h2, h3, h4, h5, h6, h7⟩ := h
  have hq := sz_s hs (by omega)
  refine ⟨rfl, fun a ha => ?_, fun a ha => ?_, fun a k ha hn => ?_, fun a k ha hp => ?_, fun a k ha => ?_, by omega, by show wz w + m + sz 6 = sz (wn w + 1); omega⟩
  · show (if a = wn w then (t, m) else wsh w a) = SH L a
    by_cases e : a = wn w
    · rw [if_pos e, e, hs]
    · rw [if_neg e]; exact h1 a (by omega)
  · show (if a = wn w then (t, m) else wsh w a) = (99, 0)
    rw [if_neg (by omega)]; exact h2 a (by omega)
  · show (if a = wn w then 0 else wR w a k) = RQ a k
    have e : a ≠ wn w := fun e => hn (Or.inr ⟨e, Nat.zero_le _⟩)
    rw [if_neg e]
    exact h3 a k (by omega) (fun q => hn (Or.inl q))
  · show (if a = wn w then 0 else wR w a k) = 0
    by_cases e : a = wn w
    · rw [if_pos e]
    · rw [if_neg e]
      rcases hp with hp | hp
      · exact h4 a k (by omega) hp
      · exact absurd hp.1 e
  · show (if a = wn w then 0 else wR w a k) = 0
    rw [if_neg (by omega)]; exact h5 a k (by omega)
theorem po_row {t m : Nat} (h : PO L n P w) (hs : SH L n = (t, m)) (hz : ∀ j, RQ n j = 0) : PO L (n + 1) P (nw w t m) := by
  obtain ⟨rfl, h1, h2, h3, h4, h5, h6, h7⟩ := h
  have hq := sz_s hs (by omega)
  refine ⟨rfl, fun a ha => ?_, fun a ha => ?_, fun a k ha hn => ?_, fun a k ha hp => ?_, fun a k ha => ?_, by omega, by show wz w + m + sz 6 = sz (wn w + 1); omega⟩
  · show (if a = wn w then (t, m) else wsh w a) = SH L a
    by_cases e : a = wn w
    · rw [if_pos e, e, hs]
    · rw [if_neg e]; exact h1 a (by omega)
  · show (if a = wn w then (t, m) else wsh w a) = (99, 0)
    rw [if_neg (by omega)]; exact h2 a (by omega)
  · show (if a = wn w then 0 else wR w a k) = RQ a k
    by_cases e : a = wn w
    · rw [if_pos e, e, hz]
    · rw [if_neg e]
      exact h3 a k (by omega) hn
  · show (if a = wn w then 0 else wR w a k) = 0
    by_cases e : a = wn w
    · rw [if_pos e]
    · rw [if_neg e]
      exact h4 a k (by omega) hp
  · show (if a = wn w then 0 else wR w a k) = 0
    rw [if_neg (by omega)]; exact h5 a k (by omega)
theorem po_set {a k b : Nat} (h : PO L n P w) (ha : a < n) (hb : RQ a k = b) (hp : ∀ x j, x < n → ¬ (x = a ∧ j = k) → (P' x j ↔ P x j) ∨ RQ x j = 0) (hn : ¬ P' a k) : PO L n P' (sR w a k b) := by
  obtain ⟨h0, h1, h2, h3, h4, h5, h6, h7⟩ := h
  refine ⟨h0, h1, h2, fun x j hx hq => ?_, fun x j hx hq => ?_, fun x j hx => ?_, h6, h7⟩
  · show (if x = a ∧ j = k then b else wR w x j) = RQ x j
    by_cases e : x = a ∧ j = k
    · rw [if_pos e, e.1, e.2, hb]
    · rw [if_neg e]
      rcases hp x j hx e with q | q
      · exact h3 x j hx (fun y => hq (q.mpr y))
      · by_cases y : P x j
        · rw [h4 x j hx y, q]
        · exact h3 x j hx y
  · show (if x = a ∧ j = k then b else wR w x j) = 0
    have e : ¬ (x = a ∧ j = k) := fun e => hn (by rw [← e.1, ← e.2]; exact hq)
    rw [if_neg e]
    rcases hp x j hx e with q | q
    · exact h4 x j hx (q.mp hq)
    · by_cases y : P x j
      · exact h4 x j hx y
      · rw [h3 x j hx y, q]
  · show (if x = a ∧ j = k then b else wR w x j) = 0
    rw [if_neg (by omega)]; exact h5 x j hx
theorem po_close {x f : Nat} (h : PO L n (fun y j => P y j ∨ (y = x ∧ f ≤ j)) w) (hx : ∀ j, f ≤ j → RQ x j = 0) : PO L n P w := by
  obtain ⟨h0, h1, h2, h3, h4, h5, h6⟩ := h
  refine ⟨h0, h1, h2, fun y j hy hq => ?_, fun y j hy hq => h4 y j hy (Or.inl hq), h5, h6⟩
  by_cases e : y = x ∧ f ≤ j
  · rw [h4 y j hy (Or.inr e), e.1, hx j e.2]
  · exact h3 y j hy (fun q => by
      rcases q with q | q
      · exact hq q
      · exact e q)
theorem po_sm (h : PO L n P w) (hm : Sm w w1) (hn : wn w1 = wn w) (hz : wz w1 = wz w) : PO L n P w1 := by
  obtain ⟨h0, h1, h2, h3, h4, h5, h6, h7⟩ := h
  refine ⟨hn.trans h0, ?_, ?_, ?_, ?_, ?_, h6, by rw [hz]; exact h7⟩
  · rw [hm.1]; exact h1
  · rw [hm.1]; exact h2
  · rw [hm.2]; exact h3
  · rw [hm.2]; exact h4
  · rw [hm.2]; exact h5
theorem PO.sI {a k : Nat} {z : Int} (h : PO L n P w) : PO L n P (_root_.Jvm.Pilot.@@N@@.sI w a k z) := po_sm h ⟨rfl, rfl⟩ rfl rfl
theorem PO.sL {a k : Nat} {z : Int} (h : PO L n P w) : PO L n P (_root_.Jvm.Pilot.@@N@@.sL w a k z) := po_sm h ⟨rfl, rfl⟩ rfl rfl
theorem PO.at {a c m : Nat} (h : PO L n P w) (ha : a < n) (hs : SH L a = (c, m)) : wsh w a = (c, m) := (h.2.1 a ha).trans hs
theorem PO.rf {a k b : Nat} (h : PO L n P w) (ha : a < n) (hn : ¬ P a k) (hr : RQ a k = b) : wR w a k = b := (h.2.2.2.1 a k ha hn).trans hr
/-! the steps -/
theorem x_gd {a c m : Nat} {x : Option β} {Q : β → Prop} (h : wsh w a = (c, m)) (kk : Wp x Q) : Wp (gd c w a x) Q := by unfold gd; rw [h, if_pos rfl]; exact kk
theorem x_tg {a c m : Nat} {F : Unit → Option β} {Q : β → Prop} (h : wsh w a = (c, m)) (kk : Wp (F ()) Q) : Wp ((tgd w a c).bind F) Q := wp_eq (by unfold tgd; rw [h, if_pos rfl]) kk
theorem x_gI {a c m k : Nat} {F : Int → Option β} {Q : β → Prop} (h : wsh w a = (c, m)) (kk : Wp (F (wI w a k)) Q) : Wp ((fgI w a c k).bind F) Q := wp_eq (by unfold fgI; rw [h, if_pos rfl]) kk
theorem x_gR {a c m k b : Nat} {F : Nat → Option β} {Q : β → Prop} (h : wsh w a = (c, m)) (hr : wR w a k = b) (h0 : b ≠ 0) (kk : Wp (F b) Q) : Wp ((fgR w a c k).bind F) Q := wp_eq (by unfold fgR; rw [h, hr, if_pos ⟨rfl, h0⟩]) kk
theorem x_pI {a c m k : Nat} {z : Int} {F : Wd → Option β} {Q : β → Prop} (h : wsh w a = (c, m)) (kk : Wp (F (sI w a k z)) Q) : Wp ((fpI w a c k z).bind F) Q := wp_eq (by unfold fpI; rw [h, if_pos rfl]) kk
theorem x_pZ {a c m k : Nat} {z : Int} {F : Wd → Option β} {Q : β → Prop} (h : wsh w a = (c, m)) (hz : z = 0 ∨ z = 1) (kk : Wp (F (sI w a k z)) Q) : Wp ((fpZ w a c k z).bind F) Q := wp_eq (by unfold fpZ; rw [h, if_pos ⟨rfl, hz⟩]) kk
theorem x_pL {a c m k : Nat} {z : Int} {F : Wd → Option β} {Q : β → Prop} (h : wsh w a = (c, m)) (kk : Wp (F (sL w a k z)) Q) : Wp ((fpL w a c k z).bind F) Q := wp_eq (by unfold fpL; rw [h, if_pos rfl]) kk
theorem x_wI {a m : Nat} {j z : Int} {F : Wd → Option β} {Q : β → Prop} (h : wsh w a = (20, m)) (hj : 0 ≤ j ∧ j < (m : Int)) (kk : Wp (F (sI w a j.toNat z)) Q) : Wp ((wrI w a j z).bind F) Q := wp_eq (by unfold wrI; rw [h, if_pos ⟨rfl, hj⟩]) kk
theorem x_wL {a m : Nat} {j z : Int} {F : Wd → Option β} {Q : β → Prop} (h : wsh w a = (22, m)) (hj : 0 ≤ j ∧ j < (m : Int)) (kk : Wp (F (sL w a j.toNat z)) Q) : Wp ((wrL w a j z).bind F) Q := wp_eq (by unfold wrL; rw [h, if_pos ⟨rfl, hj⟩]) kk
theorem x_rL {a m : Nat} {j : Int} {F : Int → Option β} {Q : β → Prop} (h : wsh w a = (22, m)) (hj : 0 ≤ j ∧ j < (m : Int)) (kk : Wp (F (wL w a j.toNat)) Q) : Wp ((rdL w a j).bind F) Q := wp_eq (by unfold rdL; rw [h, if_pos ⟨rfl, hj⟩]) kk
theorem x_al {a t m : Nat} {F : Int → Option β} {Q : β → Prop} (h : wsh w a = (t, m)) (ht : t ∈ tgs) (kk : Wp (F (m : Int)) Q) : Wp ((aln w a).bind F) Q := wp_eq (by unfold aln; rw [h, if_pos ht]) kk
theorem x_rB {a m : Nat} {j : Int} {F : Int → Option β} {Q : β → Prop} (h : wsh w a = (31, m)) (hj : 0 ≤ j ∧ j < (m : Int)) (kk : Wp (F (wI w a j.toNat)) Q) : Wp ((rdB w a j).bind F) Q := wp_eq (by unfold rdB; rw [h, if_pos ⟨Or.inr (Or.inr (Or.inl rfl)), hj⟩]) kk
theorem x_cp {a b na nb : Nat} {i j m : Int} {F : Wd → Option β} {Q : β → Prop} (h : wsh w a = (20, na)) (h2 : wsh w b = (20, nb)) (hj : 0 ≤ i ∧ 0 ≤ j ∧ 0 ≤ m ∧ i + m ≤ (na : Int) ∧ j + m ≤ (nb : Int)) (kk : Wp (F (cpI w a i.toNat b j.toNat m.toNat)) Q) : Wp ((cpyI w a i b j m).bind F) Q := wp_eq (by unfold cpyI; rw [h, h2, if_pos ⟨rfl, rfl, hj⟩]) kk
/-- a reference is told -/
theorem q_set {x f k c m b c' m' : Nat} {F : Wd → Option β} {Q : β → Prop} (h : PO L n (fun y j => P y j ∨ (y = x ∧ f ≤ j)) w) (hx : x < n) (hc : SH L x = (c, m)) (hb : b < n) (hbs : SH L b = (c', m')) (h9 : c' ≠ 99) (hk : RQ x k = b) (hj : ∀ j, f ≤ j → j < k → RQ x j = 0) (hf : f ≤ k) (hP : ∀ y j, P y j → y ≠ x) (kk : ∀ w1, PO L n (fun y j => P y j ∨ (y = x ∧ k + 1 ≤ j)) w1 → (∀ a j, wI w1 a j = wI w a j ∧ wL w1 a j = wL w a j) → Wp (F w1) Q) : Wp ((fpR w x c k b).bind F) Q := by
  refine wp_eq (x := sR w x k b) ?_ (kk _ (po_set h hx hk (fun y j hy hn => ?_) (fun q => ?_)) (fun a j => ⟨rfl, rfl⟩))
  · unfold fpR
    rw [h.at hx hc, h.at hb hbs, if_pos ⟨rfl, h9⟩]
  · by_cases e : y = x
    · by_cases e1 : f ≤ j
      · by_cases e2 : j < k
        · right
          rw [e]; exact hj j e1 e2
        · left
          exact ⟨fun _ => Or.inr ⟨e, e1⟩, fun _ => Or.inr ⟨e, by omega⟩⟩
      · left
        refine ⟨fun q => ?_, fun q => ?_⟩
        · rcases q with q | q
          · exact Or.inl q
          · omega
        · rcases q with q | q
          · exact Or.inl q
          · omega
    · left
      refine ⟨fun q => ?_, fun q => ?_⟩
      · rcases q with q | q
        · exact Or.inl q
        · exact absurd q.1 e
      · rcases q with q | q
        · exact Or.inl q
        · exact absurd q.1 e
  · rcases q with q | q
    · exact hP _ _ q rfl
    · omega
/-- a row is made, and told -/
theorem q_row {x f k t m c m' : Nat} {z : Int} {F : Wd → Option β} {Q : β → Prop} (h : PO L n (fun y j => P y j ∨ (y = x ∧ f ≤ j)) w) (hx : x < n) (hc : SH L x = (c, m')) (hs : SH L n = (t, m)) (ht : 20 ≤ t ∧ t ≤ 23) (hz : z.toNat = m ∧ 0 ≤ z ∧ z ≤ 1000000) (hP : ∀ y j, P y j → y ≠ x) (hk : RQ x k = n) (hj : ∀ j, f ≤ j → j < k → RQ x j = 0) (hf : f ≤ k) (kk : ∀ w1, PO L (n + 1) (fun y j => P y j ∨ (y = x ∧ k + 1 ≤ j)) w1 → FN n w w1 → (∀ j, wI w1 n j = 0 ∧ wL w1 n j = 0) → Wp (F w1) Q) : Wp ((nwA w t z).bind fun w8 => (fpR w8 x c k (wn w)).bind F) Q := by
  have e : nwA w t z = some (nw w t m) := by unfold nwA; rw [if_pos hz.2, hz.1]
  have hn := h.1
  have h1 := po_row h hs (fun j => rr_row hs ht j)
  refine wp_eq e ?_
  rw [hn]
  refine q_set h1 (by omega) hc (by omega) hs (by omega) hk hj hf hP (fun w1 g1 g2 => kk w1 g1 (fun a j ha => ?_) (fun j => ?_))
  · rw [(g2 a j).1, (g2 a j).2]
    show (if a = wn w then 0 else wI w a j) = _ ∧ (if a = wn w then 0 else wL w a j) = _
    rw [if_neg (by omega), if_neg (by omega)]
    exact ⟨rfl, rfl⟩
  · rw [(g2 n j).1, (g2 n j).2]
    show (if n = wn w then 0 else wI w n j) = _ ∧ (if n = wn w then 0 else wL w n j) = _
    rw [if_pos hn.symm, if_pos hn.symm]
    exact ⟨rfl, rfl⟩
/-- an object is made -/
theorem q_new {t m : Nat} (h : PO L n P w) (hs : SH L n = (t, m)) : PO L (n + 1) (fun a j => P a j ∨ (a = n ∧ 0 ≤ j)) (nw w t m) ∧ FN n w (nw w t m) ∧ ∀ j, wI (nw w t m) n j = 0 ∧ wL (nw w t m) n j = 0 := by
  have hn := h.1
  refine ⟨po_new h hs, fun a j ha => ?_, fun j => ?_⟩
  · show (if a = wn w then 0 else wI w a j) = _ ∧ (if a = wn w then 0 else wL w a j) = _
    rw [if_neg (by omega), if_neg (by omega)]
    exact ⟨rfl, rfl⟩
  · show (if n = wn w then 0 else wI w n j) = _ ∧ (if n = wn w then 0 else wL w n j) = _
    rw [if_pos hn.symm, if_pos hn.symm]
    exact ⟨rfl, rfl⟩
end PO
