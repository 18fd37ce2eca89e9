/-! Level 3, its tools: what a partial function brings about. -/
def Wp {α : Type} (o : Option α) (Q : α → Prop) : Prop := ∃ r, o = some r ∧ Q r
theorem w32_id {z : Int} (h : -2147483648 ≤ z) (h2 : z < 2147483648) : w32 z = z := by
  unfold w32
  exact Int.bmod_eq_of_le (by omega) (by omega)
section WP
variable {α β : Type} {Q : β → Prop} {o : Option α} {f : α → Option β} {x : α}
theorem wp_ret {r : β} (h : Q r) : Wp (some r) Q := ⟨r, rfl, h⟩
theorem wp_call {P : α → Prop} (h : Wp o P) (k : ∀ r, P r → Wp (f r) Q) : Wp (o.bind f) Q := by
  obtain ⟨r, rfl, hr⟩ := h
  exact k r hr
theorem wp_use {p : Option β} {P : β → Prop} (h : Wp p P) (k : ∀ r, P r → Q r) : Wp p Q := by
  obtain ⟨r, h1, hr⟩ := h
  exact ⟨r, h1, k r hr⟩
theorem wp_eq (h : o = some x) (k : Wp (f x) Q) : Wp (o.bind f) Q := by rw [h]; exact k
theorem wp_is {p : Option β} {r : β} (h : p = some r) (k : Q r) : Wp p Q := ⟨r, h, k⟩
theorem wp_out {p : Option β} {r : β} (h : Wp p (fun q => q = r)) : p = some r := by
  obtain ⟨q, h1, rfl⟩ := h
  exact h1
theorem wp_ite {c : Prop} [Decidable c] {A B : Option β} (h1 : c → Wp A Q) (h2 : ¬ c → Wp B Q) : Wp (if c then A else B) Q := by
  by_cases hc : c
  · rw [if_pos hc]; exact h1 hc
  · rw [if_neg hc]; exact h2 hc
theorem wp_pos {c : Prop} [Decidable c] {A B : Option β} (hc : c) (h1 : Wp A Q) : Wp (if c then A else B) Q := by rw [if_pos hc]; exact h1
theorem wp_neg {c : Prop} [Decidable c] {A B : Option β} (hc : ¬ c) (h1 : Wp B Q) : Wp (if c then A else B) Q := by rw [if_neg hc]; exact h1
end WP
section WQ
variable {L wl dr tx a b c k n na nb : Nat} {i j z m : Int} {w : Wd} {β : Type} {Q : β → Prop}
theorem wp_gd {x : Option β} (h : Ok L wl dr tx w) (hs : SH L a = (c, n)) (kk : Wp x Q) : Wp (gd c w a x) Q := by rw [ok_gd h (by rw [hs])]; exact kk
theorem wp_gI {f : Int → Option β} (h : Ok L wl dr tx w) (hs : SH L a = (c, n)) (kk : Wp (f (wI w a k)) Q) : Wp ((fgI w a c k).bind f) Q := wp_eq (ok_fgI h (by rw [hs])) kk
theorem wp_gL {f : Int → Option β} (h : Ok L wl dr tx w) (hs : SH L a = (c, n)) (kk : Wp (f (wL w a k)) Q) : Wp ((fgL w a c k).bind f) Q := wp_eq (ok_fgL h (by rw [hs])) kk
theorem wp_gR {f : Nat → Option β} (h : Ok L wl dr tx w) (hs : SH L a = (c, n)) (hr : RR wl dr tx a k = b) (h0 : b ≠ 0) (kk : Wp (f b) Q) : Wp ((fgR w a c k).bind f) Q := wp_eq (ok_fgR h (by rw [hs]) hr h0) kk
theorem wp_pI {f : Wd → Option β} (h : Ok L wl dr tx w) (hs : SH L a = (c, n)) (kk : Wp (f (sI w a k z)) Q) : Wp ((fpI w a c k z).bind f) Q := wp_eq (ok_fpI h (by rw [hs])) kk
theorem wp_pZ {f : Wd → Option β} (h : Ok L wl dr tx w) (hs : SH L a = (c, n)) (hz : z = 0 ∨ z = 1) (kk : Wp (f (sI w a k z)) Q) : Wp ((fpZ w a c k z).bind f) Q := wp_eq (ok_fpZ h (by rw [hs]) hz) kk
theorem wp_pL {f : Wd → Option β} (h : Ok L wl dr tx w) (hs : SH L a = (c, n)) (kk : Wp (f (sL w a k z)) Q) : Wp ((fpL w a c k z).bind f) Q := wp_eq (ok_fpL h (by rw [hs])) kk
theorem wp_rI {f : Int → Option β} (h : Ok L wl dr tx w) (hs : SH L a = (20, n)) (hj : 0 ≤ j ∧ j < (n : Int)) (kk : Wp (f (wI w a j.toNat)) Q) : Wp ((rdI w a j).bind f) Q := wp_eq ((ok_rdI h hs).trans (if_pos hj)) kk
theorem wp_rB {f : Int → Option β} (h : Ok L wl dr tx w) (hs : SH L a = (21, n)) (hj : 0 ≤ j ∧ j < (n : Int)) (kk : Wp (f (wI w a j.toNat)) Q) : Wp ((rdB w a j).bind f) Q := wp_eq ((ok_rdB h hs).trans (if_pos hj)) kk
theorem wp_rZ {f : Int → Option β} (h : Ok L wl dr tx w) (hs : SH L a = (23, n)) (hj : 0 ≤ j ∧ j < (n : Int)) (kk : Wp (f (wI w a j.toNat)) Q) : Wp ((rdB w a j).bind f) Q := wp_eq ((ok_rdZ h hs).trans (if_pos hj)) kk
theorem wp_rL {f : Int → Option β} (h : Ok L wl dr tx w) (hs : SH L a = (22, n)) (hj : 0 ≤ j ∧ j < (n : Int)) (kk : Wp (f (wL w a j.toNat)) Q) : Wp ((rdL w a j).bind f) Q := wp_eq ((ok_rdL h hs).trans (if_pos hj)) kk
theorem wp_wI {f : Wd → Option β} (h : Ok L wl dr tx w) (hs : SH L a = (20, n)) (hj : 0 ≤ j ∧ j < (n : Int)) (kk : Wp (f (sI w a j.toNat z)) Q) : Wp ((wrI w a j z).bind f) Q := wp_eq ((ok_wrI h hs).trans (if_pos hj)) kk
theorem wp_wB {f : Wd → Option β} (h : Ok L wl dr tx w) (hs : SH L a = (21, n)) (hj : 0 ≤ j ∧ j < (n : Int)) (kk : Wp (f (sI w a j.toNat (n8 z))) Q) : Wp ((wrB w a j z).bind f) Q := wp_eq ((ok_wrB h hs).trans (if_pos hj)) kk
theorem wp_wZ {f : Wd → Option β} (h : Ok L wl dr tx w) (hs : SH L a = (23, n)) (hj : 0 ≤ j ∧ j < (n : Int)) (hz : z = 0 ∨ z = 1) (kk : Wp (f (sI w a j.toNat z)) Q) : Wp ((wrB w a j z).bind f) Q := wp_eq ((ok_wrZ h hs).trans (if_pos ⟨hj, hz⟩)) kk
theorem wp_wL {f : Wd → Option β} (h : Ok L wl dr tx w) (hs : SH L a = (22, n)) (hj : 0 ≤ j ∧ j < (n : Int)) (kk : Wp (f (sL w a j.toNat z)) Q) : Wp ((wrL w a j z).bind f) Q := wp_eq ((ok_wrL h hs).trans (if_pos hj)) kk
theorem wp_cp {f : Wd → Option β} (h : Ok L wl dr tx w) (hs : SH L a = (20, na)) (hs2 : SH L b = (20, nb)) (hj : 0 ≤ i ∧ 0 ≤ j ∧ 0 ≤ m ∧ i + m ≤ (na : Int) ∧ j + m ≤ (nb : Int)) (kk : Wp (f (cpI w a i.toNat b j.toNat m.toNat)) Q) : Wp ((cpyI w a i b j m).bind f) Q := wp_eq ((ok_cpyI h hs hs2).trans (if_pos hj)) kk
theorem wp_cpL {f : Wd → Option β} (h : Ok L wl dr tx w) (hs : SH L a = (22, na)) (hs2 : SH L b = (22, nb)) (hj : 0 ≤ i ∧ 0 ≤ j ∧ 0 ≤ m ∧ i + m ≤ (na : Int) ∧ j + m ≤ (nb : Int)) (kk : Wp (f (cpL w a i.toNat b j.toNat m.toNat)) Q) : Wp ((cpyL w a i b j m).bind f) Q := wp_eq ((ok_cpyL h hs hs2).trans (if_pos hj)) kk
theorem wp_al {f : Int → Option β} {t : Nat} (h : Ok L wl dr tx w) (hs : SH L a = (t, n)) (ht : t ∈ tgs) (kk : Wp (f (n : Int)) Q) : Wp ((aln w a).bind f) Q := wp_eq (ok_aln h hs ht) kk
theorem wp_178 {f : Nat → Option β} (h : Ok L wl dr tx w) (hj : 0 ≤ j ∧ j < 6) (kk : Wp (f (178 + j.toNat)) Q) : Wp ((rdR w 177 j).bind f) Q := wp_eq ((ok_in178 h).trans (by unfold rr; rw [if_pos (by omega)]; rfl)) kk
theorem wp_189 {f : Nat → Option β} (h : Ok L wl dr tx w) (hj : 0 ≤ j ∧ j < 6) (kk : Wp (f (189 + j.toNat)) Q) : Wp ((rdR w 188 j).bind f) Q := wp_eq ((ok_in189 h).trans (by unfold rr; rw [if_pos (by omega)]; rfl)) kk
theorem wp_196 {f : Nat → Option β} (h : Ok L wl dr tx w) (hj : 0 ≤ j ∧ j < 6) (kk : Wp (f (196 + j.toNat)) Q) : Wp ((rdR w 195 j).bind f) Q := wp_eq ((ok_in196 h).trans (by unfold rr; rw [if_pos (by omega)]; rfl)) kk
theorem wp_52 {f : Nat → Option β} (h : Ok L wl dr tx w) (hj : 0 ≤ j ∧ j < 30) (kk : Wp (f (52 + 4 * j.toNat)) Q) : Wp ((rdR w 51 j).bind f) Q := wp_eq ((ok_in52 h).trans (by unfold rr; rw [if_pos (by omega)]; rfl)) kk
theorem wp_173 {f : Nat → Option β} (h : Ok L wl dr tx w) (hj : 0 ≤ j ∧ j < 3) (kk : Wp (f (202 + 7 * j.toNat)) Q) : Wp ((rdR w 172 j).bind f) Q := wp_eq ((ok_in173 h).trans (by unfold rr; rw [if_pos (by omega)]; rfl)) kk
theorem wp_idv {f : Int → Option β} (h : j ≠ 0) (kk : Wp (f (w32 (i.tdiv j))) Q) : Wp ((idv i j).bind f) Q := wp_eq (if_pos h) kk
theorem wp_irm {f : Int → Option β} (h : j ≠ 0) (kk : Wp (f (i.tmod j)) Q) : Wp ((irm i j).bind f) Q := wp_eq (if_pos h) kk
theorem wp_rZr {Q : Int × Wd → Prop} (h : z = 0 ∨ z = 1) (kk : Q (z, w)) : Wp (rZ z w) Q := ⟨_, if_pos h, kk⟩
end WQ
/-- what lies outside P stays -/
def Fr (P : Nat → Nat → Prop) (w w1 : Wd) : Prop := Sm w w1 ∧ wn w1 = wn w ∧ wz w1 = wz w ∧ wL w1 = wL w ∧ ∀ a k, ¬ P a k → wI w1 a k = wI w a k
theorem Fr.rf {P : Nat → Nat → Prop} (w : Wd) : Fr P w w := ⟨Sm.rf w, rfl, rfl, rfl, fun _ _ _ => rfl⟩
theorem Fr.tr {P : Nat → Nat → Prop} {w w1 w2 : Wd} (h : Fr P w w1) (h2 : Fr P w1 w2) : Fr P w w2 :=
  ⟨h.1.trans h2.1, h2.2.1.trans h.2.1, h2.2.2.1.trans h.2.2.1, h2.2.2.2.1.trans h.2.2.2.1, fun a k hk => (h2.2.2.2.2 a k hk).trans (h.2.2.2.2 a k hk)⟩
theorem Fr.mono {P R : Nat → Nat → Prop} {w w1 : Wd} (h : Fr P w w1) (hs : ∀ a k, P a k → R a k) : Fr R w w1 := ⟨h.1, h.2.1, h.2.2.1, h.2.2.2.1, fun a k hk => h.2.2.2.2 a k (fun q => hk (hs a k q))⟩
theorem Fr.at {P : Nat → Nat → Prop} {w w1 : Wd} (h : Fr P w w1) (a k : Nat) (hn : ¬ P a k) : wI w1 a k = wI w a k := h.2.2.2.2 a k hn
theorem Fr.ok {P : Nat → Nat → Prop} {w w1 : Wd} {L wl dr tx : Nat} (h : Fr P w w1) (hO : Ok L wl dr tx w) : Ok L wl dr tx w1 := hO.sm h.1
theorem wI_sI (w : Wd) (a k b j : Nat) (z : Int) : wI (sI w a k z) b j = if b = a ∧ j = k then z else wI w b j := rfl
theorem wI_eq (w : Wd) (a k : Nat) (z : Int) : wI (sI w a k z) a k = z := if_pos ⟨rfl, rfl⟩
theorem wI_ne {w : Wd} {a k b j : Nat} {z : Int} (h : b ≠ a ∨ j ≠ k) : wI (sI w a k z) b j = wI w b j := if_neg (fun q => by omega)
theorem fr_sI {P : Nat → Nat → Prop} {w : Wd} {a k : Nat} {z : Int} (h : P a k) : Fr P w (sI w a k z) :=
  ⟨⟨rfl, rfl⟩, rfl, rfl, rfl, fun b j hb => if_neg (fun q => hb (by rw [q.1, q.2]; exact h))⟩
theorem Fr.sI {P : Nat → Nat → Prop} {w w1 : Wd} {a k : Nat} {z : Int} (h : Fr P w w1) (hp : P a k) : Fr P w (_root_.Jvm.Pilot.@@N@@.sI w1 a k z) := h.tr (fr_sI hp)
theorem fr_cpI {P : Nat → Nat → Prop} {w : Wd} {a i b j n : Nat} (h : ∀ k, j ≤ k → k < j + n → P b k) : Fr P w (cpI w a i b j n) :=
  ⟨⟨rfl, rfl⟩, rfl, rfl, rfl, fun c q hb => if_neg (fun p => hb (by obtain ⟨rfl, p2, p3⟩ := p; exact h q p2 p3))⟩
theorem Fr.cpI {P : Nat → Nat → Prop} {w w1 : Wd} {a i b j n : Nat} (h : Fr P w w1) (hp : ∀ k, j ≤ k → k < j + n → P b k) : Fr P w (_root_.Jvm.Pilot.@@N@@.cpI w1 a i b j n) := h.tr (fr_cpI hp)
theorem wI_cp {w : Wd} {a i b j n c k : Nat} (h : c ≠ b ∨ k < j ∨ j + n ≤ k) : wI (cpI w a i b j n) c k = wI w c k := if_neg (fun q => by omega)
theorem wI_cpe {w : Wd} {a i b j n k : Nat} (h : j ≤ k) (h2 : k < j + n) : wI (cpI w a i b j n) b k = wI w a (i + (k - j)) := if_pos ⟨rfl, h, h2⟩
/-- what lies outside P stays, longs too -/
def Fb (P : Nat → Nat → Prop) (w w1 : Wd) : Prop := Sm w w1 ∧ wn w1 = wn w ∧ wz w1 = wz w ∧ (∀ a k, ¬ P a k → wL w1 a k = wL w a k) ∧ ∀ a k, ¬ P a k → wI w1 a k = wI w a k
theorem Fr.fb {P : Nat → Nat → Prop} {w w1 : Wd} (h : Fr P w w1) : Fb P w w1 := ⟨h.1, h.2.1, h.2.2.1, fun a k _ => by rw [h.2.2.2.1], h.2.2.2.2⟩
theorem Fb.rf {P : Nat → Nat → Prop} (w : Wd) : Fb P w w := (Fr.rf w).fb
theorem Fb.tr {P : Nat → Nat → Prop} {w w1 w2 : Wd} (h : Fb P w w1) (h2 : Fb P w1 w2) : Fb P w w2 :=
  ⟨h.1.trans h2.1, h2.2.1.trans h.2.1, h2.2.2.1.trans h.2.2.1, fun a k hk => (h2.2.2.2.1 a k hk).trans (h.2.2.2.1 a k hk), fun a k hk => (h2.2.2.2.2 a k hk).trans (h.2.2.2.2 a k hk)⟩
theorem Fb.mono {P R : Nat → Nat → Prop} {w w1 : Wd} (h : Fb P w w1) (hs : ∀ a k, P a k → R a k) : Fb R w w1 := ⟨h.1, h.2.1, h.2.2.1, fun a k hk => h.2.2.2.1 a k (fun q => hk (hs a k q)), fun a k hk => h.2.2.2.2 a k (fun q => hk (hs a k q))⟩
theorem Fb.at {P : Nat → Nat → Prop} {w w1 : Wd} (h : Fb P w w1) (a k : Nat) (hn : ¬ P a k) : wI w1 a k = wI w a k := h.2.2.2.2 a k hn
theorem Fb.l {P : Nat → Nat → Prop} {w w1 : Wd} (h : Fb P w w1) (a k : Nat) (hn : ¬ P a k) : wL w1 a k = wL w a k := h.2.2.2.1 a k hn
theorem Fb.ok {P : Nat → Nat → Prop} {w w1 : Wd} {L wl dr tx : Nat} (h : Fb P w w1) (hO : Ok L wl dr tx w) : Ok L wl dr tx w1 := hO.sm h.1
theorem fb_sI {P : Nat → Nat → Prop} {w w1 : Wd} {a k : Nat} {z : Int} (h : Fb P w w1) (hp : P a k) : Fb P w (sI w1 a k z) := h.tr (fr_sI hp).fb
theorem fb_sL {P : Nat → Nat → Prop} {w : Wd} {a k : Nat} {z : Int} (h : P a k) : Fb P w (sL w a k z) :=
  ⟨⟨rfl, rfl⟩, rfl, rfl, fun b j hb => if_neg (fun q => hb (by rw [q.1, q.2]; exact h)), fun _ _ _ => rfl⟩
theorem fb_cpL {P : Nat → Nat → Prop} {w : Wd} {a i b j n : Nat} (h : ∀ k, j ≤ k → k < j + n → P b k) : Fb P w (cpL w a i b j n) :=
  ⟨⟨rfl, rfl⟩, rfl, rfl, fun c q hb => if_neg (fun p => hb (by obtain ⟨rfl, p2, p3⟩ := p; exact h q p2 p3)), fun _ _ _ => rfl⟩
theorem fr_l {P : Nat → Nat → Prop} {w w1 : Wd} (h : Fr P w w1) (a k : Nat) : wL w1 a k = wL w a k := by rw [h.2.2.2.1]
theorem wL_cpe {w : Wd} {a i b j n k : Nat} (h : j ≤ k) (h2 : k < j + n) : wL (cpL w a i b j n) b k = wL w a (i + (k - j)) := if_pos ⟨rfl, h, h2⟩
theorem wL_sLe (w : Wd) (a k : Nat) (z : Int) : wL (sL w a k z) a k = z := if_pos ⟨rfl, rfl⟩
