/-! Level 3, the start: the reference is made. -/
def ap7 (x c : Int) : Int := if c = 0 then x else w64 (w64 (27 * x) + w32 (w32 (c - 97) + 1))
def wd7 (a b c d e f g : Int) : Int := ap7 (ap7 (ap7 (ap7 (ap7 (ap7 (ap7 0 a) b) c) d) e) f) g
def ZN (n : Nat) (b w : Wd) : Prop := (∀ a j, a < 224 → wI w a j = wI b a j ∧ wL w a j = wL b a j) ∧ ∀ a j, 224 ≤ a → a < n → wI w a j = 0
section MM
variable {L n : Nat} {w w1 b : Wd} {β : Type}
theorem m_ap7 (x c : Int) : Mo_appends x c w = some (ap7 x c, w) := by
  unfold Mo_appends Mo_appends_0 Mo_appends_21 ap7
  by_cases h : c = 0
  · rw [if_pos h, if_pos h]
  · rw [if_neg h, if_neg h]
theorem m_wd7 (a b c d e f g : Int) : Mo_word a b c d e f g w = some (wd7 a b c d e f g, w) := by
  refine wp_out ?_
  unfold Mo_word Mo_word_0
  exact wp_eq (m_ap7 _ _) (wp_eq (m_ap7 _ _) (wp_eq (m_ap7 _ _) (wp_eq (m_ap7 _ _) (wp_eq (m_ap7 _ _) (wp_eq (m_ap7 _ _) (wp_eq (m_ap7 _ _) (wp_ret rfl)))))))
theorem q_rowM {f k t m : Nat} {z : Int} {F : Wd → Option β} {Q : β → Prop} (h : PO L n (fun y j => False ∨ (y = 223 ∧ f ≤ j)) w) (hb : ZN n b w) (hn : 224 ≤ n) (hs : SH L n = (t, m)) (ht : 20 ≤ t ∧ t ≤ 23) (hz : z.toNat = m ∧ 0 ≤ z ∧ z ≤ 1000000) (hk : RQ 223 k = n) (hj : ∀ j, j < k → f ≤ j → RQ 223 j = 0) (hf : f ≤ k) (kk : ∀ w1, PO L (n + 1) (fun y j => False ∨ (y = 223 ∧ k + 1 ≤ j)) w1 → ZN (n + 1) b w1 → Wp (F w1) Q) : Wp ((nwA w t z).bind fun w8 => (fpR w8 223 12 k (wn w)).bind F) Q := by
  refine q_row (P := fun _ _ => False) h (by omega) (m' := 68) rfl hs ht hz (fun _ _ q => q.elim) hk (fun j q1 q2 => hj j q2 q1) hf (fun w1 h1 f1 z1 => kk w1 h1 ⟨fun a j ha => ?_, fun a j h1 h2 => ?_⟩)
  · exact ⟨(f1 a j (by omega)).1.trans (hb.1 a j ha).1, (f1 a j (by omega)).2.trans (hb.1 a j ha).2⟩
  · by_cases e : a = n
    · rw [e]; exact (z1 j).1
    · exact (f1 a j (by omega)).1.trans (hb.2 a j h1 (by omega))
theorem po_ok (h : PO L 267 (fun _ _ => False) w) : Ok L 28 9 26 w := by
  obtain ⟨h0, h1, h2, h3, h4, h5, -⟩ := h
  refine ⟨funext (fun a => ?_), funext (fun a => funext (fun k => ?_))⟩
  · by_cases e : a < 267
    · exact h1 a e
    · rw [h2 a (by omega), sh_out (by omega)]
  · by_cases e : a < 267
    · exact h3 a k e id
    · rw [h5 a k (by omega)]
      unfold RR
      rw [if_neg (by omega), if_neg (by omega), if_neg (by omega), rr0_out (by omega)]
def KEY (k : Nat) (w : Wd) : Prop := ∀ j, j < k → wL w 230 j = ky j
def FKy (w w1 : Wd) : Prop := FL (fun _ _ => False) (fun a _ => a = 230) w w1
theorem m_key {k : Nat} {x0 x1 x2 x3 x4 x5 x6 y : Int} {F : Wd → Option β} {Q : β → Prop} (hO : Ok L 28 9 26 w) (hK : KEY k w) (hF : FKy b w) (hw : wd7 x0 x1 x2 x3 x4 x5 x6 = ky k) (hy : y = (k : Int)) (hk : k < 17) (kk : ∀ w1, Ok L 28 9 26 w1 → KEY (k + 1) w1 → FKy b w1 → Wp (F w1) Q) : Wp ((fgR w 223 12 9).bind fun v => (Mo_word x0 x1 x2 x3 x4 x5 x6 w).bind fun r => (wrL r.2 v y r.1).bind F) Q := by
  subst hy
  refine wp_R12_9 hO (wp_eq (m_wd7 _ _ _ _ _ _ _) ?_)
  show Wp ((wrL w 230 (k : Int) (wd7 x0 x1 x2 x3 x4 x5 x6)).bind F) Q
  rw [hw]
  refine wp_wL hO rfl (by omega) (kk _ hO.sL (fun j hj => ?_) (hF.sL rfl))
  rw [Int.toNat_natCast]
  by_cases e : j = k
  · rw [e, wL_eq]
  · rw [wL_ne (by omega)]; exact hK j (by omega)
theorem wd7_0 : wd7 108 101 116 116 101 114 0 = ky 0 := by decide +kernel
theorem wd7_1 : wd7 104 101 105 114 0 0 0 = ky 1 := by decide +kernel
theorem wd7_2 : wd7 109 97 115 116 101 114 0 = ky 2 := by decide +kernel
theorem wd7_3 : wd7 108 101 97 114 110 0 0 = ky 3 := by decide +kernel
theorem wd7_4 : wd7 100 114 105 102 116 0 0 = ky 4 := by decide +kernel
theorem wd7_5 : wd7 100 97 121 115 0 0 0 = ky 5 := by decide +kernel
theorem wd7_6 : wd7 108 105 109 105 116 0 0 = ky 6 := by decide +kernel
theorem wd7_7 : wd7 115 101 101 100 0 0 0 = ky 7 := by decide +kernel
theorem wd7_8 : wd7 105 102 0 0 0 0 0 = ky 8 := by decide +kernel
theorem wd7_9 : wd7 116 104 101 110 0 0 0 = ky 9 := by decide +kernel
theorem wd7_10 : wd7 101 108 115 101 0 0 0 = ky 10 := by decide +kernel
theorem wd7_11 : wd7 111 102 102 0 0 0 0 = ky 11 := by decide +kernel
theorem wd7_12 : wd7 121 101 97 114 0 0 0 = ky 12 := by decide +kernel
theorem wd7_13 : wd7 119 111 114 110 0 0 0 = ky 13 := by decide +kernel
theorem wd7_14 : wd7 111 119 110 0 0 0 0 = ky 14 := by decide +kernel
theorem wd7_15 : wd7 104 97 110 100 0 0 0 = ky 15 := by decide +kernel
theorem wd7_16 : wd7 100 97 121 0 0 0 0 = ky 16 := by decide +kernel
def MOK (L : Nat) (w w1 : Wd) : Prop := Ok L 28 9 26 w1 ∧ (∀ a j, a < 223 → wI w1 a j = wI w a j ∧ wL w1 a j = wL w a j) ∧ (wI w1 223 2 = 0 ∧ wI w1 223 17 = -1 ∧ wI w1 223 18 = 0 ∧ wI w1 223 58 = 0 ∧ wI w1 223 63 = 0) ∧ (wI w1 233 0 = 0 ∧ wI w1 235 0 = 0 ∧ wI w1 239 0 = 0 ∧ wI w1 240 0 = 3 ∧ wI w1 241 0 = 9999 ∧ wI w1 242 0 = 0) ∧ (∀ j, j < 10 → wI w1 243 j = 0 ∧ wI w1 244 j = 0) ∧ (wI w1 255 43 = -1 ∧ ∀ j, 42 ≤ j → j < 2860 → j ≠ 43 → wI w1 255 j = 0) ∧ (∀ j, wI w1 265 j = 0) ∧ KEY 17 w1 ∧ wn w1 = 267 ∧ wz w1 + sz 6 = sz 267
theorem i_MoK (hO : Ok L 28 9 26 w) (hb : ∀ a j, a < 223 → wI w a j = wI b a j ∧ wL w a j = wL b a j) (h227 : wI w 223 2 = 0 ∧ wI w 223 17 = -1 ∧ wI w 223 18 = 0 ∧ wI w 223 58 = 0 ∧ wI w 223 63 = 0) (h269 : ∀ j, wI w 265 j = 0) (hn : wn w = 267) (hz : wz w + sz 6 = sz 267) : Wp ((Mo_plain 223 0 w).bind fun r364 => (fgR r364 223 12 9).bind fun v368 => (Mo_word 108 101 116 116 101 114 0 r364).bind fun r385 => (wrL r385.2 v368 0 r385.1).bind fun w388 => (fgR w388 223 12 9).bind fun v390 => (Mo_word 104 101 105 114 0 0 0 w388).bind fun r405 => (wrL r405.2 v390 1 r405.1).bind fun w408 => (fgR w408 223 12 9).bind fun v410 => (Mo_word 109 97 115 116 101 114 0 w408).bind fun r427 => (wrL r427.2 v410 2 r427.1).bind fun w430 => (fgR w430 223 12 9).bind fun v432 => (Mo_word 108 101 97 114 110 0 0 w430).bind fun r448 => (wrL r448.2 v432 3 r448.1).bind fun w451 => (fgR w451 223 12 9).bind fun v453 => (Mo_word 100 114 105 102 116 0 0 w451).bind fun r469 => (wrL r469.2 v453 4 r469.1).bind fun w472 => (fgR w472 223 12 9).bind fun v474 => (Mo_word 100 97 121 115 0 0 0 w472).bind fun r489 => (wrL r489.2 v474 5 r489.1).bind fun w492 => (fgR w492 223 12 9).bind fun v494 => (Mo_word 108 105 109 105 116 0 0 w492).bind fun r511 => (wrL r511.2 v494 6 r511.1).bind fun w514 => (fgR w514 223 12 9).bind fun v516 => (Mo_word 115 101 101 100 0 0 0 w514).bind fun r532 => (wrL r532.2 v516 7 r532.1).bind fun w535 => (fgR w535 223 12 9).bind fun v537 => (Mo_word 105 102 0 0 0 0 0 w535).bind fun r551 => (wrL r551.2 v537 8 r551.1).bind fun w554 => (fgR w554 223 12 9).bind fun v556 => (Mo_word 116 104 101 110 0 0 0 w554).bind fun r572 => (wrL r572.2 v556 9 r572.1).bind fun w575 => (fgR w575 223 12 9).bind fun v577 => (Mo_word 101 108 115 101 0 0 0 w575).bind fun r593 => (wrL r593.2 v577 10 r593.1).bind fun w596 => (fgR w596 223 12 9).bind fun v598 => (Mo_word 111 102 102 0 0 0 0 w596).bind fun r613 => (wrL r613.2 v598 11 r613.1).bind fun w616 => (fgR w616 223 12 9).bind fun v618 => (Mo_word 121 101 97 114 0 0 0 w616).bind fun r634 => (wrL r634.2 v618 12 r634.1).bind fun w637 => (fgR w637 223 12 9).bind fun v639 => (Mo_word 119 111 114 110 0 0 0 w637).bind fun r655 => (wrL r655.2 v639 13 r655.1).bind fun w658 => (fgR w658 223 12 9).bind fun v660 => (Mo_word 111 119 110 0 0 0 0 w658).bind fun r675 => (wrL r675.2 v660 14 r675.1).bind fun w678 => (fgR w678 223 12 9).bind fun v680 => (Mo_word 104 97 110 100 0 0 0 w678).bind fun r696 => (wrL r696.2 v680 15 r696.1).bind fun w699 => (fgR w699 223 12 9).bind fun v701 => (Mo_word 100 97 121 0 0 0 0 w699).bind fun r716 => (wrL r716.2 v701 16 r716.1).bind fun w719 => (Mo_begins 223 w719).bind fun r721 => some r721) (MOK L b) := by
  refine wp_call (m_plain (d := 0) (by decide) hO) (fun w1 g => ?_)
  obtain ⟨f1, g1, g2⟩ := g
  have hO1 := f1.ok hO
  refine m_key (k := 0) hO1 (fun j hj => absurd hj (Nat.not_lt_zero _)) (FL.rf w1) wd7_0 rfl (by omega) (fun v1 o1 k1 f2 => ?_)
  refine m_key (k := 1) o1 k1 f2 wd7_1 rfl (by omega) (fun v2 o2 k2 f3 => ?_)
  clear o1 k1 f2
  refine m_key (k := 2) o2 k2 f3 wd7_2 rfl (by omega) (fun v3 o3 k3 f4 => ?_)
  clear o2 k2 f3
  refine m_key (k := 3) o3 k3 f4 wd7_3 rfl (by omega) (fun v4 o4 k4 f5 => ?_)
  clear o3 k3 f4
  refine m_key (k := 4) o4 k4 f5 wd7_4 rfl (by omega) (fun v5 o5 k5 f6 => ?_)
  clear o4 k4 f5
  refine m_key (k := 5) o5 k5 f6 wd7_5 rfl (by omega) (fun v6 o6 k6 f7 => ?_)
  clear o5 k5 f6
  refine m_key (k := 6) o6 k6 f7 wd7_6 rfl (by omega) (fun v7 o7 k7 f8 => ?_)
  clear o6 k6 f7
  refine m_key (k := 7) o7 k7 f8 wd7_7 rfl (by omega) (fun v8 o8 k8 f9 => ?_)
  clear o7 k7 f8
  refine m_key (k := 8) o8 k8 f9 wd7_8 rfl (by omega) (fun v9 o9 k9 f10 => ?_)
  clear o8 k8 f9
  refine m_key (k := 9) o9 k9 f10 wd7_9 rfl (by omega) (fun v10 o10 k10 f11 => ?_)
  clear o9 k9 f10
  refine m_key (k := 10) o10 k10 f11 wd7_10 rfl (by omega) (fun v11 o11 k11 f12 => ?_)
  clear o10 k10 f11
  refine m_key (k := 11) o11 k11 f12 wd7_11 rfl (by omega) (fun v12 o12 k12 f13 => ?_)
  clear o11 k11 f12
  refine m_key (k := 12) o12 k12 f13 wd7_12 rfl (by omega) (fun v13 o13 k13 f14 => ?_)
  clear o12 k12 f13
  refine m_key (k := 13) o13 k13 f14 wd7_13 rfl (by omega) (fun v14 o14 k14 f15 => ?_)
  clear o13 k13 f14
  refine m_key (k := 14) o14 k14 f15 wd7_14 rfl (by omega) (fun v15 o15 k15 f16 => ?_)
  clear o14 k14 f15
  refine m_key (k := 15) o15 k15 f16 wd7_15 rfl (by omega) (fun v16 o16 k16 f17 => ?_)
  clear o15 k15 f16
  refine m_key (k := 16) o16 k16 f17 wd7_16 rfl (by omega) (fun v17 o17 k17 f18 => ?_)
  clear o16 k16 f17
  have e18 : wI v17 223 18 = ((0 : Nat) : Int) := ((f18.i 223 18 id).trans (f1.at 223 18 (by unfold Ppl P46; omega))).trans h227.2.2.1
  have e237 : wI v17 233 0 = ((0 : Nat) : Int) := (f18.i 233 0 id).trans g1.1
  refine wp_call (m_begins (d := 0) (n := 0) (by decide) (by decide) o17 e18 e237) (fun w2 g => wp_ret ?_)
  obtain ⟨f3, -, -, g3, g4⟩ := g
  have i3 : ∀ a j, a ≠ 255 → wI w2 a j = wI w1 a j := fun a j q => (f3.at a j (by unfold P59; omega)).trans (f18.i a j id)
  have i4 : ∀ a j, a ≠ 255 → ¬ Ppl 0 a j → wI w2 a j = wI w a j := fun a j q q2 => (i3 a j q).trans (f1.at a j q2)
  have l3 : ∀ a j, wL w2 a j = wL v17 a j := fun a j => by rw [f3.2.2.2.1]
  have np : ∀ a j, a < 233 ∨ 244 < a → ¬ Ppl 0 a j := fun a j q => by unfold Ppl P46; omega
  refine ⟨f3.ok o17, fun a j ha => ⟨(i4 a j (by omega) (np a j (by omega))).trans (hb a j ha).1, ?_⟩, ⟨(i4 _ _ (by omega) (np _ _ (by omega))).trans h227.1, (i4 _ _ (by omega) (np _ _ (by omega))).trans h227.2.1, (i4 _ _ (by omega) (np _ _ (by omega))).trans h227.2.2.1, (i4 _ _ (by omega) (np _ _ (by omega))).trans h227.2.2.2.1, (i4 _ _ (by omega) (np _ _ (by omega))).trans h227.2.2.2.2⟩, ⟨(i3 _ _ (by omega)).trans g1.1, (i3 _ _ (by omega)).trans g1.2.1, (i3 _ _ (by omega)).trans g1.2.2.1, (i3 _ _ (by omega)).trans g1.2.2.2.1, (i3 _ _ (by omega)).trans g1.2.2.2.2.1, (i3 _ _ (by omega)).trans g1.2.2.2.2.2⟩, fun j hj => ?_, ⟨g3, g4⟩, fun j => (i4 _ _ (by omega) (np _ _ (by omega))).trans (h269 j), fun j hj => (l3 _ _).trans (k17 j hj), ?_, ?_⟩
  · rw [l3, f18.l a j (by omega), f1.2.2.2.1]; exact (hb a j ha).2
  · have := g2 j hj
    rw [show 10 * 0 + j = j by omega] at this
    exact ⟨(i3 _ _ (by omega)).trans this.1, (i3 _ _ (by omega)).trans this.2⟩
  · rw [f3.2.1, f18.1.1, f1.2.1, hn]
  · rw [f3.2.2.1, f18.1.2, f1.2.2.1, hz]
end MM
