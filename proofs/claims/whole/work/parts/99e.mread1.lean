/-! Level 3, read: the reference's reader, its small steps. -/
section ME
variable {L wl dr tx : Nat} {c : Nat → Int} {N : Nat} {w : Wd}
/-- where the reference looks -/
def MCU (c : Nat → Int) (N : Nat) (w : Wd) (t : Nat) : Prop := (t ≤ 400 ∧ ∀ i, i < t → kK c N i ≠ 0) ∧ wI w 223 11 = (t : Int)
/-- a fault stands -/
def ERR (c : Nat → Int) (N : Nat) (w : Wd) (e : Ft) : Prop := 0 < e.1 ∧ wI w 223 13 = (e.1 : Int) ∧ wI w 223 14 = (kP c N e.2 : Int)
theorem ERR.eq {w1 : Wd} {e : Ft} (h : ERR c N w e) (q : ∀ k, k = 13 ∨ k = 14 → wI w1 223 k = wI w 223 k) : ERR c N w1 e := ⟨h.1, (q 13 (by omega)).trans h.2.1, (q 14 (by omega)).trans h.2.2⟩
theorem MT.eq {w1 : Wd} (h : MT c N w) (e : ∀ a k, 226 ≤ a → a ≤ 228 → wI w1 a k = wI w a k) (e2 : ∀ k, wL w1 229 k = wL w 229 k) : MT c N w1 := fun j hj hg => by
  obtain ⟨h1, h2, h3, h4⟩ := h j hj hg
  exact ⟨(e _ _ (by omega) (by omega)).trans h1, (e _ _ (by omega) (by omega)).trans h2, fun q => (e _ _ (by omega) (by omega)).trans (h3 q), fun q => (e2 j).trans (h4 q)⟩
theorem q_is {t x : Nat} (hO : Ok L wl dr tx w) (hT : MT c N w) (hC : MCU c N w t) (h0 : wI w 223 13 = 0) : Mo_is 223 (x : Int) w = some (if kK c N t = x then 1 else 0, w) := by
  have h4 := hC.1.1
  refine wp_out ?_
  unfold Mo_is Mo_is_0 Mo_is_24 Mo_is_25
  refine wp_gd hO rfl (wp_gI hO rfl ?_)
  rw [h0]
  refine wp_pos rfl (wp_R12_5 hO (wp_gI hO rfl ?_))
  rw [hC.2]
  refine wp_rI hO rfl (by omega) ?_
  rw [Int.toNat_natCast, (hT t hC.1.1 hC.1.2).1]
  refine wp_ite (fun q => wp_rZr (by decide) ?_) (fun q => wp_rZr (by decide) ?_)
  · rw [if_pos (by omega)]
  · rw [if_neg (by omega)]
theorem q_isF {x : Int} (hO : Ok L wl dr tx w) (h0 : 0 < wI w 223 13) : Mo_is 223 x w = some (0, w) := by
  refine wp_out ?_
  unfold Mo_is Mo_is_0 Mo_is_24 Mo_is_25
  exact wp_gd hO rfl (wp_gI hO rfl (wp_neg (by omega) (wp_rZr (by decide) rfl)))
def PFl (a k : Nat) : Prop := a = 223 ∧ (k = 13 ∨ k = 14)
theorem m_fail {t x : Nat} (hx : 0 < x) (hO : Ok L wl dr tx w) (hT : MT c N w) (hC : MCU c N w t) (h0 : wI w 223 13 = 0) : Wp (Mo_fail 223 (x : Int) w) (fun w1 => Fr PFl w w1 ∧ ERR c N w1 (x, t)) := by
  have h4 := hC.1.1
  unfold Mo_fail Mo_fail_0
  refine wp_gd hO rfl (wp_gI hO rfl ?_)
  rw [h0]
  refine wp_pos (by decide) (wp_pI hO rfl ?_)
  generalize hw1 : sI w 223 13 (x : Int) = w1
  have hO1 : Ok L wl dr tx w1 := by rw [← hw1]; exact hO.sI
  have f1 : Fr PFl w w1 := by rw [← hw1]; exact fr_sI (by unfold PFl; omega)
  have v1 : wI w1 223 13 = (x : Int) := by rw [← hw1, wI_eq]
  refine wp_R12_6 hO1 (wp_gI hO1 rfl ?_)
  rw [f1.at 223 11 (by unfold PFl; omega), hC.2]
  refine wp_rI hO1 rfl (by omega) ?_
  rw [Int.toNat_natCast, f1.at 227 t (by unfold PFl; omega), (hT t hC.1.1 hC.1.2).2.1]
  refine wp_pI hO1 rfl (wp_ret ⟨f1.sI (by unfold PFl; omega), hx, ?_, wI_eq _ _ _ _⟩)
  rw [wI_ne (by omega), v1]
theorem m_failF {x : Int} (hO : Ok L wl dr tx w) (h0 : 0 < wI w 223 13) : Mo_fail 223 x w = some w := by
  refine wp_out ?_
  unfold Mo_fail Mo_fail_0
  exact wp_gd hO rfl (wp_gI hO rfl (wp_neg (by omega) (wp_ret rfl)))
def PGo (a k : Nat) : Prop := a = 223 ∧ (k = 11 ∨ k = 13 ∨ k = 14)
theorem m_goesOn {t : Nat} (hO : Ok L wl dr tx w) (hT : MT c N w) (hC : MCU c N w t) (h0 : wI w 223 13 = 0) (hk : kK c N t ≠ 0) : Wp (Mo_goesOn 223 w) (fun w1 => Fr PGo w w1 ∧ match ps1 t with
    | .inl e => ERR c N w1 e
    | .inr t' => MCU c N w1 t' ∧ wI w1 223 13 = 0) := by
  have h4 := hC.1.1
  unfold Mo_goesOn Mo_goesOn_0 Mo_goesOn_28 ps1
  refine wp_gd hO rfl (wp_gI hO rfl ?_)
  rw [hC.2]
  by_cases q : t < 400
  · rw [if_pos q]
    refine wp_neg (by omega) (wp_gI hO rfl ?_)
    rw [hC.2, w32_id (by omega) (by omega)]
    refine wp_pI hO rfl (wp_ret ⟨fr_sI (by unfold PGo; omega), ⟨⟨by omega, fun i hi => ?_⟩, by rw [wI_eq]; omega⟩, ?_⟩)
    · by_cases e : i = t
      · rw [e]; exact hk
      · exact hC.1.2 i (by omega)
    · rw [wI_ne (by omega), h0]
  · rw [if_neg q]
    refine wp_pos (by omega) (wp_call (m_fail (x := 2) (by omega) hO hT hC h0) (fun w1 g => wp_ret ⟨g.1.mono (fun a k q => by unfold PFl at q; unfold PGo; omega), g.2⟩))
theorem m_goesOnF (hO : Ok L wl dr tx w) (h0 : 0 < wI w 223 13) : Wp (Mo_goesOn 223 w) (fun w1 => Fr (fun a k => a = 223 ∧ k = 11) w w1) := by
  unfold Mo_goesOn Mo_goesOn_0 Mo_goesOn_28
  refine wp_gd hO rfl (wp_gI hO rfl (wp_ite (fun q => ?_) (fun q => wp_gI hO rfl (wp_pI hO rfl (wp_ret (fr_sI ⟨rfl, rfl⟩))))))
  exact wp_eq (m_failF hO h0) (wp_ret (Fr.rf w))
theorem m_must {t x : Nat} (hO : Ok L wl dr tx w) (hT : MT c N w) (hC : MCU c N w t) (h0 : wI w 223 13 = 0) (hx : x ≠ 0) : Wp (Mo_must 223 (x : Int) w) (fun w1 => Fr PGo w w1 ∧ match ex (kK c N) x t with
    | .inl e => ERR c N w1 e
    | .inr t' => MCU c N w1 t' ∧ wI w1 223 13 = 0) := by
  unfold Mo_must Mo_must_0 Mo_must_20 ex
  refine wp_gd hO rfl (wp_eq (q_is hO hT hC h0) ?_)
  by_cases q : kK c N t = x
  · rw [if_pos q, if_pos q]
    exact wp_neg (show ¬ (1 : Int) = 0 by decide) (wp_call (m_goesOn hO hT hC h0 (by omega)) (fun w1 g => wp_ret g))
  · rw [if_neg q, if_neg q]
    exact wp_pos rfl (wp_call (m_fail (x := 1) (by omega) hO hT hC h0) (fun w1 g => wp_ret ⟨g.1.mono (fun a k q => by unfold PFl at q; unfold PGo; omega), g.2⟩))
theorem m_mustF {x : Int} (hO : Ok L wl dr tx w) (h0 : 0 < wI w 223 13) : Mo_must 223 x w = some w := by
  refine wp_out ?_
  unfold Mo_must Mo_must_0 Mo_must_20
  exact wp_gd hO rfl (wp_eq (q_isF hO h0) (wp_pos rfl (wp_eq (m_failF hO h0) (wp_ret rfl))))
/-- one step more of code -/
theorem m_emit {z : Nat} {x y : Int} (hO : Ok L wl dr tx w) (hz : z < 840) (h : wI w 223 41 = (z : Int)) : Wp (Mo_emit 223 x y w) (fun w1 => Fr (fun a k => (a = 223 ∧ k = 41) ∨ ((a = 250 ∨ a = 251) ∧ k = z)) w w1 ∧ wI w1 223 41 = ((z + 1 : Nat) : Int) ∧ wI w1 250 z = x ∧ wI w1 251 z = y) := by
  unfold Mo_emit Mo_emit_0
  refine wp_gd hO rfl (wp_R12_42 hO (wp_gI hO rfl ?_))
  rw [h]
  refine wp_wI hO rfl (by omega) ?_
  rw [Int.toNat_natCast]
  generalize hw1 : sI w 250 z x = w1
  have hO1 : Ok L wl dr tx w1 := by rw [← hw1]; exact hO.sI
  have f1 : Fr (fun a k => (a = 223 ∧ k = 41) ∨ ((a = 250 ∨ a = 251) ∧ k = z)) w w1 := by rw [← hw1]; exact fr_sI (by omega)
  have z1 : wI w1 223 41 = (z : Int) := by rw [← hw1, wI_ne (by omega), h]
  have u1 : wI w1 250 z = x := by rw [← hw1, wI_eq]
  refine wp_R12_43 hO1 (wp_gI hO1 rfl ?_)
  rw [z1]
  refine wp_wI hO1 rfl (by omega) ?_
  rw [Int.toNat_natCast]
  generalize hw2 : sI w1 251 z y = w2
  have hO2 : Ok L wl dr tx w2 := by rw [← hw2]; exact hO1.sI
  have f2 : Fr (fun a k => (a = 223 ∧ k = 41) ∨ ((a = 250 ∨ a = 251) ∧ k = z)) w w2 := by rw [← hw2]; exact f1.sI (by omega)
  have z2 : wI w2 223 41 = (z : Int) := by rw [← hw2, wI_ne (by omega), z1]
  have u2 : wI w2 250 z = x := by rw [← hw2, wI_ne (by omega), u1]
  have v2 : wI w2 251 z = y := by rw [← hw2, wI_eq]
  refine wp_gI hO2 rfl ?_
  rw [z2, w32_id (by omega) (by omega)]
  refine wp_pI hO2 rfl (wp_ret ⟨f2.sI (by omega), ?_, ?_, ?_⟩)
  · rw [wI_eq]; omega
  · rw [wI_ne (by omega), u2]
  · rw [wI_ne (by omega), v2]
/-! the row of what waits -/
def wst (w : Wd) : List Nat → Prop
  | [] => True
  | k :: S => wI w 252 S.length = (k : Int) ∧ wst w S
theorem wst_eq {w1 : Wd} : ∀ S : List Nat, (∀ k, k < S.length → wI w1 252 k = wI w 252 k) → wst w S → wst w1 S
  | [], _, _ => trivial
  | k :: S, e, h => ⟨(e _ (by simp)).trans h.1, wst_eq S (fun j hj => e j (by simp; omega)) h.2⟩
def opk (k : Nat) : Nat := if k = 8 then 2 else if k = 9 then 3 else if k = 10 then 4 else 5
def fls (S : List Nat) : List Op := S.map (fun k => (opk k, 0))
/-- what comes out: q of the row q ++ S -/
def stops (b : Bool) (S : List Nat) : Prop := match S with
  | [] => True
  | k :: _ => k = 6 ∨ (b = true ∧ (k = 8 ∨ k = 9))
def outs (b : Bool) (q : List Nat) : Prop := ∀ k, k ∈ q → (k = 8 ∨ k = 9 ∨ k = 10 ∨ k = 15) ∧ ¬ (b = true ∧ (k = 8 ∨ k = 9))
theorem mcode_ag {w1 : Wd} : ∀ (p : List Op) (f : Nat), (∀ k, f ≤ k → k < f + p.length → wI w1 250 k = wI w 250 k ∧ wI w1 251 k = wI w 251 k) → mcode w f p → mcode w1 f p
  | [], f, _, _ => trivial
  | (k, z) :: p, f, h, h1 => ⟨(h f (by omega) (by simp)).1.trans h1.1, (h f (by omega) (by simp)).2.trans h1.2.1, mcode_ag p (f + 1) (fun j h3 h4 => h j (by omega) (by simp; omega)) h1.2.2⟩
theorem mcode_app (q : List Op) : ∀ (p : List Op) (f : Nat), mcode w f p → mcode w (f + p.length) q → mcode w f (p ++ q)
  | [], f, _, h2 => h2
  | (k, z) :: p, f, h1, h2 => ⟨h1.1, h1.2.1, mcode_app q p (f + 1) h1.2.2 (by rw [show f + 1 + p.length = f + ((k, z) :: p).length by simp; omega]; exact h2)⟩
def PCo (z z1 a k : Nat) : Prop := (a = 223 ∧ (k = 41 ∨ k = 45)) ∨ ((a = 250 ∨ a = 251) ∧ z ≤ k ∧ k < z1)
theorem m_co0 {x : Int} {b : Bool} (hx : x = if b = true then 1 else 0) (S : List Nat) (hs : stops b S) : ∀ (q : List Nat) (m z : Nat) (w : Wd), q.length < m → Ok L wl dr tx w → outs b q → wst w (q ++ S) → wI w 223 45 = ((q ++ S).length : Int) → wI w 223 41 = (z : Int) → (q ++ S).length ≤ 64 → z + q.length ≤ 840 → Wp (Mo_comesOut_0 m 223 x w) (fun w1 => Fr (PCo z (z + q.length)) w w1 ∧ wst w1 S ∧ wI w1 223 45 = (S.length : Int) ∧ wI w1 223 41 = ((z + q.length : Nat) : Int) ∧ mcode w1 z (fls q))
  | q, 0, z, w, hm, _, _, _, _, _, _, _ => absurd hm (by omega)
  | [], m + 1, z, w, hm, hO, hq, hw, h45, h41, hl, hz => by
    rw [Mo_comesOut_0]
    unfold Mo_comesOut_41
    have fin : Fr (PCo z (z + ([] : List Nat).length)) w w ∧ wst w S ∧ wI w 223 45 = (S.length : Int) ∧ wI w 223 41 = ((z + ([] : List Nat).length : Nat) : Int) ∧ mcode w z (fls []) := ⟨Fr.rf w, hw, h45, h41, trivial⟩
    refine wp_gI hO rfl ?_
    cases S with
    | nil =>
      have h45 : wI w 223 45 = 0 := h45
      rw [h45]
      exact wp_pos (by decide) (wp_ret fin)
    | cons k S' =>
      have h45 : wI w 223 45 = ((S'.length + 1 : Nat) : Int) := h45
      have hl : S'.length + 1 ≤ 64 := hl
      rw [h45]
      refine wp_neg (by omega) (wp_R12_44 hO (wp_gI hO rfl ?_))
      rw [h45, w32_id (by omega) (by omega), show ((S'.length + 1 : Nat) : Int) - 1 = (S'.length : Int) by omega]
      refine wp_rI hO rfl (by omega) ?_
      rw [Int.toNat_natCast, show wI w 252 S'.length = (k : Int) from hw.1]
      rcases hs with hs | ⟨hb, hs⟩
      · exact wp_pos (by omega) (wp_ret fin)
      · rw [if_pos hb] at hx
        refine wp_neg (by omega) (wp_neg (by omega) ?_)
        rcases hs with hs | hs
        · exact wp_pos (by omega) (wp_ret fin)
        · exact wp_neg (by omega) (wp_pos (by omega) (wp_ret fin))
  | k :: q, m + 1, z, w, hm, hO, hq, hw, h45, h41, hl, hz => by
    have hm : q.length + 1 < m + 1 := hm
    have hl : (q ++ S).length + 1 ≤ 64 := hl
    have hz : z + (q.length + 1) ≤ 840 := hz
    have h45 : wI w 223 45 = (((q ++ S).length + 1 : Nat) : Int) := h45
    have hw : wI w 252 (q ++ S).length = (k : Int) ∧ wst w (q ++ S) := hw
    obtain ⟨k1, k2⟩ := hq k List.mem_cons_self
    have hq' : outs b q := fun y hy => hq y (List.mem_cons_of_mem _ hy)
    -- one comes out
    have pop : Wp (Mo_comesOut_42 (Mo_comesOut_0 m) 223 x (k : Int) w) (fun w1 => Fr (PCo z (z + (k :: q).length)) w w1 ∧ wst w1 S ∧ wI w1 223 45 = (S.length : Int) ∧ wI w1 223 41 = ((z + (k :: q).length : Nat) : Int) ∧ mcode w1 z (fls (k :: q))) := by
      unfold Mo_comesOut_42 Mo_comesOut_84
      refine wp_gI hO rfl ?_
      rw [h45, w32_id (by omega) (by omega), show (((q ++ S).length + 1 : Nat) : Int) - 1 = ((q ++ S).length : Int) by omega]
      refine wp_pI hO rfl ?_
      generalize hw1 : sI w 223 45 ((q ++ S).length : Int) = w1
      have hO1 : Ok L wl dr tx w1 := by rw [← hw1]; exact hO.sI
      have f1 : Fr (PCo z (z + (k :: q).length)) w w1 := by rw [← hw1]; exact fr_sI (by unfold PCo; omega)
      have v1 : wI w1 223 45 = ((q ++ S).length : Int) := by rw [← hw1, wI_eq]
      have c1 : wI w1 223 41 = (z : Int) := by rw [← hw1, wI_ne (by omega), h41]
      clear hw1
      have go : ∀ y : Int, y = (opk k : Int) → Wp ((Mo_emit 223 y 0 w1).bind fun r85 => Mo_comesOut_0 m 223 x r85) (fun w1 => Fr (PCo z (z + (k :: q).length)) w w1 ∧ wst w1 S ∧ wI w1 223 45 = (S.length : Int) ∧ wI w1 223 41 = ((z + (k :: q).length : Nat) : Int) ∧ mcode w1 z (fls (k :: q))) := by
        intro y hy
        refine wp_call (m_emit hO1 (by omega) c1) (fun w2 g => ?_)
        obtain ⟨f2, g0, g1, g2⟩ := g
        have f2' : Fr (PCo z (z + (k :: q).length)) w1 w2 := f2.mono (fun a i e => by unfold PCo; simp only [List.length_cons]; omega)
        refine wp_use (m_co0 hx S hs q m (z + 1) w2 (by omega) (f2.ok hO1) hq' (wst_eq _ (fun i _ => (f2.at 252 i (by omega)).trans (f1.at 252 i (by unfold PCo; omega))) hw.2) ((f2.at 223 45 (by omega)).trans v1) g0 (by omega) (by omega)) (fun w3 h => ?_)
        obtain ⟨f3, h1, h2, h3, h4⟩ := h
        have f3' : Fr (PCo z (z + (k :: q).length)) w2 w3 := f3.mono (fun a i e => by unfold PCo at e ⊢; simp only [List.length_cons]; omega)
        refine ⟨(f1.tr f2').tr f3', h1, h2, ?_, ?_, ?_, h4⟩
        · rw [h3]; simp only [List.length_cons]; omega
        · rw [f3.at 250 z (by unfold PCo; omega), g1, hy]
        · rw [f3.at 251 z (by unfold PCo; omega), g2]
      refine wp_ite (fun e => go 2 ?_) (fun e => wp_ite (fun e2 => go 3 ?_) (fun e2 => wp_ite (fun e3 => go 4 ?_) (fun e3 => go 5 ?_)))
      · unfold opk; rw [if_pos (by omega)]; rfl
      · unfold opk; rw [if_neg (by omega), if_pos (by omega)]; rfl
      · unfold opk; rw [if_neg (by omega), if_neg (by omega), if_pos (by omega)]; rfl
      · unfold opk; rw [if_neg (by omega), if_neg (by omega), if_neg (by omega)]; rfl
    rw [Mo_comesOut_0]
    unfold Mo_comesOut_41
    refine wp_gI hO rfl ?_
    rw [h45]
    refine wp_neg (by omega) (wp_R12_44 hO (wp_gI hO rfl ?_))
    rw [h45, w32_id (by omega) (by omega), show (((q ++ S).length + 1 : Nat) : Int) - 1 = ((q ++ S).length : Int) by omega]
    refine wp_rI hO rfl (by omega) ?_
    rw [Int.toNat_natCast, hw.1]
    refine wp_neg (by omega) (wp_ite (fun _ => pop) (fun e => ?_))
    have hb : b = true := by
      cases b with
      | true => rfl
      | false => exact absurd (by rw [hx]; rfl) e
    refine wp_neg (fun e => k2 ⟨hb, by omega⟩) (wp_neg (fun e => k2 ⟨hb, by omega⟩) pop)
end ME
