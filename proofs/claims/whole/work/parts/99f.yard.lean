/-! Level 3, read: the reference's terms, step by step. -/
theorem one_ne : ¬ (1 : Int) = 0 := by decide
def vst (S : List Nat) : Prop := ∀ k, k ∈ S → k = 6 ∨ k = 8 ∨ k = 9 ∨ k = 10 ∨ k = 15
def nop : List Nat → Nat
  | [] => 0
  | k :: S => (if k = 6 then 0 else 1) + nop S
theorem nop_app {b : Bool} {S : List Nat} : ∀ q : List Nat, outs b q → nop (q ++ S) = q.length + nop S
  | [], _ => by simp
  | k :: q, h => by
    have h1 := (h k List.mem_cons_self).1
    show (if k = 6 then 0 else 1) + nop (q ++ S) = q.length + 1 + nop S
    rw [if_neg (by omega), nop_app q (fun y hy => h y (List.mem_cons_of_mem _ hy))]
    omega
theorem vst_cut : ∀ S : List Nat, vst S → ∃ q S1, S = q ++ S1 ∧ outs false q ∧ stops false S1
  | [], _ => ⟨[], [], rfl, fun k h => absurd h List.not_mem_nil, trivial⟩
  | k :: S, h => by
    by_cases k6 : k = 6
    · exact ⟨[], k :: S, rfl, fun k h => absurd h List.not_mem_nil, Or.inl k6⟩
    · obtain ⟨q, S1, h1, h2, h3⟩ := vst_cut S (fun y hy => h y (List.mem_cons_of_mem _ hy))
      refine ⟨k :: q, S1, by rw [h1]; rfl, fun y hy => ?_, h3⟩
      rcases List.mem_cons.mp hy with e | e
      · have := h k List.mem_cons_self
        rw [e]
        exact ⟨by omega, fun g => by cases g.1⟩
      · exact h2 y e
def PE (cb z0 a k : Nat) : Prop := (a = 223 ∧ (k = 11 ∨ k = 12 ∨ k = 13 ∨ k = 14 ∨ k = 41 ∨ k = 45)) ∨ ((a = 250 ∨ a = 251) ∧ z0 ≤ k ∧ k < cb + 420) ∨ a = 252
section YA
variable {L wl dr tx : Nat} {c : Nat → Int} {N cb z0 : Nat} {w w0 : Wd}
/-- the yard: what waits, how much code, where, how deep -/
def YS (c : Nat → Int) (N cb : Nat) (w : Wd) (S : List Nat) (cc t d : Nat) : Prop := wI w 223 13 = 0 ∧ MCU c N w t ∧ wI w 223 12 = (d : Int) ∧ (wI w 223 45 = (S.length : Int) ∧ wst w S ∧ vst S) ∧ wI w 223 41 = (cc : Int) ∧ cc + nop S + 2 ≤ cb + t ∧ S.length ≤ 3 * d + 2 ∧ d ≤ 6
def KEEP (w w1 : Wd) (cc : Nat) : Prop := ∀ k, k < cc → wI w1 250 k = wI w 250 k ∧ wI w1 251 k = wI w 251 k
theorem MT.pe {w1 : Wd} (h : MT c N w) (f : Fr (PE cb z0) w w1) : MT c N w1 := h.eq (fun a k q1 q2 => f.at a k (by unfold PE; omega)) (fun k => by rw [f.2.2.2.1])
theorem m_out {x : Int} {b : Bool} {q S : List Nat} {z : Nat} (hx : x = if b = true then 1 else 0) (hs : stops b S) (hO : Ok L wl dr tx w) (hq : outs b q) (hw : wst w (q ++ S)) (h45 : wI w 223 45 = ((q ++ S).length : Int)) (h41 : wI w 223 41 = (z : Int)) (hl : (q ++ S).length ≤ 64) (hz : z + q.length ≤ 840) : Wp (Mo_comesOut 223 x w) (fun w1 => Fr (PCo z (z + q.length)) w w1 ∧ wst w1 S ∧ wI w1 223 45 = (S.length : Int) ∧ wI w1 223 41 = ((z + q.length : Nat) : Int) ∧ mcode w1 z (fls q)) := by
  unfold Mo_comesOut
  generalize hFU : FU = fu; have hfu : 1000000 = fu := hFU
  have : q.length ≤ (q ++ S).length := by simp
  exact wp_gd hO rfl (m_co0 hx S hs q fu z w (by omega) hO hq hw h45 h41 hl hz)
theorem co_pe {z z1 : Nat} {w1 : Wd} (f : Fr (PCo z z1) w w1) (h : z0 ≤ z) (h2 : z1 ≤ cb + 420) : Fr (PE cb z0) w w1 := f.mono (fun a k q => by unfold PCo at q; unfold PE; omega)
/-- the end of a term, also behind a fault -/
theorem y_last {Q : Wd → Prop} {S : List Nat} {z : Nat} (hcb : cb ≤ 420) (hO : Ok L wl dr tx w) (hw : wst w S) (hv : vst S) (h45 : wI w 223 45 = (S.length : Int)) (h41 : wI w 223 41 = (z : Int)) (hl : S.length ≤ 64) (hz : z + nop S ≤ cb + 420) (h0 : z0 ≤ z) (kk : ∀ q S1 w1, S = q ++ S1 → outs false q → stops false S1 → Fr (PE cb z0) w w1 → (∀ k, k ≠ 41 → k ≠ 45 → wI w1 223 k = wI w 223 k) → wI w1 223 41 = ((z + q.length : Nat) : Int) → mcode w1 z (fls q) → KEEP w w1 z → Q w1) : Wp (Mo_expression_204 223 w) Q := by
  obtain ⟨q, S1, h1, h2, h3⟩ := vst_cut S hv
  subst h1
  have hn := nop_app (S := S1) q h2
  unfold Mo_expression_204
  refine wp_call (m_out (b := false) rfl h3 hO h2 hw h45 h41 hl (by omega)) (fun w1 g => wp_ret ?_)
  obtain ⟨g1, g2, g3, g4, g5⟩ := g
  exact kk q S1 w1 rfl h2 h3 (co_pe g1 h0 (by omega)) (fun k k1 k2 => g1.at _ _ (by unfold PCo; omega)) g4 g5 (fun k hk => ⟨g1.at _ _ (by unfold PCo; omega), g1.at _ _ (by unfold PCo; omega)⟩)
/-- behind a fault nothing more is looked at -/
theorem y_dead {Q : Wd → Prop} {e : Ft} {S : List Nat} {z m : Nat} {k12 : Nat → Int → Int → Wd → Option Wd} (hcb : cb ≤ 420) (hm : 0 < m) (hO : Ok L wl dr tx w) (hE : ERR c N w e) (hw : wst w S) (hv : vst S) (h45 : wI w 223 45 = (S.length : Int)) (h41 : wI w 223 41 = (z : Int)) (hl : S.length ≤ 64) (hz : z + nop S ≤ cb + 420) (h0 : z0 ≤ z) (hF : Fr (PE cb z0) w0 w) (kk : ∀ w1, ERR c N w1 e → Fr (PE cb z0) w0 w1 → Q w1) : Wp (Mo_expression_96 k12 m 223 0 w) Q := by
  have hf : 0 < wI w 223 13 := by have := hE.1; have := hE.2.1; omega
  obtain ⟨m', rfl⟩ : ∃ m', m = m' + 1 := ⟨m - 1, by omega⟩
  have fin : Wp (Mo_expression_204 223 w) Q := y_last (z0 := z0) hcb hO hw hv h45 h41 hl hz h0 (fun q S1 w1 _ _ _ f1 n1 _ _ _ => kk w1 (hE.eq (fun k q => n1 k (by omega) (by omega))) (hF.tr f1))
  rw [Mo_expression_96]
  refine wp_eq (q_isF hO hf) (wp_pos rfl ?_)
  unfold Mo_expression_145
  refine wp_eq (q_isF hO hf) (wp_pos rfl (wp_eq (q_isF hO hf) (wp_pos rfl (wp_eq (q_isF hO hf) (wp_pos rfl (wp_eq (q_isF hO hf) (wp_pos rfl ?_)))))))
  unfold Mo_expression_186 Mo_expression_191
  refine wp_pos rfl (wp_gI hO rfl (wp_ite (fun _ => fin) (fun _ => wp_eq (m_failF hO hf) fin)))
/-- an operator behind an operand -/
theorem y_op {Q : Wd → Prop} {b : Bool} {q S : List Nat} {n m t d cc : Nat} (hcb : cb ≤ 420) (hO0 : Ok L wl dr tx w0) (hT0 : MT c N w0) (hm : 0 < m) (hY : YS c N cb w (q ++ S) cc t d) (hF : Fr (PE cb z0) w0 w) (h0 : z0 ≤ cc) (hb : b = true ↔ (kK c N t = 10 ∨ kK c N t = 15)) (hk : kK c N t = 8 ∨ kK c N t = 9 ∨ kK c N t = 10 ∨ kK c N t = 15) (hq : outs b q) (hs : stops b S) (hS : S.length ≤ 3 * d + 1)
    (h400 : ∀ e, ps1 t = .inl e → ∀ w1, ERR c N w1 e → Fr (PE cb z0) w0 w1 → Q w1)
    (hgo : ps1 t = .inr (t + 1) → ∀ w1, YS c N cb w1 (kK c N t :: S) (cc + q.length) (t + 1) d → mcode w1 cc (fls q) → KEEP w w1 cc → Fr (PE cb z0) w0 w1 → Wp (Mo_expression_23 (Mo_expression_12 n) FU 223 0 w1) Q) :
    Wp (Mo_expression_96 (Mo_expression_12 (n + 1)) m 223 0 w) Q := by
  obtain ⟨y1, y2, y3, ⟨y4, y5, y6⟩, y7, y8, y9, y10⟩ := hY
  have hO := hF.ok hO0
  have hT := hT0.pe hF
  have h4 := y2.1.1
  have hn := nop_app (S := S) q hq
  have hql : (q ++ S).length = q.length + S.length := List.length_append
  obtain ⟨m', rfl⟩ : ∃ m', m = m' + 1 := ⟨m - 1, by omega⟩
  have key : ∀ x : Int, (x = if b = true then 1 else 0) → Wp (Mo_expression_234 (Mo_expression_12 (n + 1)) 223 0 1 x 223 w) Q := by
    intro x hx
    unfold Mo_expression_234
    refine wp_call (m_out hx hs hO hq y5 y4 y7 (by omega) (by omega)) (fun w1 g => ?_)
    obtain ⟨g1, g2, g3, g4, g5⟩ := g
    have f1 : Fr (PE cb z0) w0 w1 := hF.tr (co_pe g1 h0 (by omega))
    have hO1 := g1.ok hO
    have C1 : MCU c N w1 t := ⟨y2.1, (g1.at 223 11 (by unfold PCo; omega)).trans y2.2⟩
    refine wp_R12_44 hO1 (wp_gI hO1 rfl (wp_R12_5 hO1 (wp_gI hO1 rfl ?_)))
    rw [C1.2, g3]
    refine wp_rI hO1 rfl (by omega) ?_
    rw [Int.toNat_natCast, ((hT0.pe f1) t y2.1.1 y2.1.2).1]
    refine wp_wI hO1 rfl (by omega) ?_
    rw [Int.toNat_natCast]
    generalize hw2 : sI w1 252 S.length (kK c N t : Int) = w2
    have hO2 : Ok L wl dr tx w2 := by rw [← hw2]; exact hO1.sI
    have f2 : Fr (PE cb z0) w0 w2 := by rw [← hw2]; exact f1.sI (by unfold PE; omega)
    have n2 : ∀ a k, a ≠ 252 → wI w2 a k = wI w1 a k := fun a k q => by rw [← hw2, wI_ne (by omega)]
    have s2 : wst w2 (kK c N t :: S) := ⟨by rw [← hw2, wI_eq], wst_eq S (fun k hk => by rw [← hw2, wI_ne (by omega)]) g2⟩
    clear hw2
    refine wp_gI hO2 rfl ?_
    rw [n2 _ _ (by omega), g3, w32_id (by omega) (by omega), show (S.length : Int) + 1 = ((S.length + 1 : Nat) : Int) by omega]
    refine wp_pI hO2 rfl ?_
    generalize hw3 : sI w2 223 45 ((S.length + 1 : Nat) : Int) = w3
    have hO3 : Ok L wl dr tx w3 := by rw [← hw3]; exact hO2.sI
    have f3 : Fr (PE cb z0) w0 w3 := by rw [← hw3]; exact f2.sI (by unfold PE; omega)
    have n3 : ∀ a k, a ≠ 252 → (a ≠ 223 ∨ k ≠ 45) → wI w3 a k = wI w1 a k := fun a k q1 q2 => by rw [← hw3, wI_ne (by omega), n2 a k q1]
    have s3 : wst w3 (kK c N t :: S) := wst_eq _ (fun k _ => by rw [← hw3, wI_ne (by omega)]) s2
    have v3 : wI w3 223 45 = ((S.length + 1 : Nat) : Int) := by rw [← hw3, wI_eq]
    clear hw3
    have C3 : MCU c N w3 t := ⟨y2.1, (n3 _ _ (by omega) (by omega)).trans C1.2⟩
    have z3 : wI w3 223 13 = 0 := by rw [n3 _ _ (by omega) (by omega), g1.at 223 13 (by unfold PCo; omega), y1]
    refine wp_call (m_goesOn hO3 (hT0.pe f3) C3 z3 (by omega)) (fun w4 g => ?_)
    obtain ⟨f4, g⟩ := g
    have f4' : Fr (PE cb z0) w0 w4 := f3.tr (f4.mono (fun a k q => by unfold PGo at q; unfold PE; omega))
    have hO4 := f4'.ok hO0
    rw [Mo_expression_12]
    unfold Mo_expression_272
    refine wp_neg one_ne (wp_gI hO4 rfl ?_)
    generalize hp : ps1 t = p at g
    cases p with
    | inl e =>
      refine wp_neg ?_ (wp_ret (h400 e hp w4 g f4'))
      rw [g.2.1]; have := g.1; omega
    | inr t' =>
      obtain ⟨g6, g7⟩ := g
      obtain ⟨p1, rfl⟩ := ps1_inr hp
      refine wp_pos g7 (hgo hp w4 ⟨g7, g6, ?_, ⟨?_, wst_eq _ (fun k _ => f4.at 252 k (by unfold PGo; omega)) s3, fun k hk' => ?_⟩, ?_, ?_, ?_, y10⟩ ?_ (fun k hk' => ⟨?_, ?_⟩) f4')
      · rw [f4.at 223 12 (by unfold PGo; omega), n3 _ _ (by omega) (by omega), g1.at 223 12 (by unfold PCo; omega), y3]
      · rw [f4.at 223 45 (by unfold PGo; omega), v3]; rfl
      · rcases List.mem_cons.mp hk' with e | e
        · omega
        · exact y6 k (List.mem_append_right _ e)
      · rw [f4.at 223 41 (by unfold PGo; omega), n3 _ _ (by omega) (by omega), g4]
      · show cc + q.length + ((if kK c N t = 6 then 0 else 1) + nop S) + 2 ≤ cb + (t + 1)
        rw [if_neg (by omega)]
        omega
      · show S.length + 1 ≤ 3 * d + 2
        omega
      · exact mcode_ag _ _ (fun k k1 k2 => ⟨(f4.at 250 k (by unfold PGo; omega)).trans (n3 _ _ (by omega) (by omega)), (f4.at 251 k (by unfold PGo; omega)).trans (n3 _ _ (by omega) (by omega))⟩) g5
      · rw [f4.at 250 k (by unfold PGo; omega), n3 _ _ (by omega) (by omega), g1.at 250 k (by unfold PCo; omega)]
      · rw [f4.at 251 k (by unfold PGo; omega), n3 _ _ (by omega) (by omega), g1.at 251 k (by unfold PCo; omega)]
  rw [Mo_expression_96]
  have i7 := q_is (x := 7) hO hT y2 y1
  rw [if_neg (show ¬ kK c N t = 7 by omega)] at i7
  refine wp_eq i7 (wp_pos rfl ?_)
  unfold Mo_expression_145 Mo_expression_181 Mo_expression_186 Mo_expression_229
  have strong : b = true → Wp (Mo_expression_234 (Mo_expression_12 (n + 1)) 223 0 1 1 223 w) Q := fun hb' => key 1 (by rw [if_pos hb'])
  have weak : ¬ b = true → Wp (Mo_expression_234 (Mo_expression_12 (n + 1)) 223 0 1 0 223 w) Q := fun hb' => key 0 (by rw [if_neg hb'])
  have i8 := q_is (x := 8) hO hT y2 y1
  have i9 := q_is (x := 9) hO hT y2 y1
  have i10 := q_is (x := 10) hO hT y2 y1
  have i15 := q_is (x := 15) hO hT y2 y1
  rcases hk with k | k | k | k
  · rw [if_pos k] at i8
    rw [if_neg (by omega)] at i10 i15
    have nb : ¬ b = true := fun h => by have := hb.mp h; omega
    exact wp_eq i8 (wp_neg one_ne (wp_neg one_ne (wp_eq i10 (wp_pos rfl (wp_eq i15 (wp_pos rfl (weak nb)))))))
  · rw [if_neg (by omega)] at i8
    rw [if_pos k] at i9
    rw [if_neg (by omega)] at i10 i15
    have nb : ¬ b = true := fun h => by have := hb.mp h; omega
    exact wp_eq i8 (wp_pos rfl (wp_eq i9 (wp_neg one_ne (wp_neg one_ne (wp_eq i10 (wp_pos rfl (wp_eq i15 (wp_pos rfl (weak nb)))))))))
  · rw [if_neg (by omega)] at i8 i9
    rw [if_pos k] at i10
    have nb := hb.mpr (Or.inl k)
    exact wp_eq i8 (wp_pos rfl (wp_eq i9 (wp_pos rfl (wp_eq i10 (wp_neg one_ne (wp_neg one_ne (wp_eq i10 (wp_neg one_ne (strong nb)))))))))
  · rw [if_neg (by omega)] at i8 i9 i10
    rw [if_pos k] at i15
    have nb := hb.mpr (Or.inr k)
    exact wp_eq i8 (wp_pos rfl (wp_eq i9 (wp_pos rfl (wp_eq i10 (wp_pos rfl (wp_eq i15 (wp_neg one_ne (wp_neg one_ne (wp_eq i10 (wp_pos rfl (wp_eq i15 (wp_neg one_ne (strong nb)))))))))))))
end YA
