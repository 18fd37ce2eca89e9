/-! Level 3, read: the reference's terms are those of the grammar. -/
section YC
variable {L wl dr tx : Nat} {c : Nat → Int} {N cb z0 : Nat} {w0 : Wd}
def YU (c : Nat → Int) (N cb z0 : Nat) (w0 : Wd) (f : Nat → Nat → Xr) (d : Nat) : Prop := ∀ (Q : Wd → Prop) (n m t cc : Nat) (S : List Nat) (w : Wd), 401 < n + t → 401 < m + t → YS c N cb w S cc t d → Fr (PE cb z0) w0 w → z0 ≤ cc →
    (∀ e, f d t = .inl e → ∀ w1, ERR c N w1 e → Fr (PE cb z0) w0 w1 → Q w1) →
    (∀ t' e, f d t = .inr (t', e) → ∀ n' m' w1, 401 < n' + t' → 401 < m' + t' → YS c N cb w1 S (cc + e.length) t' d → mcode w1 cc e → KEEP w w1 cc → Fr (PE cb z0) w0 w1 → Wp (Mo_expression_96 (Mo_expression_12 n') m' 223 0 w1) Q) →
    Wp (Mo_expression_23 (Mo_expression_12 n) m 223 0 w) Q
def YP (c : Nat → Int) (N cb z0 : Nat) (w0 : Wd) (f : Nat → Nat → Xr) (d : Nat) : Prop := ∀ (Q : Wd → Prop) (n m t cc : Nat) (S : List Nat) (w : Wd), 401 < n + t → 401 < m + t → stops true S → S.length ≤ 3 * d + 1 → YS c N cb w S cc t d → Fr (PE cb z0) w0 w → z0 ≤ cc →
    (∀ e, f d t = .inl e → ∀ w1, ERR c N w1 e → Fr (PE cb z0) w0 w1 → Q w1) →
    (∀ t' e, f d t = .inr (t', e) → kK c N t' ≠ 10 ∧ kK c N t' ≠ 15 → ∀ n' m' w1 q e1, 401 < n' + t' → 401 < m' + t' → (q = [] ∨ q = [10] ∨ q = [15]) → YS c N cb w1 (q ++ S) (cc + e1.length) t' d → mcode w1 cc e1 → e = e1 ++ fls q → KEEP w w1 cc → Fr (PE cb z0) w0 w1 → Wp (Mo_expression_96 (Mo_expression_12 n') m' 223 0 w1) Q) →
    Wp (Mo_expression_23 (Mo_expression_12 n) m 223 0 w) Q
def YX (c : Nat → Int) (N cb z0 : Nat) (w0 : Wd) (f : Nat → Nat → Xr) (d : Nat) : Prop := ∀ (Q : Wd → Prop) (n m t cc : Nat) (S : List Nat) (w : Wd), 401 < n + t → 401 < m + t → stops false S → S.length ≤ 3 * d → YS c N cb w S cc t d → Fr (PE cb z0) w0 w → z0 ≤ cc →
    (∀ e, f d t = .inl e → ∀ w1, ERR c N w1 e → Fr (PE cb z0) w0 w1 → Q w1) →
    (∀ t' e, f d t = .inr (t', e) → (kK c N t' ≠ 8 ∧ kK c N t' ≠ 9 ∧ kK c N t' ≠ 10 ∧ kK c N t' ≠ 15) → ∀ n' m' w1 q e1, 401 < n' + t' → 401 < m' + t' → outs false q → YS c N cb w1 (q ++ S) (cc + e1.length) t' d → mcode w1 cc e1 → e = e1 ++ fls q → KEEP w w1 cc → Fr (PE cb z0) w0 w1 → Wp (Mo_expression_96 (Mo_expression_12 n') m' 223 0 w1) Q) →
    Wp (Mo_expression_23 (Mo_expression_12 n) m 223 0 w) Q
theorem fls_len (q : List Nat) : (fls q).length = q.length := by unfold fls; simp
theorem fls_app (p q : List Nat) : fls (p ++ q) = fls p ++ fls q := by unfold fls; simp
theorem y_un {rs : Nat → Nat → Xr} {d : Nat} (hcb : cb ≤ 420) (hO0 : Ok L wl dr tx w0) (hT0 : MT c N w0) (hr : d < 6 → YX c N cb z0 w0 rs (d + 1)) : YU c N cb z0 w0 (un (kK c N) (kV c N) rs) d := by
  intro Q n m t cc S w hn hm hY hF h0 hinl hinr
  have hY' := hY
  obtain ⟨y1, y2, y3, ⟨y4, y5, y6⟩, y7, y8, y9, y10⟩ := hY
  have hO := hF.ok hO0
  have hT := hT0.pe hF
  have h4 := y2.1.1
  obtain ⟨m', rfl⟩ : ∃ m', m = m' + 1 := ⟨m - 1, by omega⟩
  rw [Mo_expression_23]
  have i6 := q_is (x := 6) hO hT y2 y1
  have eu : un (kK c N) (kV c N) rs d t = if kK c N t = 2 then sb (ps1 t) (fun t' => .inr (t', [(0, kV c N t)])) else if kK c N t = 20 then sb (ps1 t) (fun t' => .inr (t', [(1, 1)])) else if 31 ≤ kK c N t ∧ kK c N t ≤ 36 then sb (ps1 t) (fun t' => .inr (t', [(1, if kK c N t = 31 then 0 else (kK c N t : Int) - 30)])) else if kK c N t = 6 then (if d < 6 then sb (ps1 t) (fun t1 => sb (rs (d + 1) t1) (fun q => sb (ex (kK c N) 7 q.1) (fun t2 => .inr (t2, q.2)))) else .inl (2, t)) else .inl (1, t) := rfl
  -- one token
  have one : ∀ (k : Nat) (v : Int), ((kK c N t = 2 ∧ k = 0 ∧ v = kV c N t) ∨ (kK c N t = 20 ∧ k = 1 ∧ v = 1) ∨ ((31 ≤ kK c N t ∧ kK c N t ≤ 36) ∧ k = 1 ∧ v = if kK c N t = 31 then 0 else (kK c N t : Int) - 30)) → un (kK c N) (kV c N) rs d t = sb (ps1 t) (fun t' => .inr (t', [(k, v)])) → Wp (Mo_expression_84 (Mo_expression_12 n) 223 0 w) Q := by
    intro k v hk he
    unfold Mo_expression_84
    refine wp_call (m_unit1 hcb hO hT y2 y1 y7 (by omega) hk) (fun w1 g => ?_)
    obtain ⟨f1, g0, g1, g2, g⟩ := g
    have f1' : Fr (PE cb z0) w0 w1 := hF.tr (f1.mono (fun a i q => by unfold PE; omega))
    have hO1 := f1'.ok hO0
    refine wp_gI hO1 rfl ?_
    generalize hp : ps1 t = p at g
    rw [hp] at he
    cases p with
    | inl e =>
      refine wp_neg ?_ (wp_ret (hinl e he w1 g f1'))
      rw [g.2.1]; have := g.1; omega
    | inr t' =>
      obtain ⟨g6, g7⟩ := g
      obtain ⟨p1, rfl⟩ := ps1_inr hp
      refine wp_pos (by omega) (hinr (t + 1) _ he n FU w1 (by omega) (by unfold FU; omega) ⟨g7, g6, (f1.at 223 12 (by omega)).trans y3, ⟨(f1.at 223 45 (by omega)).trans y4, wst_eq _ (fun i _ => f1.at 252 i (by omega)) y5, y6⟩, g0, ?_, y9, y10⟩ ⟨g1, g2, trivial⟩ (fun i hi => ⟨f1.at _ _ (by omega), f1.at _ _ (by omega)⟩) f1')
      show cc + 1 + nop S + 2 ≤ cb + (t + 1)
      omega
  by_cases k2 : kK c N t = 2
  · rw [if_pos k2] at eu
    rw [if_neg (by omega)] at i6
    exact wp_eq i6 (wp_pos rfl (one 0 _ (Or.inl ⟨k2, rfl, rfl⟩) eu))
  rw [if_neg k2] at eu
  by_cases k20 : kK c N t = 20
  · rw [if_pos k20] at eu
    rw [if_neg (by omega)] at i6
    exact wp_eq i6 (wp_pos rfl (one 1 _ (Or.inr (Or.inl ⟨k20, rfl, rfl⟩)) eu))
  rw [if_neg k20] at eu
  by_cases k31 : 31 ≤ kK c N t ∧ kK c N t ≤ 36
  · rw [if_pos k31] at eu
    rw [if_neg (by omega)] at i6
    exact wp_eq i6 (wp_pos rfl (one 1 _ (Or.inr (Or.inr ⟨k31, rfl, rfl⟩)) eu))
  rw [if_neg k31] at eu
  by_cases k6 : kK c N t = 6
  · rw [if_pos k6] at eu i6
    refine wp_eq i6 (wp_neg one_ne (wp_gI hO rfl ?_))
    show Wp (if wI w 223 12 = 6 then _ else _) _
    rw [y3]
    by_cases h6 : d < 6
    · rw [if_pos h6] at eu
      refine wp_neg (by omega) ?_
      unfold Mo_expression_46
      refine wp_gI hO rfl ?_
      show Wp ((fpI w 223 12 12 (w32 (wI w 223 12 + 1))).bind _) Q
      rw [y3, w32_id (by omega) (by omega), show (d : Int) + 1 = ((d + 1 : Nat) : Int) by omega]
      refine wp_pI hO rfl ?_
      generalize hw1 : sI w 223 12 ((d + 1 : Nat) : Int) = w1
      have f1 : Fr (PE cb z0) w0 w1 := by rw [← hw1]; exact hF.sI (by unfold PE; omega)
      have n1 : ∀ a k, a ≠ 223 ∨ k ≠ 12 → wI w1 a k = wI w a k := fun a k q => by rw [← hw1, wI_ne (by omega)]
      have v1 : wI w1 223 12 = ((d + 1 : Nat) : Int) := by rw [← hw1, wI_eq]
      clear hw1
      have hO1 := f1.ok hO0
      have C1 : MCU c N w1 t := ⟨y2.1, (n1 _ _ (by omega)).trans y2.2⟩
      refine wp_call (m_goesOn hO1 (hT0.pe f1) C1 ((n1 _ _ (by omega)).trans y1) (by omega)) (fun w2 g => ?_)
      obtain ⟨f2, g⟩ := g
      have f2' : Fr (PE cb z0) w0 w2 := f1.tr (f2.mono (fun a k q => by unfold PGo at q; unfold PE; omega))
      have hO2 := f2'.ok hO0
      have n2 : ∀ a k, a ≠ 223 ∨ (k ≠ 11 ∧ k ≠ 12 ∧ k ≠ 13 ∧ k ≠ 14) → wI w2 a k = wI w a k := fun a k q => (f2.at a k (by unfold PGo; omega)).trans (n1 a k (by omega))
      refine wp_R12_44 hO2 (wp_gI hO2 rfl ?_)
      rw [n2 _ _ (by omega), y4]
      refine wp_wI hO2 rfl (by omega) ?_
      rw [Int.toNat_natCast]
      generalize hw3 : sI w2 252 S.length 6 = w3
      have f3 : Fr (PE cb z0) w0 w3 := by rw [← hw3]; exact f2'.sI (by unfold PE; omega)
      have n3 : ∀ a k, a ≠ 252 → wI w3 a k = wI w2 a k := fun a k q => by rw [← hw3, wI_ne (by omega)]
      have s3 : wst w3 (6 :: S) := ⟨by rw [← hw3, wI_eq]; rfl, wst_eq S (fun k hk => by rw [← hw3, wI_ne (by omega), n2 _ _ (by omega)]) y5⟩
      clear hw3
      have hO3 := f3.ok hO0
      refine wp_gI hO3 rfl ?_
      rw [n3 _ _ (by omega), n2 _ _ (by omega), y4, w32_id (by omega) (by omega), show (S.length : Int) + 1 = ((S.length + 1 : Nat) : Int) by omega]
      refine wp_pI hO3 rfl ?_
      generalize hw4 : sI w3 223 45 ((S.length + 1 : Nat) : Int) = w4
      have f4 : Fr (PE cb z0) w0 w4 := by rw [← hw4]; exact f3.sI (by unfold PE; omega)
      have n4 : ∀ a k, a ≠ 252 → (a ≠ 223 ∨ k ≠ 45) → wI w4 a k = wI w2 a k := fun a k q1 q2 => by rw [← hw4, wI_ne (by omega), n3 a k q1]
      have s4 : wst w4 (6 :: S) := wst_eq _ (fun k _ => by rw [← hw4, wI_ne (by omega)]) s3
      have v4 : wI w4 223 45 = ((S.length + 1 : Nat) : Int) := by rw [← hw4, wI_eq]
      clear hw4
      have hO4 := f4.ok hO0
      generalize hp : ps1 t = p at g
      rw [hp] at eu
      cases p with
      | inl e =>
        have E4 : ERR c N w4 e := g.eq (fun k q => n4 _ _ (by omega) (by omega))
        exact y_deadop (by omega) hO4 E4 (hinl e eu w4 E4 f4)
      | inr t' =>
        obtain ⟨g6, g7⟩ := g
        obtain ⟨p1, rfl⟩ := ps1_inr hp
        have eu : un (kK c N) (kV c N) rs d t = sb (rs (d + 1) (t + 1)) (fun q => sb (ex (kK c N) 7 q.1) (fun t2 => .inr (t2, q.2))) := eu
        have Y4 : YS c N cb w4 (6 :: S) cc (t + 1) (d + 1) := by
          refine ⟨(n4 _ _ (by omega) (by omega)).trans g7, ⟨g6.1, (n4 _ _ (by omega) (by omega)).trans g6.2⟩, ?_, ⟨v4, s4, fun k hk => ?_⟩, ?_, ?_, ?_, by omega⟩
          · rw [n4 _ _ (by omega) (by omega), f2.at 223 12 (by unfold PGo; omega), v1]
          · rcases List.mem_cons.mp hk with e | e
            · exact Or.inl e
            · exact y6 k e
          · rw [n4 _ _ (by omega) (by omega), n2 _ _ (by omega), y7]
          · show cc + ((if (6 : Nat) = 6 then 0 else 1) + nop S) + 2 ≤ cb + (t + 1)
            rw [if_pos rfl]; omega
          · show S.length + 1 ≤ 3 * (d + 1) + 2
            omega
        refine hr h6 Q n m' (t + 1) cc (6 :: S) w4 (by omega) (by omega) (Or.inl rfl) (by show S.length + 1 ≤ 3 * (d + 1); omega) Y4 f4 h0 (fun e he w5 h5 f5 => hinl e (by rw [eu, he]; rfl) w5 h5 f5) (fun t2 e2 he hk n' m'' w5 q e1 hn' hm'' hq Y5 M5 he1 K5 F5 => ?_)
        rw [he] at eu
        have eu : un (kK c N) (kV c N) rs d t = sb (ex (kK c N) 7 t2) (fun t3 => .inr (t3, e2)) := eu
        have t24 := Y5.2.1.1.1
        by_cases k7 : kK c N t2 = 7
        · have ex7 : ex (kK c N) 7 t2 = ps1 t2 := if_pos k7
          rw [ex7] at eu
          refine y_close hcb hO0 hT0 (by omega) Y5 F5 (by omega) k7 hq y9 (fun e he' w6 h6' f6 => hinl e (by rw [eu, he']; rfl) w6 h6' f6) (fun he' w6 Y6 M6 K6 F6 => ?_)
          rw [he'] at eu
          have el : e2.length = e1.length + q.length := by rw [he1, List.length_append, fls_len]
          refine hinr (t2 + 1) e2 eu n' (m'' - 1) w6 (by omega) (by omega) ?_ ?_ (fun k hk' => ?_) F6
          · rw [el, ← Nat.add_assoc]; exact Y6
          · rw [he1]
            exact mcode_app _ _ _ (mcode_ag _ _ (fun k k1 k2 => K6 k (by omega)) M5) M6
          · have a1 := K6 k (by omega)
            have a2 := K5 k hk'
            exact ⟨by rw [a1.1, a2.1, n4 _ _ (by omega) (by omega), n2 _ _ (by omega)], by rw [a1.2, a2.2, n4 _ _ (by omega) (by omega), n2 _ _ (by omega)]⟩
        · have ex7 : ex (kK c N) 7 t2 = .inl (1, t2) := if_neg k7
          rw [ex7] at eu
          exact y_end hcb hO0 hT0 (by omega) Y5 F5 (by omega) hk (Or.inl k7) (fun _ w6 h6' f6 => hinl (1, t2) eu w6 h6' f6) (fun hd0 => absurd hd0 (by omega))
    · rw [if_neg h6] at eu
      refine wp_pos (by omega) (wp_call (m_fail (x := 2) (by omega) hO hT y2 y1) (fun w1 g => ?_))
      obtain ⟨f1, E1⟩ := g
      have f1' : Fr (PE cb z0) w0 w1 := hF.tr (f1.mono (fun a k q => by unfold PFl at q; unfold PE; omega))
      have hO1 := f1'.ok hO0
      unfold Mo_expression_46
      refine wp_gI hO1 rfl (wp_pI hO1 rfl ?_)
      generalize hw2 : sI w1 223 12 (w32 (wI w1 223 12 + 1)) = w2
      have f2 : Fr (PE cb z0) w0 w2 := by rw [← hw2]; exact f1'.sI (by unfold PE; omega)
      have E2 : ERR c N w2 (2, t) := E1.eq (fun k q => by rw [← hw2, wI_ne (by omega)])
      have v2 : wI w2 223 45 = (S.length : Int) := by rw [← hw2, wI_ne (by omega), f1.at 223 45 (by unfold PFl; omega), y4]
      clear hw2
      have hO2 := f2.ok hO0
      have hf2 : 0 < wI w2 223 13 := by have := E2.1; have := E2.2.1; omega
      refine wp_call (m_goesOnF hO2 hf2) (fun w3 f3 => ?_)
      have f3' : Fr (PE cb z0) w0 w3 := f2.tr (f3.mono (fun a k q => by unfold PE; omega))
      have hO3 := f3'.ok hO0
      have E3 : ERR c N w3 (2, t) := E2.eq (fun k q => f3.at _ _ (by omega))
      have v3 : wI w3 223 45 = (S.length : Int) := (f3.at _ _ (by omega)).trans v2
      refine wp_R12_44 hO3 (wp_gI hO3 rfl ?_)
      rw [v3]
      refine wp_wI hO3 rfl (by omega) (wp_gI hO3.sI rfl (wp_pI hO3.sI rfl ?_))
      rw [Int.toNat_natCast]
      generalize hw4 : sI (sI w3 252 S.length 6) 223 45 (w32 (wI (sI w3 252 S.length 6) 223 45 + 1)) = w4
      have f4 : Fr (PE cb z0) w0 w4 := by rw [← hw4]; exact (f3'.sI (by unfold PE; omega)).sI (by unfold PE; omega)
      have E4 : ERR c N w4 (2, t) := E3.eq (fun k q => by rw [← hw4, wI_ne (by omega), wI_ne (by omega)])
      exact y_deadop (by omega) (f4.ok hO0) E4 (hinl (2, t) eu w4 E4 f4)
  · rw [if_neg k6] at eu i6
    refine wp_eq i6 (wp_pos rfl ?_)
    unfold Mo_expression_84
    refine wp_call (m_unit0 hO hT y2 y1 ⟨k2, k20, k31⟩) (fun w1 g => ?_)
    obtain ⟨f1, E1⟩ := g
    have f1' : Fr (PE cb z0) w0 w1 := hF.tr (f1.mono (fun a k q => by unfold PFl at q; unfold PE; omega))
    refine wp_gI (f1'.ok hO0) rfl (wp_neg ?_ (wp_ret (hinl (1, t) eu w1 E1 f1')))
    rw [E1.2.1]
    show ¬ ((1 : Nat) : Int) ≤ 0
    omega
end YC
