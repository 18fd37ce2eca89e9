/-! Level 3, read: the reference's laws, where they lie. -/
def mbr (w : Wd) (fl ul b0 z0 f : Nat) (a b t : List Op) : Prop := (fl ≤ f ∧ f < b0) ∧ wI w 245 f = 1 ∧ ∃ u : Nat, ul ≤ u ∧ wI w 246 f = (u : Int) ∧ wI w 247 f = ((u + a.length : Nat) : Int) ∧ wI w 248 f = ((u + a.length + b.length : Nat) : Int) ∧ wI w 249 f = ((u + a.length + b.length + t.length : Nat) : Int) ∧ mcode w u a ∧ mcode w (u + a.length) b ∧ mcode w (u + a.length + b.length) t ∧ wk 15 a 0 = some 1 ∧ wk 15 b 0 = some 1 ∧ wk 15 t 0 = some 1 ∧ u + a.length + b.length + t.length ≤ z0
def mfin (w : Wd) (fl ul b0 z0 f : Nat) (e : List Op) : Prop := (fl ≤ f ∧ f < b0) ∧ wI w 245 f = 0 ∧ ∃ u : Nat, ul ≤ u ∧ wI w 248 f = (u : Int) ∧ wI w 249 f = ((u + e.length : Nat) : Int) ∧ mcode w u e ∧ wk 15 e 0 = some 1 ∧ u + e.length ≤ z0
def mpre (w : Wd) (fl ul b0 z0 : Nat) : Nat → Bs → Prop
  | _, [] => True
  | f, (a, b, t) :: bs => mbr w fl ul b0 z0 f a b t ∧ mpre w fl ul b0 z0 (f + 1) bs
def mlB (w : Wd) (fl ul b0 z0 f : Nat) (bs : Bs) (e : List Op) : Prop := mpre w fl ul b0 z0 f bs ∧ mfin w fl ul b0 z0 (f + bs.length) e
theorem mlB_mlaw {w : Wd} {fl ul b0 z0 : Nat} (hb : b0 ≤ 260) (hz : z0 ≤ 840) {e : List Op} : ∀ (bs : Bs) (f : Nat), mlB w fl ul b0 z0 f bs e → mlaw w f bs e
  | [], f, ⟨_, ⟨h1, h2⟩, h3, u, h4, h5, h6, h7, h8, h9⟩ => ⟨by show f < 260; have h2 : f < b0 := h2; omega, h3, u, h5, h6, h7, h8, by omega⟩
  | (a, b, t) :: bs, f, ⟨⟨⟨h1, h3, u, h4, h5, h6, h7, h8, h9, ha, hb', hc, hd, he, hf⟩, hp⟩, hm⟩ => ⟨⟨by omega, h3, u, h5, h6, h7, h8, h9, ha, hb', hc, hd, he, by omega⟩, mlB_mlaw hb hz bs (f + 1) ⟨hp, by
      have e2 : f + ((a, b, t) :: bs).length = f + 1 + bs.length := by simp; omega
      rw [e2] at hm
      exact hm⟩⟩
section MG
variable {w w1 : Wd} {fl ul b0 z0 b1 z1 : Nat}
def AGL (w w1 : Wd) (fl ul b0 z0 : Nat) : Prop := (∀ a k, 245 ≤ a → a ≤ 249 → fl ≤ k → k < b0 → wI w1 a k = wI w a k) ∧ (∀ a k, a = 250 ∨ a = 251 → ul ≤ k → k < z0 → wI w1 a k = wI w a k)
theorem mbr_ag {f : Nat} {a b t : List Op} (h : mbr w fl ul b0 z0 f a b t) (e : AGL w w1 fl ul b0 z0) (hb : b0 ≤ b1) (hz : z0 ≤ z1) : mbr w1 fl ul b1 z1 f a b t := by
  obtain ⟨⟨h1, h2⟩, h3, u, h4, h5, h6, h7, h8, h9, ha, hb', hc, hd, he, hf⟩ := h
  have c1 : ∀ k, ul ≤ k → k < z0 → wI w1 250 k = wI w 250 k ∧ wI w1 251 k = wI w 251 k := fun k k1 k2 => ⟨e.2 250 k (by omega) k1 k2, e.2 251 k (by omega) k1 k2⟩
  exact ⟨⟨h1, by omega⟩, (e.1 245 f (by omega) (by omega) h1 h2).trans h3, u, h4, (e.1 246 f (by omega) (by omega) h1 h2).trans h5, (e.1 247 f (by omega) (by omega) h1 h2).trans h6, (e.1 248 f (by omega) (by omega) h1 h2).trans h7, (e.1 249 f (by omega) (by omega) h1 h2).trans h8, mcode_ag _ _ (fun k k1 k2 => c1 k (by omega) (by omega)) h9, mcode_ag _ _ (fun k k1 k2 => c1 k (by omega) (by omega)) ha, mcode_ag _ _ (fun k k1 k2 => c1 k (by omega) (by omega)) hb', hc, hd, he, by omega⟩
theorem mfin_ag {f : Nat} {x : List Op} (h : mfin w fl ul b0 z0 f x) (e : AGL w w1 fl ul b0 z0) (hb : b0 ≤ b1) (hz : z0 ≤ z1) : mfin w1 fl ul b1 z1 f x := by
  obtain ⟨⟨h1, h2⟩, h3, u, h4, h5, h6, h7, h8, h9⟩ := h
  exact ⟨⟨h1, by omega⟩, (e.1 245 f (by omega) (by omega) h1 h2).trans h3, u, h4, (e.1 248 f (by omega) (by omega) h1 h2).trans h5, (e.1 249 f (by omega) (by omega) h1 h2).trans h6, mcode_ag _ _ (fun k k1 k2 => ⟨e.2 250 k (by omega) (by omega) (by omega), e.2 251 k (by omega) (by omega) (by omega)⟩) h7, h8, by omega⟩
theorem mpre_ag (e : AGL w w1 fl ul b0 z0) (hb : b0 ≤ b1) (hz : z0 ≤ z1) : ∀ (bs : Bs) (f : Nat), mpre w fl ul b0 z0 f bs → mpre w1 fl ul b1 z1 f bs
  | [], _, _ => trivial
  | (a, b, t) :: bs, f, h => ⟨mbr_ag h.1 e hb hz, mpre_ag e hb hz bs (f + 1) h.2⟩
theorem mpre_snoc {a b t : List Op} : ∀ (bs : Bs) (f : Nat), mpre w fl ul b0 z0 f bs → mbr w fl ul b0 z0 (f + bs.length) a b t → mpre w fl ul b0 z0 f (bs ++ [(a, b, t)])
  | [], f, _, h => ⟨h, trivial⟩
  | (a', b', t') :: bs, f, h1, h2 => ⟨h1.1, mpre_snoc bs (f + 1) h1.2 (by
      have e : f + ((a', b', t') :: bs).length = f + 1 + bs.length := by simp; omega
      rw [e] at h2
      exact h2)⟩
theorem mlB_ag (e : AGL w w1 fl ul b0 z0) (hb : b0 ≤ b1) (hz : z0 ≤ z1) {f : Nat} {bs : Bs} {x : List Op} (h : mlB w fl ul b0 z0 f bs x) : mlB w1 fl ul b1 z1 f bs x := ⟨mpre_ag e hb hz bs f h.1, mfin_ag h.2 e hb hz⟩
/-- a law told, or none -/
def mlo (w : Wd) (fl ul b0 z0 i : Nat) (q : Lo) : Prop := match q with
  | none => wI w 243 i = 0 ∧ wI w 244 i = 0
  | some (bs, e) => ∃ f : Nat, wI w 243 i = (f : Int) ∧ wI w 244 i = ((f + bs.length + 1 : Nat) : Int) ∧ mlB w fl ul b0 z0 f bs e
theorem mlo_at {i : Nat} {q : Lo} (hb : b0 ≤ 260) (hz : z0 ≤ 840) (h : mlo w fl ul b0 z0 i q) : mlawAt w i q := by
  match q, h with
  | none, h => exact h
  | some (bs, e), ⟨f, h1, h2, h3⟩ => exact ⟨f, h1, h2, mlB_mlaw hb hz _ _ h3⟩
theorem mlo_ag {i : Nat} {q : Lo} (h : mlo w fl ul b0 z0 i q) (e : AGL w w1 fl ul b0 z0) (hb : b0 ≤ b1) (hz : z0 ≤ z1) (e2 : wI w1 243 i = wI w 243 i ∧ wI w1 244 i = wI w 244 i) : mlo w1 fl ul b1 z1 i q := by
  match q, h with
  | none, h => exact ⟨e2.1.trans h.1, e2.2.trans h.2⟩
  | some (bs, x), ⟨f, h1, h2, h3⟩ => exact ⟨f, e2.1.trans h1, e2.2.trans h2, mlB_ag e hb hz h3⟩
end MG
section MH
variable {L wl dr tx : Nat} {c : Nat → Int} {N : Nat} {w : Wd}
theorem m_exprF (hO : Ok L wl dr tx w) (h0 : 0 < wI w 223 13) : Wp (Mo_expression 223 w) (fun w1 => Fr (fun a k => a = 223 ∧ k = 45) w w1) := by
  unfold Mo_expression Mo_expression_0
  generalize hFU : FU = fu; have hfu : 1000000 = fu := hFU
  obtain ⟨fv, rfl⟩ : ∃ fv, fu = fv + 1 := ⟨fu - 1, by omega⟩
  refine wp_gd hO rfl (wp_pI hO rfl (wp_gI hO.sI rfl ?_))
  rw [Mo_expression_12]
  unfold Mo_expression_272
  refine wp_neg one_ne (wp_gI hO.sI rfl (wp_neg ?_ (wp_ret (fr_sI ⟨rfl, rfl⟩))))
  rw [wI_ne (by omega)]
  omega
/-- a term behind a fault: two numbers are noted, no more -/
theorem m_term24 {b : Nat} (hO : Ok L wl dr tx w) (hb : b < 260) (h35 : wI w 223 35 = (b : Int)) : Wp (Mo_term_24 223 w) (fun w1 => Fr (fun a k => (a = 249 ∧ k = b) ∨ (a = 223 ∧ k = 35)) w w1 ∧ wI w1 223 35 = ((b + 1 : Nat) : Int) ∧ wI w1 249 b = wI w 223 41) := by
  unfold Mo_term_24
  refine wp_R12_40 hO (wp_gI hO rfl (wp_gI hO rfl ?_))
  rw [h35]
  refine wp_wI hO rfl (by omega) ?_
  rw [Int.toNat_natCast]
  generalize hw1 : sI w 249 b (wI w 223 41) = w1
  have hO1 : Ok L wl dr tx w1 := by rw [← hw1]; exact hO.sI
  have f1 : Fr (fun a k => (a = 249 ∧ k = b) ∨ (a = 223 ∧ k = 35)) w w1 := by rw [← hw1]; exact fr_sI (by omega)
  have v1 : wI w1 249 b = wI w 223 41 := by rw [← hw1, wI_eq]
  have u1 : wI w1 223 35 = (b : Int) := by rw [← hw1, wI_ne (by omega), h35]
  clear hw1
  refine wp_gI hO1 rfl ?_
  rw [u1, w32_id (by omega) (by omega)]
  refine wp_pI hO1 rfl (wp_ret ⟨f1.sI (by omega), ?_, ?_⟩)
  · rw [wI_eq]; omega
  · rw [wI_ne (by omega), v1]
theorem m_termF {b : Nat} (hO : Ok L wl dr tx w) (h0 : 0 < wI w 223 13) (hb : b < 260) (h35 : wI w 223 35 = (b : Int)) : Wp (Mo_term 223 w) (fun w1 => Fr (fun a k => ((a = 248 ∨ a = 249) ∧ k = b) ∨ (a = 223 ∧ k = 35)) w w1 ∧ wI w1 223 35 = ((b + 1 : Nat) : Int)) := by
  unfold Mo_term Mo_term_0
  refine wp_gd hO rfl (wp_R12_39 hO (wp_gI hO rfl (wp_gI hO rfl ?_)))
  rw [h35]
  refine wp_wI hO rfl (by omega) ?_
  rw [Int.toNat_natCast]
  generalize hw1 : sI w 248 b (wI w 223 41) = w1
  have hO1 : Ok L wl dr tx w1 := by rw [← hw1]; exact hO.sI
  have f1 : Fr (fun a k => ((a = 248 ∨ a = 249) ∧ k = b) ∨ (a = 223 ∧ k = 35)) w w1 := by rw [← hw1]; exact fr_sI (by omega)
  have n1 : ∀ k, wI w1 223 k = wI w 223 k := fun k => by rw [← hw1, wI_ne (by omega)]
  clear hw1
  refine wp_gI hO1 rfl (wp_neg ?_ (wp_use (m_term24 hO1 hb ((n1 _).trans h35)) (fun w2 g => ⟨f1.tr (g.1.mono (fun a k q => by omega)), g.2.1⟩)))
  rw [n1]; omega
/-- a term: its code from z on -/
theorem m_term {t b z cb : Nat} (hcb : cb ≤ 420) (hO : Ok L wl dr tx w) (hT : MT c N w) (h13 : wI w 223 13 = 0) (hC : MCU c N w t) (h12 : wI w 223 12 = 0) (hb : b < 260) (h35 : wI w 223 35 = (b : Int)) (h41 : wI w 223 41 = (z : Int)) (hz : z + 2 ≤ cb + t) : Wp (Mo_term 223 w) (fun w1 => Fr (fun a k => PE cb z a k ∨ ((a = 248 ∨ a = 249) ∧ k = b) ∨ (a = 223 ∧ k = 35)) w w1 ∧ wI w1 223 35 = ((b + 1 : Nat) : Int) ∧ match smx (kK c N) (kV c N) 20 0 t with
    | .inl e => ERR c N w1 e
    | .inr q => wI w1 223 13 = 0 ∧ MCU c N w1 q.1 ∧ wI w1 223 12 = 0 ∧ wI w1 223 41 = ((z + q.2.length : Nat) : Int) ∧ mcode w1 z q.2 ∧ wI w1 248 b = (z : Int) ∧ wI w1 249 b = ((z + q.2.length : Nat) : Int)) := by
  unfold Mo_term Mo_term_0
  refine wp_gd hO rfl (wp_R12_39 hO (wp_gI hO rfl (wp_gI hO rfl ?_)))
  rw [h35, h41]
  refine wp_wI hO rfl (by omega) ?_
  rw [Int.toNat_natCast]
  generalize hw1 : sI w 248 b (z : Int) = w1
  have hO1 : Ok L wl dr tx w1 := by rw [← hw1]; exact hO.sI
  have f1 : Fr (fun a k => PE cb z a k ∨ ((a = 248 ∨ a = 249) ∧ k = b) ∨ (a = 223 ∧ k = 35)) w w1 := by rw [← hw1]; exact fr_sI (by omega)
  have n1 : ∀ a k, a ≠ 248 → wI w1 a k = wI w a k := fun a k q => by rw [← hw1, wI_ne (by omega)]
  have v1 : wI w1 248 b = (z : Int) := by rw [← hw1, wI_eq]
  have hT1 : MT c N w1 := hT.eq (fun a k q1 q2 => n1 a k (by omega)) (fun k => by rw [← hw1, wL_sI])
  clear hw1
  refine wp_gI hO1 rfl (wp_pos ((n1 _ _ (by omega)).trans h13) (wp_call (m_expr hcb hO1 hT1 ((n1 _ _ (by omega)).trans h13) ⟨hC.1, (n1 _ _ (by omega)).trans hC.2⟩ ((n1 _ _ (by omega)).trans h12) ((n1 _ _ (by omega)).trans h41) hz) (fun w2 g => ?_)))
  obtain ⟨f2, g⟩ := g
  have hO2 := f2.ok hO1
  refine wp_use (m_term24 hO2 hb ((f2.at 223 35 (by unfold PE; omega)).trans ((n1 _ _ (by omega)).trans h35))) (fun w3 g3 => ?_)
  obtain ⟨f3, g3, g4⟩ := g3
  refine ⟨(f1.tr (f2.mono (fun a k q => Or.inl q))).tr (f3.mono (fun a k q => by omega)), g3, ?_⟩
  generalize smx (kK c N) (kV c N) 20 0 t = r at g
  cases r with
  | inl e => exact g.eq (fun k q => f3.at _ _ (by omega))
  | inr q =>
    obtain ⟨a1, a2, a3, a4, a5⟩ := g
    refine ⟨(f3.at _ _ (by omega)).trans a1, ⟨a2.1, (f3.at _ _ (by omega)).trans a2.2⟩, (f3.at _ _ (by omega)).trans a3, (f3.at _ _ (by omega)).trans a4, mcode_ag _ _ (fun k _ _ => ⟨f3.at _ _ (by omega), f3.at _ _ (by omega)⟩) a5, ?_, ?_⟩
    · rw [f3.at 248 b (by omega), f2.at 248 b (by unfold PE; omega), v1]
    · rw [g4, a4]
end MH
