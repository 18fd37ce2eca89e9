/-! Level 3, read: the reference tells a law, whole. -/
section MM
variable {L wl dr tx : Nat} {c : Nat → Int} {N bb cb f0 z00 : Nat} {ix x : Int} {w0 : Wd}
theorem AGL.tr {w w1 w2 : Wd} {fl ul b z : Nat} (h : AGL w w1 fl ul b z) (h2 : AGL w1 w2 fl ul b z) : AGL w w2 fl ul b z := ⟨fun a k k1 k2 k3 k4 => (h2.1 a k k1 k2 k3 k4).trans (h.1 a k k1 k2 k3 k4), fun a k k1 k2 k3 => (h2.2 a k k1 k2 k3).trans (h.2 a k k1 k2 k3)⟩
def lwG (c : Nat → Int) (N : Nat) (q : Nat × (Bs × List Op)) : Sum Ft (Nat × (Bs × List Op)) := sb (ex (kK c N) 4 q.1) (fun t' => .inr (t', q.2))
theorem lwl_else {n t : Nat} {bs : Bs} (h : kK c N t ≠ 28) : sb (lwl (kK c N) (kV c N) n t bs) (lwG c N) = sb (smx (kK c N) (kV c N) 20 0 t) (fun q => sb (ex (kK c N) 4 q.1) (fun t' => .inr (t', (bs, q.2)))) := by
  have e : lwl (kK c N) (kV c N) n t bs = sb (smx (kK c N) (kV c N) 20 0 t) (fun q => .inr (q.1, (bs, q.2))) := by
    cases n with
    | zero => rw [lwl, if_neg h]
    | succ n => rw [lwl, if_neg h]
  rw [e, sb_as]
  rfl
def lwF2 (c : Nat → Int) (N n : Nat) (bs : Bs) (a a2 : List Op) (v : Nat × List Op) : Sum Ft (Nat × (Bs × List Op)) := sb (lwl (kK c N) (kV c N) n v.1 (bs ++ [(a, a2, v.2)])) (lwG c N)
def lwF1 (c : Nat → Int) (N n : Nat) (bs : Bs) (u : Nat × (List Op × List Op)) : Sum Ft (Nat × (Bs × List Op)) := sb (ex (kK c N) 29 u.1) (fun t5 => sb (smx (kK c N) (kV c N) 20 0 t5) (fun q => sb (ex (kK c N) 30 q.1) (fun t7 => lwF2 c N n bs u.2.1 u.2.2 (t7, q.2))))
theorem lwl_then {n t : Nat} {bs : Bs} (h : kK c N t = 28) : sb (lwl (kK c N) (kV c N) (n + 1) t bs) (lwG c N) = sb (ps1 t) (fun t1 => sb (smx (kK c N) (kV c N) 20 0 t1) (fun a => sb (ex (kK c N) 13 a.1) (fun t2 => sb (smx (kK c N) (kV c N) 20 0 t2) (fun b => lwF1 c N n bs (b.1, (a.2, b.2)))))) := by
  rw [lwl, if_pos h]
  unfold lw1
  simp only [sb_as]
  rfl
theorem m_lw12 (hbb : bb ≤ 130) (hcb : cb ≤ 420) (hf0 : bb ≤ f0) (hO0 : Ok L wl dr tx w0) (hT0 : MT c N w0) {sd' : Nat} (hsd : sd' ≤ 1) (hx : x ≤ 9) (hix : ix = if 0 ≤ x then 10 * (sd' : Int) + x else -1) : ∀ (n m i t : Nat) (bs : Bs) (z : Nat) (w : Wd), i + n = 4 → n < m → z00 ≤ z → LMI c N bb cb f0 sd' w t bs z → Fr (PLm bb cb f0 z00 ix) w0 w → Wp (Mo_tellLaw_12 m 223 x (f0 : Int) (i : Int) w) (MRS c N (PLm bb cb f0 z00 ix) w0 (sb (lwl (kK c N) (kV c N) n t bs) (lwG c N)) (LMO c N bb cb f0 z00 ix x))
  | _, 0, _, _, _, _, _, _, hm, _, _, _ => absurd hm (by omega)
  | n, m + 1, i, t, bs, z, w, hi, hm, hz, hI, hF => by
    have hO := hF.ok hO0
    rw [Mo_tellLaw_12]
    refine wp_gI hO rfl (wp_pos hI.1 (wp_eq (q_is (x := 28) hO (hT0.lm hF) hI.2.1 hI.1) ?_))
    by_cases k : kK c N t = 28
    · rw [if_pos k]
      refine wp_neg one_ne ?_
      cases n with
      | zero =>
        refine wp_pos (by omega) (wp_call (m_fail (x := 2) (by omega) hO (hT0.lm hF) hI.2.1 hI.1) (fun w1 g => ?_))
        unfold Mo_tellLaw_38
        have f1 : Fr (PLm bb cb f0 z00 ix) w0 w1 := hF.tr (g.1.mono (fun a k q => by unfold PFl at q; unfold PLm; omega))
        have := err_pos g.2
        refine wp_gI (f1.ok hO0) rfl (wp_neg (by omega) (wp_ret ?_))
        rw [lwl, if_pos k]
        exact ⟨f1, g.2⟩
      | succ n =>
        rw [lwl_then k]
        have i8 := hI.2.2.2.2.2.2.2.1
        have i6 := hI.2.2.2.2.2.1
        refine wp_neg (by omega) (m_lw38 (m := m) (i := i) (F := lwF1 c N n bs) hbb hcb hf0 hz hO0 hT0 (by omega) (by omega) hF hI k (fun t' a a2 w1 f1 h1 h2 h3 h4 h5 h6 h7 h8 h9 v1 v2 v3 M1 M2 W1 W2 => ?_))
        refine m_lw110 (F := lwF2 c N n bs a a2) hbb hcb hf0 hz hO0 hT0 (by omega) f1 h1 h2 h3 h4 h5 h6 i6 (by omega) (by omega) h8 v1 v2 v3 M1 M2 W1 W2 (fun t2 a3 w2 f2 p1 p2 p3 p4 p5 p6 p7 p8 p9 B => ?_)
        have el : f0 + (bs ++ [(a, a2, a3)]).length = f0 + bs.length + 1 := by rw [List.length_append]; rfl
        refine m_lw12 hbb hcb hf0 hO0 hT0 hsd hx hix n m (i + 1) t2 (bs ++ [(a, a2, a3)]) (z + a.length + a2.length + a3.length) w2 (by omega) (by omega) (by omega) ⟨p1, p2, p3, ?_, p5, by omega, p6, ?_, ?_, p8⟩ f2
        · rw [p4, el]
        · rw [el]; omega
        · rw [el]
          exact mpre_snoc bs f0 (mpre_ag (h9.tr p9) (by omega) (by omega) _ _ hI.2.2.2.2.2.2.2.2.1) B
    · rw [if_neg k, lwl_else k]
      exact wp_pos rfl (m_lw129 hbb hcb hf0 hz hO0 hT0 hsd hx hix hI hF)
theorem m_tellLawF {w : Wd} {e : Ft} {b : Nat} (hbb : bb ≤ 130) (hO : Ok L wl dr tx w) (hE : ERR c N w e) (h35 : wI w 223 35 = (b : Int)) (hb : b < bb + 130) : Wp (Mo_tellLaw 223 x w) (fun w1 => Fr (PLm bb cb b z00 ix) w w1 ∧ ERR c N w1 e) := by
  unfold Mo_tellLaw Mo_tellLaw_0
  generalize hFU : FU = fu; have hfu : 1000000 = fu := hFU
  refine wp_gd hO rfl (wp_eq (m_mustF hO (err_pos hE)) (wp_gI hO rfl ?_))
  rw [h35]
  exact m_lw12F hbb (by omega) hO hE h35 (by omega) (Fr.rf w)
/-- a law is told, from '=' to ';' -/
theorem m_tellLaw {w : Wd} {t b z sd' : Nat} (hbb : bb ≤ 130) (hcb : cb ≤ 420) (hsd : sd' ≤ 1) (hx : x ≤ 9) (hix : ix = if 0 ≤ x then 10 * (sd' : Int) + x else -1) (hO : Ok L wl dr tx w) (hT : MT c N w) (h13 : wI w 223 13 = 0) (hC : MCU c N w t) (h12 : wI w 223 12 = 0) (h35 : wI w 223 35 = (b : Int)) (h41 : wI w 223 41 = (z : Int)) (hcz : cb ≤ z) (hz : z + 1 ≤ cb + t) (hbl : bb ≤ b) (hb : 4 * b + 1 ≤ 4 * bb + t) (h19 : wI w 223 19 = (sd' : Int)) : Wp (Mo_tellLaw 223 x w) (MRS c N (PLm bb cb b z ix) w (sb (law' (kK c N) (kV c N) t) (lwG c N)) (LMO c N bb cb b z ix x)) := by
  have t4 := hC.1.1
  unfold Mo_tellLaw Mo_tellLaw_0
  generalize hFU : FU = fu; have hfu : 1000000 = fu := hFU
  refine wp_gd hO rfl (wp_call (m_must (x := 5) hO hT hC h13 (by omega)) (fun w1 g => ?_))
  obtain ⟨f1, g⟩ := g
  have f1' : Fr (PLm bb cb b z ix) w w1 := f1.mono (fun a k q => by unfold PGo at q; unfold PLm; omega)
  have hO1 := f1.ok hO
  have n1 : ∀ a k, a ≠ 223 ∨ (k ≠ 11 ∧ k ≠ 13 ∧ k ≠ 14) → wI w1 a k = wI w a k := fun a k q => f1.at a k (by unfold PGo; omega)
  have b1 : wI w1 223 35 = (b : Int) := (n1 _ _ (by omega)).trans h35
  refine wp_gI hO1 rfl ?_
  rw [b1]
  unfold law'
  rw [sb_as]
  generalize hx5 : ex (kK c N) 5 t = y at g
  cases y with
  | inl e => exact m_lw12F hbb (by omega) hO g b1 (by omega) f1'
  | inr t1 =>
    have e := ex_inr hx5
    exact m_lw12 hbb hcb hbl hO hT hsd hx hix 4 fu 0 t1 [] z w1 (by omega) (by omega) (by omega) ⟨g.2, g.1, (n1 _ _ (by omega)).trans h12, b1, (n1 _ _ (by omega)).trans h41, hcz, by omega, by show 4 * (b + 0) + 2 ≤ _; omega, trivial, (n1 _ _ (by omega)).trans h19⟩ f1'
end MM
