/-! Level 3, read: the reference's notes, ints and names. -/
section PP
variable {c : Nat → Int} {N : Nat}
theorem tE_lt {p : Nat} (h : tI c N p < N) : tI c N p < tE c N p := by
  unfold tE
  rw [if_neg (by omega)]
  generalize tI c N p = i at *
  by_cases e2 : bS (c i) = true
  · rw [if_pos e2]
    have a := adv_is bS c (N - i) i
    unfold nmE
    by_cases e : adv bS c (N - i) i = i
    · have := a.2.2 (by omega)
      rw [e, e2] at this
      cases this
    · omega
  · rw [if_neg e2]
    by_cases e3 : bD (c i) = true
    · rw [if_pos e3]
      have a := adv_is bD c (N - i) i
      unfold inE
      by_cases e : adv bD c (N - i) i = i
      · have := a.2.2 (by omega)
        rw [e, e3] at this
        cases this
      · omega
    · rw [if_neg e3]; omega
theorem tI_le_tE {p : Nat} (h : p ≤ N) : tI c N p ≤ tE c N p := by
  by_cases e : tI c N p < N
  · have := tE_lt e; omega
  · have := (tI_bd c N h).2
    unfold tE
    rw [if_pos (by omega)]
    omega
theorem kP_le (j : Nat) : tE c N (ps c N j) ≤ kP c N (j + 1) := (tI_bd c N (tE_bd c N (ps_bd c N j)).2).1
theorem kP_mono (i : Nat) : ∀ d, kP c N i ≤ kP c N (i + d)
  | 0 => Nat.le_refl _
  | d + 1 => Nat.le_trans (kP_mono i d) (Nat.le_trans (tI_le_tE (ps_bd c N _)) (kP_le (i + d)))
theorem kP_lt {i j : Nat} (hk : kK c N i ≠ 0) (h : i < j) : kP c N i < kP c N j := by
  have h1 : tI c N (ps c N i) < N := by
    by_cases e : tI c N (ps c N i) < N
    · exact e
    · refine absurd ?_ hk
      unfold kK tK
      rw [if_pos (by omega)]
  have h2 : kP c N i < tE c N (ps c N i) := tE_lt h1
  have h3 := kP_le (c := c) (N := N) i
  have h4 := kP_mono (c := c) (N := N) (i + 1) (j - (i + 1))
  rw [show i + 1 + (j - (i + 1)) = j by omega] at h4
  omega
end PP
section MN
variable {L wl dr tx : Nat} {c : Nat → Int} {N : Nat} {w : Wd}
/-- the first note, of a token before u -/
def NTM (c : Nat → Int) (N : Nat) (w : Wd) (n : Ft) (u : Nat) : Prop := (n.1 = 0 ∧ wI w 223 15 = 0) ∨ (n.1 ≠ 0 ∧ wI w 223 15 = (n.1 : Int) ∧ wI w 223 16 = (kP c N n.2 : Int) ∧ n.2 < u)
theorem NTM.eq {w1 : Wd} {n : Ft} {u u1 : Nat} (h : NTM c N w n u) (e : ∀ k, k = 15 ∨ k = 16 → wI w1 223 k = wI w 223 k) (hu : u ≤ u1) : NTM c N w1 n u1 := by
  rcases h with ⟨h1, h2⟩ | ⟨h1, h2, h3, h4⟩
  · exact Or.inl ⟨h1, (e 15 (by omega)).trans h2⟩
  · exact Or.inr ⟨h1, (e 15 (by omega)).trans h2, (e 16 (by omega)).trans h3, by omega⟩
def PWr (a k : Nat) : Prop := a = 223 ∧ (k = 15 ∨ k = 16)
theorem w_keep {x u : Nat} (hO : Ok L wl dr tx w) (hu : u ≤ 400) (hp : wI w 227 u = (kP c N u : Int)) (h13 : wI w 223 13 = 0) (h15 : wI w 223 15 ≠ 0) (h16 : wI w 223 16 < (kP c N u : Int) ∨ (wI w 223 16 = (kP c N u : Int) ∧ wI w 223 15 = (x : Int))) : Mo_wrong 223 (x : Int) (u : Int) w = some w := by
  refine wp_out ?_
  unfold Mo_wrong Mo_wrong_0 Mo_wrong_45
  refine wp_gd hO rfl (wp_R12_6 hO (wp_rI hO rfl (by omega) ?_))
  rw [Int.toNat_natCast, hp]
  refine wp_gI hO rfl (wp_neg (by omega) (wp_gI hO rfl (wp_neg h15 (wp_gI hO rfl ?_))))
  rcases h16 with h | ⟨h, h2⟩
  · exact wp_pos h (wp_ret rfl)
  · exact wp_neg (by omega) (wp_gI hO rfl (wp_pos h.symm (wp_gI hO rfl (wp_neg (by omega) (wp_ret rfl)))))
theorem w_new {x u : Nat} (hO : Ok L wl dr tx w) (hu : u ≤ 400) (hp : wI w 227 u = (kP c N u : Int)) (h13 : wI w 223 13 = 0) (h15 : wI w 223 15 = 0) : Wp (Mo_wrong 223 (x : Int) (u : Int) w) (fun w1 => Fr PWr w w1 ∧ wI w1 223 15 = (x : Int) ∧ wI w1 223 16 = (kP c N u : Int)) := by
  unfold Mo_wrong Mo_wrong_0 Mo_wrong_46
  refine wp_gd hO rfl (wp_R12_6 hO (wp_rI hO rfl (by omega) ?_))
  rw [Int.toNat_natCast, hp]
  refine wp_gI hO rfl (wp_neg (by omega) (wp_gI hO rfl (wp_pos h15 (wp_pI hO rfl (wp_pI hO.sI rfl (wp_ret ⟨(fr_sI (by unfold PWr; omega)).sI (by unfold PWr; omega), ?_, ?_⟩))))))
  · rw [wI_ne (by omega), wI_eq]
  · rw [wI_eq]
theorem m_wrong {x u : Nat} {n : Ft} (hx : x ≠ 0) (hO : Ok L wl dr tx w) (hT : MT c N w) (hu : u ≤ 400 ∧ ∀ i, i < u → kK c N i ≠ 0) (h13 : wI w 223 13 = 0) (hN : NTM c N w n u) : Wp (Mo_wrong 223 (x : Int) (u : Int) w) (fun w1 => Fr PWr w w1 ∧ NTM c N w1 (if n.1 = 0 then (x, u) else n) (u + 1)) := by
  have hp := (hT u hu.1 hu.2).2.1
  rcases hN with ⟨h1, h2⟩ | ⟨h1, h2, h3, h4⟩
  · rw [if_pos h1]
    exact wp_use (w_new hO hu.1 hp h13 h2) (fun w1 g => ⟨g.1, Or.inr ⟨hx, g.2.1, g.2.2, Nat.lt_succ_self _⟩⟩)
  · rw [if_neg h1]
    have := kP_lt (hu.2 _ h4) h4
    exact ⟨w, w_keep hO hu.1 hp h13 (by omega) (Or.inl (by omega)), Fr.rf w, Or.inr ⟨h1, h2, h3, by omega⟩⟩
/-- what a name or an int changes -/
def PBd (a k : Nat) : Prop := a = 223 ∧ (k = 11 ∨ k = 13 ∨ k = 14 ∨ k = 15 ∨ k = 16)
theorem m_boundedF {x y : Int} (hO : Ok L wl dr tx w) (h0 : 0 < wI w 223 13) : Mo_bounded 223 x y w = some (x, w) := by
  refine wp_out ?_
  unfold Mo_bounded Mo_bounded_0 Mo_bounded_15
  exact wp_gd hO rfl (wp_gI hO rfl (wp_pos h0 (wp_eq (m_failF hO h0) (wp_ret rfl))))
theorem m_bounded {t : Nat} {n : Ft} {most : Int} (hO : Ok L wl dr tx w) (hT : MT c N w) (h13 : wI w 223 13 = 0) (hC : MCU c N w t) (hN : NTM c N w n t) : Wp (Mo_bounded 223 0 most w) (fun r => Fr PBd w r.2 ∧ match ex (kK c N) 2 t with
    | .inl e => ERR c N r.2 e
    | .inr t' => wI r.2 223 13 = 0 ∧ MCU c N r.2 t' ∧ NTM c N r.2 (ind (kV c N) most n t) t' ∧ r.1 = kV c N t) := by
  have t4 := hC.1.1
  unfold Mo_bounded Mo_bounded_0 Mo_bounded_15 Mo_bounded_42 ex
  refine wp_gd hO rfl (wp_gI hO rfl (wp_neg (by omega) (wp_eq (q_is (x := 2) hO hT hC h13) ?_)))
  by_cases k : kK c N t = 2
  · rw [if_pos k, if_pos k]
    have tv : 0 ≤ kV c N t := (tV_bd k).1
    -- the token goes
    have last : ∀ (w1 : Wd) (n1 : Ft), Fr PWr w w1 → NTM c N w1 n1 (t + 1) → n1 = ind (kV c N) most n t → Wp (Mo_bounded_51 223 (kV c N t) w1) (fun r => Fr PBd w r.2 ∧ match ps1 t with
        | .inl e => ERR c N r.2 e
        | .inr t' => wI r.2 223 13 = 0 ∧ MCU c N r.2 t' ∧ NTM c N r.2 (ind (kV c N) most n t) t' ∧ r.1 = kV c N t) := by
      intro w1 n1 f1 N1 e1
      have f1' : Fr PBd w w1 := f1.mono (fun a k q => by unfold PWr at q; unfold PBd; omega)
      have hT1 : MT c N w1 := hT.eq (fun a k q1 q2 => f1.at a k (by unfold PWr; omega)) (fun k => by rw [f1.2.2.2.1])
      unfold Mo_bounded_51
      refine wp_call (m_goesOn (f1.ok hO) hT1 ⟨hC.1, (f1.at _ _ (by unfold PWr; omega)).trans hC.2⟩ ((f1.at _ _ (by unfold PWr; omega)).trans h13) (by omega)) (fun w2 g => wp_ret ?_)
      obtain ⟨f2, g⟩ := g
      refine ⟨f1'.tr (f2.mono (fun a k q => by unfold PGo at q; unfold PBd; omega)), ?_⟩
      generalize hp : ps1 t = p at g
      cases p with
      | inl e => exact g
      | inr t' =>
        have := ps1_inr hp
        exact ⟨g.2, g.1, e1 ▸ N1.eq (fun k q => f2.at _ _ (by unfold PGo; omega)) (by omega), rfl⟩
    refine wp_neg one_ne (wp_R12_7 hO (wp_gI hO rfl ?_))
    rw [hC.2]
    refine wp_rI hO rfl (by omega) ?_
    rw [Int.toNat_natCast, (hT t hC.1.1 hC.1.2).2.2.1 k]
    refine wp_neg (by omega) (wp_ite (fun q => last w n (Fr.rf w) (hN.eq (fun _ _ => rfl) (by omega)) ?_) (fun q => wp_gI hO rfl ?_))
    · unfold ind
      rw [if_neg (by omega)]
    · rw [hC.2]
      refine wp_call (m_wrong (x := 5) (by omega) hO hT hC.1 h13 hN) (fun w1 g => last w1 _ g.1 g.2 ?_)
      unfold ind
      by_cases z : n.1 = 0
      · rw [if_pos z, if_pos ⟨by omega, z⟩]
      · rw [if_neg z, if_neg (fun h => z h.2)]
  · rw [if_neg k, if_neg k]
    exact wp_pos rfl (wp_call (m_fail (x := 1) (by omega) hO hT hC h13) (fun w1 g => wp_ret ⟨g.1.mono (fun a k q => by unfold PFl at q; unfold PBd; omega), g.2⟩))
end MN
