/-! Level 3, read: the reference's names. -/
def cnt (w : Wd) : Nat → Nat
  | 0 => 0
  | k + 1 => if wI w 232 k = -1 then cnt w k else cnt w k + 1
theorem cnt_eq {w w1 : Wd} : ∀ n, (∀ k, k < n → wI w1 232 k = wI w 232 k) → cnt w1 n = cnt w n
  | 0, _ => rfl
  | n + 1, h => by
    rw [cnt, cnt, h n (by omega), cnt_eq n (fun k hk => h k (by omega))]
theorem cnt_le {w : Wd} (k : Nat) : ∀ d, cnt w k ≤ cnt w (k + d)
  | 0 => Nat.le_refl _
  | d + 1 => by
    have := cnt_le (w := w) k d
    show cnt w k ≤ (if wI w 232 (k + d) = -1 then cnt w (k + d) else cnt w (k + d) + 1)
    split <;> omega
theorem cnt_lt {w : Wd} {k n : Nat} (h : k < n) (hk : wI w 232 k ≠ -1) : cnt w k < cnt w n := by
  have e : cnt w (k + 1) = cnt w k + 1 := if_neg hk
  have := cnt_le (w := w) (k + 1) (n - (k + 1))
  rw [show k + 1 + (n - (k + 1)) = n by omega] at this
  omega
/-- all names, and which are heirs -/
def NMM (w : Wd) (V : Vl) (hn : Nat → Int) (al : List Int) : Prop := wI w 223 20 = ((nl V + nh V + nm V : Nat) : Int) ∧ (∀ k, k < nl V + nh V + nm V → wI w 232 k = -1 ∨ (wI w 232 k = (cnt w k : Int) ∧ wL w 231 k = hn (cnt w k))) ∧ cnt w (nl V + nh V + nm V) = nh V ∧ ∀ v : Int, (∃ k, k < nl V + nh V + nm V ∧ wL w 231 k = v) ↔ v ∈ al
theorem NMM.eq {w w1 : Wd} {V : Vl} {hn : Nat → Int} {al : List Int} (h : NMM w V hn al) (e0 : wI w1 223 20 = wI w 223 20) (e1 : ∀ k, wI w1 232 k = wI w 232 k) (e2 : ∀ k, wL w1 231 k = wL w 231 k) : NMM w1 V hn al := by
  have ec := fun n => cnt_eq (w := w) (w1 := w1) n (fun k _ => e1 k)
  refine ⟨e0.trans h.1, fun k hk => ?_, (ec _).trans h.2.2.1, fun v => ?_⟩
  · rw [e1, e2, ec]; exact h.2.1 k hk
  · rw [← h.2.2.2 v]
    exact ⟨fun ⟨k, a, b⟩ => ⟨k, a, (e2 k).symm.trans b⟩, fun ⟨k, a, b⟩ => ⟨k, a, (e2 k).trans b⟩⟩
theorem nmm_add {w w1 : Wd} {V V1 : Vl} {hn hn1 : Nat → Int} {al : List Int} {n : Nat} {v x : Int} (h : NMM w V hn al) (en : n = nl V + nh V + nm V) (e0 : wI w1 223 20 = ((n + 1 : Nat) : Int)) (e1 : ∀ k, k < n → wI w1 232 k = wI w 232 k) (e2 : ∀ k, k < n → wL w1 231 k = wL w 231 k) (a : wI w1 232 n = x) (b : wL w1 231 n = v) (hV : nl V1 + nh V1 + nm V1 = n + 1) (hh : ∀ i, i < nh V → hn1 i = hn i) (hc : (x = -1 ∧ nh V1 = nh V) ∨ (x = (nh V : Int) ∧ nh V1 = nh V + 1 ∧ hn1 (nh V) = v)) : NMM w1 V1 hn1 (v :: al) := by
  unfold NMM at h
  rw [← en] at h
  obtain ⟨h0, h1, h2, h3⟩ := h
  have ec : ∀ k, k ≤ n → cnt w1 k = cnt w k := fun k hk => cnt_eq k (fun j hj => e1 j (by omega))
  unfold NMM
  rw [hV]
  refine ⟨e0, fun k hk => ?_, ?_, fun y => ⟨fun ⟨k, k1, k2⟩ => ?_, fun hy => ?_⟩⟩
  · by_cases e : k = n
    · rw [e, a, b, ec n (Nat.le_refl _), h2]
      rcases hc with ⟨c1, _⟩ | ⟨c1, _, c3⟩
      · exact Or.inl c1
      · exact Or.inr ⟨c1, c3.symm⟩
    · rw [e1 k (by omega), e2 k (by omega), ec k (by omega)]
      rcases h1 k (by omega) with q | ⟨q1, q2⟩
      · exact Or.inl q
      · have := cnt_lt (w := w) (k := k) (n := n) (by omega) (by omega)
        exact Or.inr ⟨q1, q2.trans (hh _ (by omega)).symm⟩
  · show (if wI w1 232 n = -1 then cnt w1 n else cnt w1 n + 1) = nh V1
    rw [a, ec n (Nat.le_refl _), h2]
    rcases hc with ⟨c1, c2⟩ | ⟨c1, c2, _⟩
    · rw [if_pos c1, c2]
    · rw [if_neg (by omega), c2]
  · by_cases e : k = n
    · rw [e, b] at k2
      exact List.mem_cons.mpr (Or.inl k2.symm)
    · rw [e2 k (by omega)] at k2
      exact List.mem_cons.mpr (Or.inr ((h3 y).mp ⟨k, by omega, k2⟩))
  · rcases List.mem_cons.mp hy with e | e
    · exact ⟨n, by omega, b.trans e.symm⟩
    · obtain ⟨k, k1, k2⟩ := (h3 y).mpr e
      exact ⟨k, by omega, (e2 k k1).trans k2⟩
section MO
variable {L wl dr tx : Nat} {c : Nat → Int} {N : Nat} {w : Wd}
theorem m_notes {t n : Nat} {x : Int} (hO : Ok L wl dr tx w) (hT : MT c N w) (ht : t ≤ 400 ∧ ∀ i, i < t → kK c N i ≠ 0) (hk : kK c N t = 1) (h20 : wI w 223 20 = (n : Int)) (hn : n < 15) : Wp (Mo_notes 223 (t : Int) x w) (fun w1 => FL (fun a k => (a = 223 ∧ k = 20) ∨ (a = 232 ∧ k = n)) (fun a k => a = 231 ∧ k = n) w w1 ∧ wI w1 223 20 = ((n + 1 : Nat) : Int) ∧ wI w1 232 n = x ∧ wL w1 231 n = kN c N t) := by
  unfold Mo_notes Mo_notes_0
  refine wp_gd hO rfl (wp_R12_21 hO (wp_gI hO rfl (wp_R12_8 hO (wp_rL hO rfl (by omega) ?_))))
  rw [Int.toNat_natCast, (hT t ht.1 ht.2).2.2.2 hk, h20]
  refine wp_wL hO rfl (by omega) ?_
  rw [Int.toNat_natCast]
  generalize hw1 : sL w 231 n (kN c N t) = w1
  have hO1 : Ok L wl dr tx w1 := by rw [← hw1]; exact hO.sL
  have f1 : FL (fun a k => (a = 223 ∧ k = 20) ∨ (a = 232 ∧ k = n)) (fun a k => a = 231 ∧ k = n) w w1 := by rw [← hw1]; exact (FL.rf w).sL ⟨rfl, rfl⟩
  have v1 : wL w1 231 n = kN c N t := by rw [← hw1, wL_eq]
  have n1 : wI w1 223 20 = (n : Int) := by rw [← hw1, wI_sL, h20]
  clear hw1
  refine wp_R12_22 hO1 (wp_gI hO1 rfl ?_)
  rw [n1]
  refine wp_wI hO1 rfl (by omega) ?_
  rw [Int.toNat_natCast]
  refine wp_gI hO1.sI rfl ?_
  rw [wI_ne (by omega), n1, w32_id (by omega) (by omega)]
  refine wp_pI hO1.sI rfl (wp_ret ⟨(f1.sI (by omega)).sI (by omega), ?_, ?_, ?_⟩)
  · rw [wI_eq]; omega
  · rw [wI_ne (by omega), wI_eq]
  · rw [wL_sI, wL_sI, v1]
def SNm (c : Nat → Int) (N u : Nat) (n0 : Ft) (A : Nat → Int) (v : Int) (nn : Nat) (w : Wd) (k : Nat) : Prop := (n0.1 ≠ 0 ∧ NTM c N w n0 u) ∨ (n0.1 = 0 ∧ (∀ j, j < k → A j ≠ v) ∧ wI w 223 15 = 0) ∨ (n0.1 = 0 ∧ (∃ j, j < nn ∧ A j = v) ∧ wI w 223 15 = 3 ∧ wI w 223 16 = (kP c N u : Int))
theorem m_named12 {w0 : Wd} {u nn : Nat} {n0 : Ft} {v : Int} (hO0 : Ok L wl dr tx w0) (hu : u ≤ 400 ∧ ∀ i, i < u → kK c N i ≠ 0) (hnn : nn ≤ 15) (h13 : wI w0 223 13 = 0) (h20 : wI w0 223 20 = (nn : Int)) (hp : wI w0 227 u = (kP c N u : Int)) (hv : wL w0 229 u = v) : ∀ (r m k : Nat) (w : Wd), k + r = nn → r < m → Fr PWr w0 w → SNm c N u n0 (fun j => wL w0 231 j) v nn w k → Wp (Mo_named_12 m 223 (u : Int) (k : Int) w) (fun q => q.1 = (u : Int) ∧ Fr PWr w0 q.2 ∧ SNm c N u n0 (fun j => wL w0 231 j) v nn q.2 nn)
  | _, 0, _, _, _, hm, _, _ => absurd hm (by omega)
  | 0, m + 1, k, w, hk, _, hF, hS => by
    rw [Mo_named_12]
    unfold Mo_named_55
    refine wp_gI (hF.ok hO0) rfl ?_
    rw [hF.at 223 20 (by unfold PWr; omega), h20]
    have e : k = nn := by omega
    exact wp_pos (by omega) (wp_ret ⟨rfl, hF, e ▸ hS⟩)
  | r + 1, m + 1, k, w, hk, hm, hF, hS => by
    have hO := hF.ok hO0
    have go : ∀ w2, Fr PWr w0 w2 → SNm c N u n0 (fun j => wL w0 231 j) v nn w2 (k + 1) → Wp (Mo_named_49 (Mo_named_12 m) 223 (u : Int) (k : Int) w2) (fun q => q.1 = (u : Int) ∧ Fr PWr w0 q.2 ∧ SNm c N u n0 (fun j => wL w0 231 j) v nn q.2 nn) := by
      intro w2 f2 s2
      unfold Mo_named_49
      rw [w32_id (by omega) (by omega), show (k : Int) + 1 = ((k + 1 : Nat) : Int) by omega]
      exact m_named12 hO0 hu hnn h13 h20 hp hv r m (k + 1) w2 (by omega) (by omega) f2 s2
    have a13 : wI w 223 13 = 0 := (hF.at _ _ (by unfold PWr; omega)).trans h13
    have ap : wI w 227 u = (kP c N u : Int) := (hF.at _ _ (by unfold PWr; omega)).trans hp
    have hu4 := hu.1
    rw [Mo_named_12]
    refine wp_gI hO rfl ?_
    rw [hF.at 223 20 (by unfold PWr; omega), h20]
    refine wp_neg (by omega) (wp_gI hO rfl (wp_pos a13 (wp_R12_21 hO (wp_rL hO rfl (by omega) (wp_R12_8 hO (wp_rL hO rfl (by omega) ?_))))))
    rw [Int.toNat_natCast, Int.toNat_natCast, hF.2.2.2.1, hv]
    by_cases e : wL w0 231 k = v
    · refine wp_pos (ocmp0.mpr e) ?_
      rcases hS with ⟨s1, s2⟩ | ⟨s1, s2, s3⟩ | ⟨s1, s2, s3, s4⟩
      · rcases s2 with ⟨q, _⟩ | ⟨q1, q2, q3, q4⟩
        · exact absurd q s1
        · have := kP_lt (hu.2 _ q4) q4
          exact wp_eq (w_keep (x := 3) hO hu4 ap a13 (by omega) (Or.inl (by omega))) (go w hF (Or.inl ⟨s1, Or.inr ⟨q1, q2, q3, q4⟩⟩))
      · exact wp_call (w_new (x := 3) hO hu4 ap a13 s3) (fun w1 g => go w1 (hF.tr g.1) (Or.inr (Or.inr ⟨s1, ⟨k, by omega, e⟩, g.2.1, g.2.2⟩)))
      · exact wp_eq (w_keep (x := 3) hO hu4 ap a13 (by omega) (Or.inr ⟨s4, s3⟩)) (go w hF (Or.inr (Or.inr ⟨s1, s2, s3, s4⟩)))
    · refine wp_neg (fun h => e (ocmp0.mp h)) (go w hF ?_)
      rcases hS with s | ⟨s1, s2, s3⟩ | s
      · exact Or.inl s
      · refine Or.inr (Or.inl ⟨s1, fun j hj => ?_, s3⟩)
        by_cases ej : j = k
        · rw [ej]; exact e
        · exact s2 j (by omega)
      · exact Or.inr (Or.inr s)
theorem wr_bd {w1 : Wd} (f : Fr PWr w w1) : Fr PBd w w1 := f.mono (fun a k q => by unfold PWr at q; unfold PBd; omega)
theorem go_bd {w1 : Wd} (f : Fr PGo w w1) : Fr PBd w w1 := f.mono (fun a k q => by unfold PGo at q; unfold PBd; omega)
theorem MT.bd {w1 : Wd} (hT : MT c N w) (f : Fr PBd w w1) : MT c N w1 := hT.eq (fun a k q1 q2 => f.at a k (by unfold PBd; omega)) (fun k => by rw [f.2.2.2.1])
theorem m_named {t : Nat} {n : Ft} {V : Vl} {hn : Nat → Int} {al : List Int} (hV : nl V + nh V + nm V ≤ 15) (hO : Ok L wl dr tx w) (hT : MT c N w) (h13 : wI w 223 13 = 0) (hC : MCU c N w t) (hN : NTM c N w n t) (hM : NMM w V hn al) : Wp (Mo_named 223 w) (fun r => r.1 = (t : Int) ∧ Fr PBd w r.2 ∧ match ex (kK c N) 1 t with
    | .inl e => ERR c N r.2 e
    | .inr t' => wI r.2 223 13 = 0 ∧ MCU c N r.2 t' ∧ NTM c N r.2 (nmd (kN c N) al n t) t') := by
  have t4 := hC.1.1
  unfold Mo_named Mo_named_0
  generalize hFU : FU = fu; have hfu : 1000000 = fu := hFU
  refine wp_gd hO rfl (wp_gI hO rfl ?_)
  rw [hC.2]
  refine wp_call (m_must (x := 1) hO hT hC h13 (by omega)) (fun w1 g => ?_)
  obtain ⟨f1, g⟩ := g
  have hO1 := f1.ok hO
  have f1' := go_bd f1
  have a20 : wI w1 223 20 = ((nl V + nh V + nm V : Nat) : Int) := (f1.at _ _ (by unfold PGo; omega)).trans hM.1
  generalize hx1 : ex (kK c N) 1 t = y at g
  cases y with
  | inl e =>
    obtain ⟨fv, rfl⟩ : ∃ fv, fu = fv + 1 := ⟨fu - 1, by omega⟩
    rw [Mo_named_12]
    unfold Mo_named_55
    have := err_pos g
    exact wp_gI hO1 rfl (wp_ite (fun _ => wp_ret ⟨rfl, f1', g⟩) (fun _ => wp_gI hO1 rfl (wp_neg (by omega) (wp_ret ⟨rfl, f1', g⟩))))
  | inr t1 =>
    have e := ex_inr hx1
    obtain ⟨C1, z1⟩ := g
    have hT1 := hT.bd f1'
    have R1 := hT1 t hC.1.1 hC.1.2
    refine wp_use (m_named12 (n0 := n) hO1 hC.1 hV z1 a20 R1.2.1 (R1.2.2.2 e.1) _ fu 0 w1 (Nat.zero_add _) (by omega) (Fr.rf w1) ?_) (fun q hq => ?_)
    · rcases hN with ⟨h1, h2⟩ | ⟨h1, h2, h3, h4⟩
      · exact Or.inr (Or.inl ⟨h1, fun j hj => absurd hj (by omega), (f1.at _ _ (by unfold PGo; omega)).trans h2⟩)
      · exact Or.inl ⟨h1, Or.inr ⟨h1, (f1.at _ _ (by unfold PGo; omega)).trans h2, (f1.at _ _ (by unfold PGo; omega)).trans h3, h4⟩⟩
    · obtain ⟨q1, q2, q3⟩ := hq
      refine ⟨q1, f1'.tr (wr_bd q2), (q2.at _ _ (by unfold PWr; omega)).trans z1, ⟨C1.1, (q2.at _ _ (by unfold PWr; omega)).trans C1.2⟩, ?_⟩
      unfold nmd
      have el : ∀ j, wL w1 231 j = wL w 231 j := fun j => by rw [f1.2.2.2.1]
      rcases q3 with ⟨s1, s2⟩ | ⟨s1, s2, s3⟩ | ⟨s1, s2, s3, s4⟩
      · rw [if_neg (fun h => s1 h.2)]
        exact s2.eq (fun _ _ => rfl) (by omega)
      · rw [if_neg (fun h => ?_)]
        · exact Or.inl ⟨s1, s3⟩
        · obtain ⟨k, k1, k2⟩ := (hM.2.2.2 _).mpr h.1
          exact s2 k k1 ((el k).trans k2)
      · obtain ⟨k, k1, k2⟩ := s2
        have hm : kN c N t ∈ al := (hM.2.2.2 _).mp ⟨k, k1, (el k).symm.trans k2⟩
        rw [if_pos ⟨hm, s1⟩]
        exact Or.inr ⟨show (3 : Nat) ≠ 0 by decide, s3, s4, by show t < t1; omega⟩
theorem m_known21 {t nn : Nat} {n : Ft} {V : Vl} {hn : Nat → Int} {al : List Int} {v : Int} (hV : nn ≤ 15) (en : nn = nl V + nh V + nm V) (hO : Ok L wl dr tx w) (hT : MT c N w) (ht : t ≤ 400 ∧ ∀ i, i < t → kK c N i ≠ 0) (h13 : wI w 223 13 = 0) (hN : NTM c N w n t) (hM : NMM w V hn al) (hv : wL w 229 t = v) : ∀ (r m k : Nat), k + r = nn → r < m → Wp (Mo_known_21 m 223 (t : Int) (k : Int) w) (fun q => q.1 = hfd hn v (nh V - cnt w k) (cnt w k) ∧ Fr PWr w q.2 ∧ NTM c N q.2 (if q.1 = -1 then (if n.1 = 0 then (4, t) else n) else n) (t + 1))
  | _, 0, _, _, hm => absurd hm (by omega)
  | 0, m + 1, k, hk, _ => by
    have t4 := ht.1
    rw [Mo_known_21]
    unfold Mo_known_67
    refine wp_gI hO rfl ?_
    rw [hM.1, ← en]
    have e : k = nn := by omega
    refine wp_pos (by omega) (wp_call (m_wrong (x := 4) (by omega) hO hT ht h13 hN) (fun w1 g => wp_ret ⟨?_, g.1, ?_⟩))
    · rw [e, en, hM.2.2.1, Nat.sub_self]; rfl
    · show NTM c N w1 (if (-1 : Int) = -1 then _ else _) _
      rw [if_pos rfl]
      exact g.2
  | r + 1, m + 1, k, hk, hm => by
    have t4 := ht.1
    have go : hfd hn v (nh V - cnt w k) (cnt w k) = hfd hn v (nh V - cnt w (k + 1)) (cnt w (k + 1)) → Wp (Mo_known_61 (Mo_known_21 m) 223 (t : Int) (k : Int) w) (fun q => q.1 = hfd hn v (nh V - cnt w k) (cnt w k) ∧ Fr PWr w q.2 ∧ NTM c N q.2 (if q.1 = -1 then (if n.1 = 0 then (4, t) else n) else n) (t + 1)) := by
      intro e
      unfold Mo_known_61
      rw [w32_id (by omega) (by omega), show (k : Int) + 1 = ((k + 1 : Nat) : Int) by omega, e]
      exact m_known21 hV en hO hT ht h13 hN hM hv r m (k + 1) (by omega) (by omega)
    have hM1 := hM.2.1 k (by omega)
    have hM2 := hM.2.2.1
    rw [Mo_known_21]
    refine wp_gI hO rfl ?_
    rw [hM.1, ← en]
    refine wp_neg (by omega) (wp_R12_21 hO (wp_rL hO rfl (by omega) (wp_R12_8 hO (wp_rL hO rfl (by omega) ?_))))
    rw [Int.toNat_natCast, Int.toNat_natCast, hv]
    have ek : cnt w (k + 1) = if wI w 232 k = -1 then cnt w k else cnt w k + 1 := rfl
    by_cases e : wL w 231 k = v
    · refine wp_pos (ocmp0.mpr e) (wp_R12_22 hO (wp_rI hO rfl (by omega) ?_))
      rw [Int.toNat_natCast]
      rcases hM1 with q | ⟨q1, q2⟩
      · refine wp_pos (by omega) (go ?_)
        rw [ek, if_pos q]
      · refine wp_neg (by omega) ?_
        unfold Mo_known_54
        refine wp_R12_22 hO (wp_rI hO rfl (by omega) (wp_ret ?_))
        rw [Int.toNat_natCast, q1]
        have lt := cnt_lt (w := w) (k := k) (n := nl V + nh V + nm V) (by omega) (by omega)
        rw [hM2] at lt
        refine ⟨?_, Fr.rf w, ?_⟩
        · rw [show nh V - cnt w k = (nh V - cnt w k - 1) + 1 by omega, hfd, if_pos (q2.symm.trans e)]
        · show NTM c N w (if (cnt w k : Int) = -1 then _ else _) _
          rw [if_neg (by omega)]
          exact hN.eq (fun _ _ => rfl) (by omega)
    · refine wp_neg (fun h => e (ocmp0.mp h)) (go ?_)
      rcases hM1 with q | ⟨q1, q2⟩
      · rw [ek, if_pos q]
      · have lt := cnt_lt (w := w) (k := k) (n := nl V + nh V + nm V) (by omega) (by omega)
        rw [hM2] at lt
        rw [ek, if_neg (by omega), show nh V - cnt w k = (nh V - (cnt w k + 1)) + 1 by omega, hfd, if_neg (fun h => e (q2.trans h))]
theorem m_knownF (hO : Ok L wl dr tx w) (h0 : 0 < wI w 223 13) : Mo_known 223 w = some (-1, w) := by
  refine wp_out ?_
  unfold Mo_known Mo_known_0
  exact wp_gd hO rfl (wp_gI hO rfl (wp_eq (m_mustF hO h0) (wp_gI hO rfl (wp_neg (by omega) (wp_ret rfl)))))
theorem m_known {t : Nat} {n : Ft} {V : Vl} {hn : Nat → Int} {al : List Int} (hV : nl V + nh V + nm V ≤ 15) (hO : Ok L wl dr tx w) (hT : MT c N w) (h13 : wI w 223 13 = 0) (hC : MCU c N w t) (hN : NTM c N w n t) (hM : NMM w V hn al) : Wp (Mo_known 223 w) (fun r => Fr PBd w r.2 ∧ match ex (kK c N) 1 t with
    | .inl e => ERR c N r.2 e ∧ r.1 = -1
    | .inr t' => wI r.2 223 13 = 0 ∧ MCU c N r.2 t' ∧ r.1 = hfd hn (kN c N t) (nh V) 0 ∧ NTM c N r.2 (if hfd hn (kN c N t) (nh V) 0 = -1 then (if n.1 = 0 then (4, t) else n) else n) t') := by
  unfold Mo_known Mo_known_0
  generalize hFU : FU = fu; have hfu : 1000000 = fu := hFU
  refine wp_gd hO rfl (wp_gI hO rfl ?_)
  rw [hC.2]
  refine wp_call (m_must (x := 1) hO hT hC h13 (by omega)) (fun w1 g => ?_)
  obtain ⟨f1, g⟩ := g
  have hO1 := f1.ok hO
  have f1' := go_bd f1
  refine wp_gI hO1 rfl ?_
  generalize hx1 : ex (kK c N) 1 t = y at g
  cases y with
  | inl e =>
    have := err_pos g
    exact wp_neg (by omega) (wp_ret ⟨f1', g, rfl⟩)
  | inr t1 =>
    have e := ex_inr hx1
    obtain ⟨C1, z1⟩ := g
    have hT1 := hT.bd f1'
    have R1 := hT1 t hC.1.1 hC.1.2
    have M1 : NMM w1 V hn al := hM.eq (f1.at _ _ (by unfold PGo; omega)) (fun k => f1.at _ _ (by unfold PGo; omega)) (fun k => by rw [f1.2.2.2.1])
    refine wp_pos (by omega) (wp_use (m_known21 hV rfl hO1 hT1 hC.1 z1 (hN.eq (fun k q => f1.at _ _ (by unfold PGo; omega)) (Nat.le_refl _)) M1 (R1.2.2.2 e.1) _ fu 0 (Nat.zero_add _) (by omega)) (fun q hq => ?_))
    obtain ⟨q1, q2, q3⟩ := hq
    have q1 : q.1 = hfd hn (kN c N t) (nh V) 0 := q1
    refine ⟨f1'.tr (wr_bd q2), (q2.at _ _ (by unfold PWr; omega)).trans z1, ⟨C1.1, (q2.at _ _ (by unfold PWr; omega)).trans C1.2⟩, q1, ?_⟩
    rw [q1] at q3
    rw [e.2.2]
    exact q3
/-- room for one more? -/
def rm (a b t : Nat) : Sum Ft Nat := if a = b then .inl (2, t) else ps1 t
theorem m_roomFor {t a b : Nat} (hO : Ok L wl dr tx w) (hT : MT c N w) (h13 : wI w 223 13 = 0) (hC : MCU c N w t) (hk : kK c N t ≠ 0) : Wp (Mo_roomFor 223 (a : Int) (b : Int) w) (fun w1 => Fr PGo w w1 ∧ match rm a b t with
    | .inl e => ERR c N w1 e
    | .inr t' => MCU c N w1 t' ∧ wI w1 223 13 = 0) := by
  unfold Mo_roomFor Mo_roomFor_0 Mo_roomFor_10 Mo_roomFor_21 rm
  refine wp_gd hO rfl ?_
  by_cases q : a = b
  · rw [if_pos q]
    refine wp_pos (by omega) (wp_call (m_fail (x := 2) (by omega) hO hT hC h13) (fun w1 g => ?_))
    have := err_pos g.2
    exact wp_gI (g.1.ok hO) rfl (wp_neg (by omega) (wp_ret ⟨g.1.mono (fun a k q => by unfold PFl at q; unfold PGo; omega), g.2⟩))
  · rw [if_neg q]
    exact wp_neg (by omega) (wp_gI hO rfl (wp_pos h13 (wp_call (m_goesOn hO hT hC h13 hk) (fun w1 g => wp_ret g))))
end MO
