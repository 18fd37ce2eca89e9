/-! Level 3, read: statements. A state: what is told of the will, the hand, the shapes; the heirs' names, all names, the first fault noted. -/
abbrev Sst : Type := (Vl × (Nat → Int) × (Nat → Nat → Int)) × ((Nat → Int) × List Int × Ft)
def sV (s : Sst) : Vl := s.1.1
def sH (s : Sst) : Nat → Int := s.1.2.1
def sS (s : Sst) : Nat → Nat → Int := s.1.2.2
def sN (s : Sst) : Nat → Int := s.2.1
def sA (s : Sst) : List Int := s.2.2.1
def sT (s : Sst) : Ft := s.2.2.2
def hfd (hn : Nat → Int) (v : Int) : Nat → Nat → Int
  | 0, _ => -1
  | r + 1, h => if hn h = v then (h : Int) else hfd hn v r (h + 1)
section SG
variable (K : Nat → Nat) (Iv Nm : Nat → Int)
def nmd (al : List Int) (n : Ft) (t : Nat) : Ft := if Nm t ∈ al ∧ n.1 = 0 then (3, t) else n
def ind (most : Int) (n : Ft) (t : Nat) : Ft := if most < Iv t ∧ n.1 = 0 then (5, t) else n
def hsh : Nat → Nat → Nat → (Nat → Int) → Ft → Sum Ft (Nat × (Nat → Int) × Ft)
  | 0, _, t, f, n => if K t = 2 then .inl (2, t) else .inr (t, f, n)
  | r + 1, l, t, f, n => if K t = 2 then sb (ps1 t) (fun t1 => hsh r (l + 1) t1 (fun x => if x = l then Iv t else f x) (ind Iv 99 n t)) else .inr (t, f, n)
def uLetter (s : Sst) (t1 t2 : Nat) : Sst := ((((nl (sV s) + 1, nh (sV s), nm (sV s)), (sV s).2), (fun l => if l = nl (sV s) then Iv t2 else sH s l), sS s), (sN s, Nm t1 :: sA s, ind Iv 99 (nmd Nm (sA s) (sT s) t1) t2))
def sLetter (s : Sst) (t : Nat) : Sum Ft (Nat × Sst) := if nl (sV s) = 6 then .inl (2, t) else sb (ps1 t) (fun t1 => sb (ex K 1 t1) (fun t2 => sb (ex K 2 t2) (fun t3 => sb (ex K 4 t3) (fun t4 => .inr (t4, uLetter Iv Nm s t1 t2)))))
def uHeir (s : Sst) (t1 t2 t3 : Nat) (f : Nat → Int) (n : Ft) : Sst := ((((nl (sV s), nh (sV s) + 1, nm (sV s)), (sV s).2.1, (fun h => if h = nh (sV s) then Iv t2 else sk (sV s) h), (fun h => if h = nh (sV s) then Iv t3 else tr (sV s) h), lo (sV s)), sH s, (fun h l => if h = nh (sV s) then f l else sS s h l)), ((fun h => if h = nh (sV s) then Nm t1 else sN s h), Nm t1 :: sA s, n))
def sHeir (s : Sst) (t : Nat) : Sum Ft (Nat × Sst) := if nh (sV s) = 6 then .inl (2, t) else sb (ps1 t) (fun t1 => sb (ex K 1 t1) (fun t2 => sb (ex K 2 t2) (fun t3 => sb (ex K 2 t3) (fun t4 => sb (hsh K Iv 6 0 t4 (fun _ => 50) (ind Iv 9 (ind Iv 99 (nmd Nm (sA s) (sT s) t1) t2) t3)) (fun q => sb (ex K 4 q.1) (fun t5 => .inr (t5, uHeir Iv Nm s t1 t2 t3 q.2.1 q.2.2)))))))
def uMaster (s : Sst) (t1 : Nat) (q : Bs × List Op) : Sst := ((((nl (sV s), nh (sV s), nm (sV s) + 1), (sV s).2.1, sk (sV s), tr (sV s), (fun k => if k = nm (sV s) then some q else lo (sV s) k)), sH s, sS s), (sN s, Nm t1 :: sA s, nmd Nm (sA s) (sT s) t1))
def sMaster (s : Sst) (t : Nat) : Sum Ft (Nat × Sst) := if nm (sV s) = 3 then .inl (2, t) else sb (ps1 t) (fun t1 => sb (ex K 1 t1) (fun t2 => sb (law' K Iv t2) (fun q => sb (ex K 4 q.1) (fun t3 => .inr (t3, uMaster Nm s t1 q.2)))))
def uLearn (s : Sst) (t1 : Nat) (q : Bs × List Op) : Sst := if hfd (sN s) (Nm t1) (nh (sV s)) 0 = -1 then (s.1, (sN s, sA s, if (sT s).1 = 0 then (4, t1) else sT s)) else ((((sV s).1, (sV s).2.1, sk (sV s), tr (sV s), (fun k => if k = 3 + (hfd (sN s) (Nm t1) (nh (sV s)) 0).toNat then some q else lo (sV s) k)), sH s, sS s), s.2)
def sLearn (s : Sst) (t : Nat) : Sum Ft (Nat × Sst) := sb (ps1 t) (fun t1 => sb (ex K 1 t1) (fun t2 => sb (law' K Iv t2) (fun q => sb (ex K 4 q.1) (fun t3 => .inr (t3, uLearn Nm s t1 q.2)))))
def uDrift (s : Sst) (q : Bs × List Op) : Sst := ((((sV s).1, (sV s).2.1, sk (sV s), tr (sV s), (fun k => if k = 9 then some q else lo (sV s) k)), sH s, sS s), s.2)
def sDrift (s : Sst) (t : Nat) : Sum Ft (Nat × Sst) := sb (ps1 t) (fun t1 => sb (law' K Iv t1) (fun q => sb (ex K 4 q.1) (fun t3 => .inr (t3, uDrift s q.2))))
def uDays (s : Sst) (t1 : Nat) : Sst := ((((sV s).1, ((Iv t1).toNat, (sV s).2.1.2), (sV s).2.2), sH s, sS s), (sN s, sA s, ind Iv 9 (sT s) t1))
def uLimit (s : Sst) (t1 : Nat) : Sst := ((((sV s).1, (dy (sV s), Iv t1, sd (sV s)), (sV s).2.2), sH s, sS s), (sN s, sA s, ind Iv 9999 (sT s) t1))
def uSeed (s : Sst) (t1 : Nat) : Sst := ((((sV s).1, (dy (sV s), lm (sV s), Iv t1), (sV s).2.2), sH s, sS s), (sN s, sA s, ind Iv 9999 (sT s) t1))
def sNum (u : Nat → Sst) (t : Nat) : Sum Ft (Nat × Sst) := sb (ps1 t) (fun t1 => sb (ex K 2 t1) (fun t2 => sb (ex K 4 t2) (fun t3 => .inr (t3, u t1))))
def stm (s : Sst) (t : Nat) : Sum Ft (Nat × Sst) := if K t = 20 then sLetter K Iv Nm s t else if K t = 21 then sHeir K Iv Nm s t else if K t = 22 then sMaster K Iv Nm s t else if K t = 23 then sLearn K Iv Nm s t else if K t = 24 then sDrift K Iv s t else if K t = 25 then sNum K (uDays Iv s) t else if K t = 26 then sNum K (uLimit Iv s) t else if K t = 27 then sNum K (uSeed Iv s) t else .inl (1, t)
def rdl : Nat → Sst → Nat → Sum Ft Sst
  | 0, _, t => .inl (1, t)
  | n + 1, s, t => if K t = 0 then .inr s else sb (stm K Iv Nm s t) (fun q => rdl n q.2 q.1)
end SG
/-- nothing told yet -/
def s0 : Sst := ((((0, 0, 0), (3, 9999, 0), (fun _ => 0), (fun _ => 0), (fun _ => none)), (fun _ => 0), (fun _ _ => 50)), ((fun _ => 0), [], (0, 0)))
/-! the class's first faults -/
section CN
variable {L wl dr : Nat} {c : Nat → Int} {N : Nat}
def NTC (c : Nat → Int) (N : Nat) (w : Wd) (n : Ft) : Prop := (n.1 = 0 ∧ wI w 8 2 = 0 ∧ wI w 8 0 = -1) ∨ (n.1 ≠ 0 ∧ wI w 8 2 = (n.1 : Int) ∧ wI w 8 0 = (kP c N n.2 : Int))
theorem NTC.eq {w w1 : Wd} {n : Ft} (h : NTC c N w n) (e : ∀ k, k = 0 ∨ k = 2 → wI w1 8 k = wI w 8 k) : NTC c N w1 n := by
  rcases h with ⟨h1, h2, h3⟩ | ⟨h1, h2, h3⟩
  · exact Or.inl ⟨h1, (e 2 (by omega)).trans h2, (e 0 (by omega)).trans h3⟩
  · exact Or.inr ⟨h1, (e 2 (by omega)).trans h2, (e 0 (by omega)).trans h3⟩
def PNt (a k : Nat) : Prop := a = 8 ∧ (k = 0 ∨ k = 2)
theorem c_note {w : Wd} {t x : Nat} {n : Ft} (hO : Ok L wl dr 7 w) (hT : CT c N w) (hC : CUR c N w t) (hN : NTC c N w n) (hx : x ≠ 0) : Wp (Rd_note 8 (x : Int) w) (fun w1 => FL PNt (fun _ _ => False) w w1 ∧ NTC c N w1 (if n.1 = 0 then (x, t) else n)) := by
  have h4 := hC.1.1
  unfold Rd_note Rd_note_0 Rd_note_28
  refine wp_gd hO rfl (wp_gI hO rfl ?_)
  rcases hN with ⟨h1, h2, h3⟩ | ⟨h1, h2, h3⟩
  · rw [h2, if_pos h1]
    refine wp_pos rfl (wp_pI hO rfl ?_)
    generalize hw1 : sI w 8 2 (x : Int) = w1
    have hO1 : Ok L wl dr 7 w1 := by rw [← hw1]; exact hO.sI
    refine wp_R6_3 hO1 (wp_R7_1 hO1 (wp_gI hO1 rfl ?_))
    rw [show wI w1 8 5 = (t : Int) by rw [← hw1, wI_ne (by omega), hC.2.1]]
    refine wp_rI hO1 rfl (by omega) ?_
    rw [Int.toNat_natCast, show wI w1 23 t = (kP c N t : Int) by rw [← hw1, wI_ne (by omega)]; exact (hT t h4 hC.1.2).2.1]
    refine wp_pI hO1 rfl (wp_ret ⟨?_, Or.inr ⟨hx, ?_, wI_eq _ _ _ _⟩⟩)
    · rw [← hw1]
      exact ((FL.rf w).sI (by unfold PNt; omega)).sI (by unfold PNt; omega)
    · rw [wI_ne (by omega), ← hw1, wI_eq]
  · rw [h2, if_neg h1]
    exact wp_neg (by omega) (wp_ret ⟨FL.rf w, Or.inr ⟨h1, h2, h3⟩⟩)
/-- what a name or an int may change -/
def PN (a k : Nat) : Prop := a = 8 ∧ (k = 0 ∨ k = 2 ∨ k = 5 ∨ k = 6 ∨ k = 8)
def QN (j a k : Nat) : Prop := (a = 8 ∧ k = 7) ∨ (a = 27 ∧ k = j)
theorem pn_rd {w w1 : Wd} {j : Nat} (f : FL PN (QN j) w w1) : FL (PRd dr) QRd w w1 := f.mono (fun a k q => Or.inl q.1) (fun a k q => by unfold QN at q; unfold QRd; omega)
theorem st_pn {w w1 : Wd} {j : Nat} (f : FL PSt QSt w w1) : FL PN (QN j) w w1 := f.mono (fun a k q => by unfold PSt at q; unfold PN; omega) (fun a k q => Or.inl q)
theorem nt_pn {w w1 : Wd} {j : Nat} (f : FL PNt (fun _ _ => False) w w1) : FL PN (QN j) w w1 := f.mono (fun a k q => by unfold PNt at q; unfold PN; omega) (fun a k q => absurd q id)
theorem CT.pn {w w1 : Wd} {j : Nat} (hT : CT c N w) (f : FL PN (QN j) w w1) : CT c N w1 := hT.fl (fun a k q => f.i a k (by unfold PN; omega)) (fun k => f.l 24 k (by unfold QN; omega))
theorem pq {w w1 : Wd} {j : Nat} (f : FL PN QSt w w1) : FL PN (QN j) w w1 := f.mono (fun a k q => q) (fun a k q => Or.inl q)
theorem st_ps {w w1 : Wd} (f : FL PSt QSt w w1) : FL PN QSt w w1 := f.mono (fun a k q => by unfold PSt at q; unfold PN; omega) (fun a k q => q)
theorem nt_ps {w w1 : Wd} (f : FL PNt (fun _ _ => False) w w1) : FL PN QSt w w1 := f.mono (fun a k q => by unfold PNt at q; unfold PN; omega) (fun a k q => absurd q id)
theorem c_takeInt {w : Wd} {t : Nat} {n : Ft} {most : Int} (hO : Ok L wl dr 7 w) (hT : CT c N w) (hC : CUR c N w t) (hN : NTC c N w n) : Wp (Rd_takeInt 8 most w) (RES (kP c N) dr w (ex (kK c N) 2 t) (fun t' w1 => CUR c N w1 t' ∧ FL PN QSt w w1 ∧ NTC c N w1 (ind (kV c N) most n t) ∧ wI w1 8 8 = kV c N t)) := by
  unfold Rd_takeInt Rd_takeInt_0 Rd_takeInt_23
  have last : ∀ (w1 : Wd) (n1 : Ft), FL PN QSt w w1 → NTC c N w1 n1 → (kK c N t = 2 → n1 = ind (kV c N) most n t) → CUR c N w1 t → Wp ((fgL w1 8 6 7).bind fun v25 => (fpI w1 8 6 8 (w32 v25)).bind fun w29 => (Rd_take 8 3 w29).bind fun r34 => rZ r34.1 r34.2) (RES (kP c N) dr w (ex (kK c N) 2 t) (fun t' w1 => CUR c N w1 t' ∧ FL PN QSt w w1 ∧ NTC c N w1 (ind (kV c N) most n t) ∧ wI w1 8 8 = kV c N t)) := by
    intro w1 n1 f1 N1 h1 C1
    have hO1 := (pn_rd (dr := dr) (pq (j := 0) f1)).ok hO
    refine wp_gL hO1 rfl (wp_pI hO1 rfl ?_)
    generalize hw2 : sI w1 8 8 (w32 (wL w1 8 7)) = w2
    have hO2 : Ok L wl dr 7 w2 := by rw [← hw2]; exact hO1.sI
    have f2 : FL PN QSt w w2 := by rw [← hw2]; exact f1.sI (by unfold PN; omega)
    have C2 : CUR c N w2 t := C1.eq (fun k q => by rw [← hw2]; exact wI_ne (by omega)) (by rw [← hw2, wL_sI])
    have N2 : NTC c N w2 n1 := N1.eq (fun k q => by rw [← hw2]; exact wI_ne (by omega))
    refine wp_call (c_take (k := 2) hO2 (hT.pn (pq (j := 0) f2)) C2 (by unfold kv; omega) (by omega) rfl) (fun r hr => wp_rZr (res_01 hr) (res_tr (pn_rd (pq (j := 0) f2)) hr (fun t' he h => ?_)))
    have e := ex_inr he
    refine ⟨h.1, f2.tr (st_ps h.2), ?_, ?_⟩
    · rw [← h1 e.1]
      exact N2.eq (fun k q => h.2.i 8 k (by unfold PSt; omega))
    · rw [h.2.i 8 8 (by unfold PSt; omega), ← hw2, wI_eq, C1.2.2.2.1 e.1]
      have b := tV_bd (c := c) (N := N) (p := ps c N t) e.1
      exact w32_id (by show -2147483648 ≤ tV c N (ps c N t); omega) (by show tV c N (ps c N t) < 2147483648; omega)
  refine wp_gd hO rfl (wp_gI hO rfl ?_)
  by_cases k2 : kK c N t = 2
  · refine wp_pos (show wI w 8 6 = 3 from (hC.is (k := 2) (by unfold kv; omega)).mpr k2) (wp_gL hO rfl ?_)
    rw [hC.2.2.2.1 k2]
    by_cases q : kV c N t ≤ most
    · refine wp_pos ?_ (last w n (FL.rf w) hN (fun _ => ?_) hC)
      · unfold ocmp
        rw [if_neg (by omega)]
        split <;> omega
      · unfold ind
        rw [if_neg (by omega)]
    · refine wp_neg ?_ (wp_call (c_note (x := 5) hO hT hC hN (by omega)) (fun w1 g => last w1 _ (nt_ps g.1) g.2 (fun _ => ?_) (hC.eq (fun k q => g.1.i 8 k (by unfold PNt; omega)) (g.1.l 8 7 id))))
      · unfold ocmp
        rw [if_pos (by omega)]
        omega
      · unfold ind
        by_cases z : n.1 = 0
        · rw [if_pos z, if_pos ⟨by omega, z⟩]
        · rw [if_neg z, if_neg (fun h => z h.2)]
  · exact wp_neg (fun h => k2 ((hC.is (k := 2) (by unfold kv; omega)).mp h)) (last w n (FL.rf w) hN (fun h => absurd h k2) hC)
end CN
