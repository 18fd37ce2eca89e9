/-! the rules in the form in which the printed walks use them: every look at the heap is a partial function -/
def fgI (w : Wd) (a c k : Nat) : Option Int := if (wsh w a).1 = c then some (wI w a k) else none
def fgL (w : Wd) (a c k : Nat) : Option Int := if (wsh w a).1 = c then some (wL w a k) else none
def fgR (w : Wd) (a c k : Nat) : Option Nat := if (wsh w a).1 = c ∧ wR w a k ≠ 0 then some (wR w a k) else none
def fpI (w : Wd) (a c k : Nat) (z : Int) : Option Wd := if (wsh w a).1 = c then some (sI w a k z) else none
def fpZ (w : Wd) (a c k : Nat) (z : Int) : Option Wd := if (wsh w a).1 = c ∧ (z = 0 ∨ z = 1) then some (sI w a k z) else none
def fpL (w : Wd) (a c k : Nat) (z : Int) : Option Wd := if (wsh w a).1 = c then some (sL w a k z) else none
def fpR (w : Wd) (a c k b : Nat) : Option Wd := if (wsh w a).1 = c ∧ (wsh w b).1 ≠ 99 then some (sR w a k b) else none
def gd {α : Type} (c : Nat) (w : Wd) (a : Nat) (x : Option α) : Option α := if (wsh w a).1 = c then x else none
def rZ (z : Int) (w : Wd) : Option (Int × Wd) := if z = 0 ∨ z = 1 then some (z, w) else none
def rB (z : Int) (w : Wd) : Option (Int × Wd) := if -128 ≤ z ∧ z < 128 then some (z, w) else none
def rC (z : Int) (w : Wd) : Option (Int × Wd) := if 0 ≤ z ∧ z < 65536 then some (z, w) else none
def idv (a b : Int) : Option Int := if b ≠ 0 then some (w32 (a.tdiv b)) else none
def irm (a b : Int) : Option Int := if b ≠ 0 then some (a.tmod b) else none
def FU : Nat := 1000000
theorem gd_some {α : Type} {c a : Nat} {w : Wd} {x : Option α} {r : α} (h : gd c w a x = some r) : (wsh w a).1 = c ∧ x = some r := by
  unfold gd at h
  by_cases hp : (wsh w a).1 = c
  · rw [if_pos hp] at h; exact ⟨hp, h⟩
  · rw [if_neg hp] at h; cases h
theorem narrow_char_ok {z : Int} (h : 0 ≤ z ∧ z < 65536) : (i32 z).toUInt32.toUInt16.toUInt32.toInt32 = i32 z := by
  obtain ⟨n, rfl⟩ := Int.eq_ofNat_of_zero_le h.1
  have hn : n < 65536 := by omega
  have e : i32 (n : Int) = Int32.ofNat n := Int32.ofInt_eq_ofNat
  rw [e]
  apply Int32.toBitVec.inj
  apply BitVec.eq_of_toNat_eq
  simp
  omega
section FR
variable {g : Gp} {l : Launch} {d m pc npc x : Nat} {y : Int} {ls ls1 : List (Nat × AV)} {st : List AV} {w w' w1 : Wd} {v : Option AV} {j c k a b : Nat} {z : Int}
theorem cv_any (a : Nat) : cv g (.inr (.inr a)) = .null ∨ ∃ q, cv g (.inr (.inr a)) = .ref q := by
  by_cases h : a = 0
  · subst h
    show (match gz g with | .ref q => Value.ref q | _ => .null) = .null ∨ ∃ q, (match gz g with | .ref q => Value.ref q | _ => .null) = .ref q
    cases gz g <;> first | exact Or.inl rfl | exact Or.inr ⟨_, rfl⟩
  · exact Or.inr ⟨_, cv_ref h⟩
theorem fr_aload_n {n : Fin 4} (hi : ins m pc = some (.aload_n n, npc, x, y)) (hg : lget ls n.val = some (.inr (.inr a))) (k : Rn g l d m npc ls (.inr (.inr a) :: st) w v w') : Rn g l d m pc ls st w v w' := by
  obtain ⟨hd, hn⟩ := ins_d hi rfl
  subst hn
  refine Rn.on k (fun p e R s mid args below meth c hC H locs lsC cells slots Q hP hS hL ho hol kk => ?_)
  obtain ⟨hx, hb, -⟩ := hC
  have e1 := lget_at hg hL
  have e2 := kk lsC hL (okl_cons trivial ho) hol
  rw [List.map_cons] at e2
  rcases cv_any (g := g) a with e | ⟨q, e⟩
  · rw [e] at e1 e2; exact lv_aload_nN hx hb hd rfl e1 e2
  · rw [e] at e1 e2; exact lv_aload_n hx hb hd rfl e1 e2
theorem fr_aload {n : Nat} (hi : ins m pc = some (.aload n, npc, x, y)) (hg : lget ls n = some (.inr (.inr a))) (k : Rn g l d m npc ls (.inr (.inr a) :: st) w v w') : Rn g l d m pc ls st w v w' := by
  obtain ⟨hd, hn⟩ := ins_d hi rfl
  subst hn
  refine Rn.on k (fun p e R s mid args below meth c hC H locs lsC cells slots Q hP hS hL ho hol kk => ?_)
  obtain ⟨hx, hb, -⟩ := hC
  have e1 := lget_at hg hL
  have e2 := kk lsC hL (okl_cons trivial ho) hol
  rw [List.map_cons] at e2
  rcases cv_any (g := g) a with e | ⟨q, e⟩
  · rw [e] at e1 e2; exact lv_aloadN hx hb hd e1 e2
  · rw [e] at e1 e2; exact lv_aload hx hb hd e1 e2
theorem fr_astore_n {n : Fin 4} (hi : ins m pc = some (.astore_n n, npc, x, y)) (hg : lst1 n.val (.inr (.inr a)) ls = ls1) (k : Rn g l d m npc ls1 st w v w') : Rn g l d m pc ls (.inr (.inr a) :: st) w v w' := by
  obtain ⟨hd, hn⟩ := ins_d hi rfl
  obtain ⟨-, -, -, -, hst⟩ := ins_dec hi
  subst hn
  subst hg
  refine Rn.on k (fun p e R s mid args below meth c hC H locs lsC cells slots Q hP hS hL ho hol kk => ?_)
  obtain ⟨hx, hb, -⟩ := hC
  rw [List.map_cons]
  have h9 := lst1_map (g := g) (ls := ls) n.val (.inr (.inr a))
  rcases cv_any (g := g) a with e | ⟨q, e⟩
  · rw [e] at h9 ⊢
    exact lv_astore_nN (lv' := (lst1 n.val (.inr (.inr a)) ls).map (cvp g)) hx hb hd rfl hL (Nat.blt_eq.mp hst) h9 (fun ls2 hL2 => kk ls2 hL2 (okl_tail ho) (lst1_ok trivial hol))
  · rw [e] at h9 ⊢
    exact lv_astore_n (lv' := (lst1 n.val (.inr (.inr a)) ls).map (cvp g)) hx hb hd rfl hL (Nat.blt_eq.mp hst) h9 (fun ls2 hL2 => kk ls2 hL2 (okl_tail ho) (lst1_ok trivial hol))
theorem fr_astore {n : Nat} (hi : ins m pc = some (.astore n, npc, x, y)) (hg : lst1 n (.inr (.inr a)) ls = ls1) (k : Rn g l d m npc ls1 st w v w') : Rn g l d m pc ls (.inr (.inr a) :: st) w v w' := by
  obtain ⟨hd, hn⟩ := ins_d hi rfl
  obtain ⟨-, -, -, -, hst⟩ := ins_dec hi
  subst hn
  subst hg
  refine Rn.on k (fun p e R s mid args below meth c hC H locs lsC cells slots Q hP hS hL ho hol kk => ?_)
  obtain ⟨hx, hb, -⟩ := hC
  rw [List.map_cons]
  have h9 := lst1_map (g := g) (ls := ls) n (.inr (.inr a))
  rcases cv_any (g := g) a with e | ⟨q, e⟩
  · rw [e] at h9 ⊢
    exact lv_astoreN (lv' := (lst1 n (.inr (.inr a)) ls).map (cvp g)) hx hb hd hL (Nat.blt_eq.mp hst) h9 (fun ls2 hL2 => kk ls2 hL2 (okl_tail ho) (lst1_ok trivial hol))
  · rw [e] at h9 ⊢
    exact lv_astore (lv' := (lst1 n (.inr (.inr a)) ls).map (cvp g)) hx hb hd hL (Nat.blt_eq.mp hst) h9 (fun ls2 hL2 => kk ls2 hL2 (okl_tail ho) (lst1_ok trivial hol))
theorem fr_gI (hi : ins m pc = some (.getfield j, npc, c, ((k : Nat) : Int))) (ht : fty c k = 0 ∨ fty c k = 3) (h : fgI w a c k = some z) (kk : Rn g l d m npc ls (.inl z :: st) w v w') : Rn g l d m pc ls (.inr (.inr a) :: st) w v w' := by
  obtain ⟨hs, rfl⟩ := ite_some h
  exact rn_getI hi ht hs kk
theorem fr_gL (hi : ins m pc = some (.getfield j, npc, c, ((k : Nat) : Int))) (ht : fty c k = 1) (h : fgL w a c k = some z) (kk : Rn g l d m npc ls (.inr (.inl z) :: st) w v w') : Rn g l d m pc ls (.inr (.inr a) :: st) w v w' := by
  obtain ⟨hs, rfl⟩ := ite_some h
  exact rn_getL hi ht hs kk
theorem fr_gR (hi : ins m pc = some (.getfield j, npc, c, ((k : Nat) : Int))) (ht : fty c k = 2) (h : fgR w a c k = some b) (kk : Rn g l d m npc ls (.inr (.inr b) :: st) w v w') : Rn g l d m pc ls (.inr (.inr a) :: st) w v w' := by
  obtain ⟨⟨hs, h0⟩, rfl⟩ := ite_some h
  exact rn_getR hi ht hs h0 kk
theorem fr_pI (hi : ins m pc = some (.putfield j, npc, c, ((k : Nat) : Int))) (hq : c < 13 ∧ k < cW c ∧ fty c k = 0 ∧ ((cE c k).2.2.1 = false ∨ ((cE c k).2.2.1 = true ∧ (mY m).name = "<init>" ∧ mO m = c))) (h : fpI w a c k z = some w1) (kk : Rn g l d m npc ls st w1 v w') : Rn g l d m pc ls (.inl z :: .inr (.inr a) :: st) w v w' := by
  obtain ⟨hs, rfl⟩ := ite_some h
  exact rn_putI hi hq.1 hq.2.1 (Or.inl hq.2.2.1) hq.2.2.2 hs kk
theorem fr_pZ (hi : ins m pc = some (.putfield j, npc, c, ((k : Nat) : Int))) (hq : c < 13 ∧ k < cW c ∧ fty c k = 3 ∧ ((cE c k).2.2.1 = false ∨ ((cE c k).2.2.1 = true ∧ (mY m).name = "<init>" ∧ mO m = c))) (h : fpZ w a c k z = some w1) (kk : Rn g l d m npc ls st w1 v w') : Rn g l d m pc ls (.inl z :: .inr (.inr a) :: st) w v w' := by
  obtain ⟨⟨hs, hz⟩, rfl⟩ := ite_some h
  exact rn_putI hi hq.1 hq.2.1 (Or.inr ⟨hq.2.2.1, hz⟩) hq.2.2.2 hs kk
theorem fr_pL (hi : ins m pc = some (.putfield j, npc, c, ((k : Nat) : Int))) (hq : c < 13 ∧ k < cW c ∧ fty c k = 1 ∧ ((cE c k).2.2.1 = false ∨ ((cE c k).2.2.1 = true ∧ (mY m).name = "<init>" ∧ mO m = c))) (h : fpL w a c k z = some w1) (kk : Rn g l d m npc ls st w1 v w') : Rn g l d m pc ls (.inr (.inl z) :: .inr (.inr a) :: st) w v w' := by
  obtain ⟨hs, rfl⟩ := ite_some h
  exact rn_putL hi hq.1 hq.2.1 hq.2.2.1 hq.2.2.2 hs kk
/-- what holds of a world beside some heap may be used -/
theorem rn_hp (h : (∃ H, HP g w H) → Rn g l d m pc ls st w v w') (hn : wn w ≤ wn w' ∧ wz w ≤ wz w') : Rn g l d m pc ls st w v w' :=
  ⟨hn.1, hn.2, fun p e R s mid args below meth c hC hd hl n0 z0 hn0 hz0 hc hs H locs lsC Q hP => (h ⟨H, hP⟩).2.2 p e R s mid args below meth c hC hd hl n0 z0 hn0 hz0 hc hs H locs lsC Q hP⟩
theorem hp_ne0 {H : Heap} (hP : HP g w H) (h : (wsh w a).1 ≠ 99) : a ≠ 0 := by have := (hP.lt h).1; omega
theorem fr_pR (hi : ins m pc = some (.putfield j, npc, c, ((k : Nat) : Int))) (hq : c < 13 ∧ k < cW c ∧ fty c k = 2 ∧ ((cE c k).2.2.1 = false ∨ ((cE c k).2.2.1 = true ∧ (mY m).name = "<init>" ∧ mO m = c))) (h : fpR w a c k b = some w1) (kk : Rn g l d m npc ls st w1 v w') : Rn g l d m pc ls (.inr (.inr b) :: .inr (.inr a) :: st) w v w' := by
  obtain ⟨⟨hs, h0⟩, rfl⟩ := ite_some h
  exact rn_hp (fun ⟨H, hP⟩ => rn_putR hi hq.1 hq.2.1 hq.2.2.1 hq.2.2.2 hs (hp_ne0 hP h0) kk) ⟨kk.1, kk.2.1⟩
theorem fr_objInit (hi : ins m pc = some (.invokespecial j, npc, 1000, y)) (hs : (wsh w a).1 = c) (hc : c ≠ 99) (hcs : catS st ≤ 8) (k : Rn g l (d + 1) m npc ls st w v w') : Rn g l (d + 1) m pc ls (.inr (.inr a) :: st) w v w' :=
  rn_hp (fun ⟨H, hP⟩ => rn_objInit hi (hp_ne0 hP (by rw [hs]; exact hc)) hcs k) ⟨k.1, k.2.1⟩
theorem fr_idv {p q : Int} (hi : ins m pc = some (.idiv, npc, x, y)) (h : idv p q = some z) (k : Rn g l d m npc ls (.inl z :: st) w v w') : Rn g l d m pc ls (.inl q :: .inl p :: st) w v w' := by
  obtain ⟨h0, rfl⟩ := ite_some h
  exact rn_idiv hi h0 k
theorem fr_irm {p q : Int} (hi : ins m pc = some (.irem, npc, x, y)) (h : irm p q = some z) (k : Rn g l d m npc ls (.inl z :: st) w v w') : Rn g l d m pc ls (.inl q :: .inl p :: st) w v w' := by
  obtain ⟨h0, rfl⟩ := ite_some h
  exact rn_irem hi h0 k
theorem fr_retZ {r : Int × Wd} (hi : ins m pc = some (.ireturn, npc, x, y)) (hr : mR m = some .boolean) (h : rZ z w = some r) : Rn g l d m pc ls [.inl z] w (some (.inl r.1)) r.2 := by
  obtain ⟨h0, rfl⟩ := ite_some h
  exact rn_retZ hi hr h0
theorem fr_retB {r : Int × Wd} (hi : ins m pc = some (.ireturn, npc, x, y)) (hr : mR m = some .byte) (h : rB z w = some r) : Rn g l d m pc ls [.inl z] w (some (.inl r.1)) r.2 := by
  obtain ⟨h0, rfl⟩ := ite_some h
  exact rn_retB hi hr h0
theorem fr_retC {r : Int × Wd} (hi : ins m pc = some (.ireturn, npc, x, y)) (hr : mR m = some .char) (h : rC z w = some r) : Rn g l d m pc ls [.inl z] w (some (.inl r.1)) r.2 := by
  obtain ⟨h0, rfl⟩ := ite_some h
  refine rn_retC hi hr ?_
  exact congrArg Value.int (narrow_char_ok h0)
/-- calls: the stack as it stands, the callee's walk -/
theorem fr_callV {As : List AV} {stk : List AV} {x0 : Option AV} (hi : ins m pc = some (.invokevirtual j, npc, k, 0)) (hq : (3 ≤ k ∧ k < 241) ∧ (mP k).1 = 0 ∧ c < 14 ∧ mO k = c ∧ (mP k).2.1 = As.length ∧ catS (.inr (.inr a) :: As) ≤ mL k) (hst : stk = As.reverse ++ .inr (.inr a) :: st) (hcs : catS st ≤ 8) (hsh : (wsh w a).1 = c)
    (hcal : Rn g l d k 0 (ent 0 (.inr (.inr a) :: As)) [] w x0 w1) (kk : Rn g l (d + 1) m npc ls (x0.toList ++ st) w1 v w') : Rn g l (d + 1) m pc ls stk w v w' := by
  rw [hst]
  exact rn_callV hi hq.1 hq.2.1 hsh hq.2.2.1 hq.2.2.2.1 hq.2.2.2.2.1 hcs hq.2.2.2.2.2 hcal kk
theorem fr_callS {As : List AV} {stk : List AV} {x0 : Option AV} {nst : Nat} (hi : ins m pc = some (.invokestatic j, npc, k, ((nst : Nat) : Int))) (hq : (nst = 0 ∨ nst = 1) ∧ (3 ≤ k ∧ k < 241) ∧ (mP k).1 = 1 ∧ (mP k).2.1 = As.length ∧ catS As ≤ mL k) (hst : stk = As.reverse ++ st) (hcs : catS st ≤ 8)
    (hcal : Rn g l d k 0 (ent 0 As) [] w x0 w1) (kk : Rn g l (d + 1) m npc ls (x0.toList ++ st) w1 v w') : Rn g l (d + 1) m pc ls stk w v w' := by
  rw [hst]
  exact rn_callS hi hq.1 hq.2.1 hq.2.2.1 hq.2.2.2.1 hcs hq.2.2.2.2 hcal kk
theorem fr_callI {As : List AV} {stk : List AV} {nst : Nat} (hi : ins m pc = some (.invokespecial j, npc, k, ((nst : Nat) : Int))) (hq : (nst = 0 ∨ nst = 1) ∧ (3 ≤ k ∧ k < 241) ∧ (mP k).1 = 2 ∧ (mP k).2.1 = As.length ∧ catS (.inr (.inr a) :: As) ≤ mL k ∧ c ≠ 99) (hst : stk = As.reverse ++ .inr (.inr a) :: st) (hcs : catS st ≤ 8) (hsh : (wsh w a).1 = c)
    (hcal : Rn g l d k 0 (ent 0 (.inr (.inr a) :: As)) [] w none w1) (kk : Rn g l (d + 1) m npc ls st w1 v w') : Rn g l (d + 1) m pc ls stk w v w' := by
  rw [hst]
  exact rn_hp (fun ⟨H, hP⟩ => rn_callI hi hq.1 hq.2.1 hq.2.2.1 (hp_ne0 hP (by rw [hsh]; exact hq.2.2.2.2.2)) hq.2.2.2.1 hcs hq.2.2.2.2.1 hcal kk) ⟨Nat.le_trans hcal.1 kk.1, Nat.le_trans hcal.2.1 kk.2.1⟩
end FR
