/-! The machine's steps over worlds: Rn says that from a frame the method comes to its end, with an answer and a world. -/
def Cx (g : Gp) (m : Nat) (p : Program) (s : State) (mid : MethodId) (args : Array Value) (meth : Method) (c : Code) : Prop :=
  p.tables.exec = Jvm.exec ∧ c.code = mB m ∧ c.maxLocals = mL m ∧ meth.sig.returnType = mR m ∧ s.vm.findClass (cN (mO m)) = some mid.cls ∧ (∀ q, q ∈ GW → q.before args s = true) ∧ meth.locks = false ∧ ((mY m).name = "<init>" → meth.name = "<init>") ∧ ST g s ∧ ZZ g s s.heap
def Rt (m pcR : Nat) (v : Option AV) : Prop := match v with
  | none => decode (mB m) pcR = .ok (.return_, 1) ∧ mR m = none
  | some (.inl z) => decode (mB m) pcR = .ok (.ireturn, 1) ∧ ∃ ty, mR m = some ty ∧ narrow ty (.int (i32 z)) = .int (i32 z)
  | some (.inr (.inl _)) => decode (mB m) pcR = .ok (.lreturn, 1) ∧ mR m = some .long
  | some (.inr (.inr _)) => False
def okl (st : List AV) : Prop := ∀ v, v ∈ st → okv v
def okls (ls : List (Nat × AV)) : Prop := ∀ q, q ∈ ls → okv q.2
def Rn (g : Gp) (l : Launch) (d m pc : Nat) (ls : List (Nat × AV)) (st : List AV) (w : Wd) (v : Option AV) (w' : Wd) : Prop :=
  wn w ≤ wn w' ∧ wz w ≤ wz w' ∧ ∀ (p : Program) (e : Env) (R : Room) (s : State) (mid : MethodId) (args : Array Value) (below : List Frame) (meth : Method) (c : Code),
    Cx g m p s mid args meth c → d ≤ R.frames → 64 * d ≤ R.locals → ∀ (n0 z0 : Nat), n0 ≤ wn w → z0 ≤ wz w → wn w' - n0 ≤ R.cells → wz w' - z0 ≤ R.slots →
    ∀ (H : Heap) (locs : List Loc) (lsC : Array Slot) (Q : State → Prop), HP g w H → va_S (Ar g) s.heap H locs → lv_has lsC (mL m) (ls.map (cvp g)) → okl st → okls ls →
    (∀ (H1 : Heap) (locs1 : List Loc) (ls1 : Array Slot) (pcR : Nat), HP g w' H1 → va_S (Ar g) s.heap H1 locs1 → Rt m pcR v → (∀ x, v = some x → okv x) → W p l e R s mid args below meth c H1 locs1 (wn w' - n0) (wz w' - z0) Q (F0 mid pcR ls1 (v.toList.map (cv g)))) →
    W p l e R s mid args below meth c H locs (wn w - n0) (wz w - z0) Q (F0 mid pc lsC (st.map (cv g)))
section RN
variable {g : Gp} {l : Launch} {d m pc npc x : Nat} {y : Int} {ls ls' : List (Nat × AV)} {st : List AV} {w w' : Wd} {v : Option AV}
/-- one step, the world perhaps another one behind it -/
theorem Rn.by {pc1 : Nat} {ls1 : List (Nat × AV)} {st1 : List AV} {w1 : Wd} (hn : wn w ≤ wn w1) (hz : wz w ≤ wz w1) (h : Rn g l d m pc1 ls1 st1 w1 v w')
    (step : ∀ (p : Program) (e : Env) (R : Room) (s : State) (mid : MethodId) (args : Array Value) (below : List Frame) (meth : Method) (c : Code), Cx g m p s mid args meth c → d ≤ R.frames → 64 * d ≤ R.locals →
      ∀ (H : Heap) (locs : List Loc) (lsC : Array Slot) (cells slots : Nat) (Q : State → Prop), cells + (wn w1 - wn w) ≤ R.cells → slots + (wz w1 - wz w) ≤ R.slots → HP g w H → va_S (Ar g) s.heap H locs → lv_has lsC (mL m) (ls.map (cvp g)) → okl st → okls ls →
      (∀ (H1 : Heap) (locs1 : List Loc) (ls1C : Array Slot), HP g w1 H1 → va_S (Ar g) s.heap H1 locs1 → lv_has ls1C (mL m) (ls1.map (cvp g)) → okl st1 → okls ls1 → W p l e R s mid args below meth c H1 locs1 (cells + (wn w1 - wn w)) (slots + (wz w1 - wz w)) Q (F0 mid pc1 ls1C (st1.map (cv g)))) →
      W p l e R s mid args below meth c H locs cells slots Q (F0 mid pc lsC (st.map (cv g)))) : Rn g l d m pc ls st w v w' := by
  obtain ⟨h1, h2, h3⟩ := h
  refine ⟨Nat.le_trans hn h1, Nat.le_trans hz h2, fun p e R s mid args below meth c hC hd hl n0 z0 hn0 hz0 hc hs H locs lsC Q hP hS hL ho hol kk => ?_⟩
  refine step p e R s mid args below meth c hC hd hl H locs lsC (wn w - n0) (wz w - z0) Q (by omega) (by omega) hP hS hL ho hol (fun H1 locs1 ls1C hP1 hS1 hL1 ho1 hol1 => ?_)
  have e1 : wn w - n0 + (wn w1 - wn w) = wn w1 - n0 := by omega
  have e2 : wz w - z0 + (wz w1 - wz w) = wz w1 - z0 := by omega
  rw [e1, e2]
  exact h3 p e R s mid args below meth c hC hd hl n0 z0 (by omega) (by omega) hc hs H1 locs1 ls1C Q hP1 hS1 hL1 ho1 hol1 kk
/-- one step in the same world -/
theorem Rn.on {pc1 : Nat} {ls1 : List (Nat × AV)} {st1 : List AV} (h : Rn g l d m pc1 ls1 st1 w v w')
    (step : ∀ (p : Program) (e : Env) (R : Room) (s : State) (mid : MethodId) (args : Array Value) (below : List Frame) (meth : Method) (c : Code), Cx g m p s mid args meth c →
      ∀ (H : Heap) (locs : List Loc) (lsC : Array Slot) (cells slots : Nat) (Q : State → Prop), HP g w H → va_S (Ar g) s.heap H locs → lv_has lsC (mL m) (ls.map (cvp g)) → okl st → okls ls →
      (∀ (ls1C : Array Slot), lv_has ls1C (mL m) (ls1.map (cvp g)) → okl st1 → okls ls1 → W p l e R s mid args below meth c H locs cells slots Q (F0 mid pc1 ls1C (st1.map (cv g)))) →
      W p l e R s mid args below meth c H locs cells slots Q (F0 mid pc lsC (st.map (cv g)))) : Rn g l d m pc ls st w v w' := by
  refine Rn.by (Nat.le_refl _) (Nat.le_refl _) h (fun p e R s mid args below meth c hC hd hl H locs lsC cells slots Q hc hs hP hS hL ho hol kk => ?_)
  refine step p e R s mid args below meth c hC H locs lsC cells slots Q hP hS hL ho hol (fun ls1C hL1 ho1 hol1 => ?_)
  have h0 := kk H locs ls1C hP hS hL1 ho1 hol1
  rw [Nat.sub_self, Nat.sub_self] at h0
  exact h0
theorem okl_nil : okl [] := fun _ h => absurd h List.not_mem_nil
theorem okl_cons {a : AV} {t : List AV} (h : okv a) (ht : okl t) : okl (a :: t) := fun v hv => by
  rcases List.mem_cons.mp hv with e | e
  · rw [e]; exact h
  · exact ht v e
theorem okl_tail {a : AV} {t : List AV} (h : okl (a :: t)) : okl t := fun v hv => h v (List.mem_cons_of_mem _ hv)
theorem okl_head {a : AV} {t : List AV} (h : okl (a :: t)) : okv a := h a List.mem_cons_self
def lget : List (Nat × AV) → Nat → Option AV
  | [], _ => none
  | q :: t, i => bif Nat.beq q.1 i then some q.2 else lget t i
theorem lget_mem : ∀ (ls : List (Nat × AV)) (i : Nat) (v : AV), lget ls i = some v → (i, v) ∈ ls
  | [], _, _, h => by cases h
  | q :: t, i, v, h => by
    unfold lget at h
    cases hb : Nat.beq q.1 i with
    | true =>
      rw [hb] at h
      have h1 : q.2 = v := Option.some.inj h
      have h2 : q.1 = i := Nat.eq_of_beq_eq_true hb
      rw [← h1, ← h2]
      exact List.mem_cons_self
    | false =>
      rw [hb] at h
      exact List.mem_cons_of_mem _ (lget_mem t i v h)
theorem lget_at {i : Nat} {a : AV} {lsC : Array Slot} {n : Nat} (h : lget ls i = some a) (hL : lv_has lsC n (ls.map (cvp g))) : lsC[i]? = some (.val (cv g a)) := hL.2.2 (i, cv g a) (List.mem_map.mpr ⟨(i, a), lget_mem _ _ _ h, rfl⟩)
theorem lget_ok {i : Nat} {a : AV} (h : lget ls i = some a) (ho : okls ls) : okv a := ho _ (lget_mem _ _ _ h)
def isL (a : AV) : Bool := match a with
  | .inr (.inl _) => true
  | _ => false
theorem cat_cv (a : AV) : ((cv g a).category == 2) = isL a := by
  rcases a with z | z | q
  · rfl
  · rfl
  · show ((if q = 0 then (match gz g with | .ref q => .ref q | _ => .null) else Value.ref (ad g q)).category == 2) = false
    by_cases hq : q = 0
    · rw [if_pos hq]; cases gz g <;> rfl
    · rw [if_neg hq]; rfl
theorem cat1 {a : AV} (h : isL a = false) : (cv g a).category = 1 := by
  have h1 := cat_cv (g := g) a
  rw [h] at h1
  rcases lv_cat (cv g a) with q | q
  · exact q
  · rw [q] at h1; cases h1
def lst1 (i : Nat) (a : AV) (ls : List (Nat × AV)) : List (Nat × AV) := (i, a) :: ls.filter (fun q => !(q.1 == i) && !(q.1 + 1 == i && isL q.2))
def lst2 (i : Nat) (a : AV) (ls : List (Nat × AV)) : List (Nat × AV) := (i, a) :: ls.filter (fun q => !(q.1 == i) && (!(q.1 == i + 1) && !(q.1 + 1 == i && isL q.2)))
theorem lst1_map (i : Nat) (a : AV) : (i, cv g a) :: (ls.map (cvp g)).filter (fun q => !(q.1 == i) && !(q.1 + 1 == i && q.2.category == 2)) = (lst1 i a ls).map (cvp g) := by
  unfold lst1
  rw [List.map_cons, List.filter_map]
  congr 2
  apply List.filter_congr
  intro q _
  simp only [Function.comp, cvp, cat_cv]
theorem lst2_map (i : Nat) (a : AV) : (i, cv g a) :: (ls.map (cvp g)).filter (fun q => !(q.1 == i) && (!(q.1 == i + 1) && !(q.1 + 1 == i && q.2.category == 2))) = (lst2 i a ls).map (cvp g) := by
  unfold lst2
  rw [List.map_cons, List.filter_map]
  congr 2
  apply List.filter_congr
  intro q _
  simp only [Function.comp, cvp, cat_cv]
theorem lst1_ok {i : Nat} {a : AV} (ha : okv a) (h : okls ls) : okls (lst1 i a ls) := fun q hq => by
  rcases List.mem_cons.mp hq with e | e
  · rw [e]; exact ha
  · exact h q (List.mem_filter.mp e).1
theorem lst2_ok {i : Nat} {a : AV} (ha : okv a) (h : okls ls) : okls (lst2 i a ls) := fun q hq => by
  rcases List.mem_cons.mp hq with e | e
  · rw [e]; exact ha
  · exact h q (List.mem_filter.mp e).1
/-- fewer locals, by their places -/
theorem rn_sub (ks : List Nat) (h : ks.filterMap (fun k => ls[k]?) = ls') (k : Rn g l d m pc ls' st w v w') : Rn g l d m pc ls st w v w' := by
  have hm : ∀ q, q ∈ ls' → q ∈ ls := fun q hq => by
    rw [← h] at hq
    obtain ⟨i, -, hi⟩ := List.mem_filterMap.mp hq
    exact List.mem_of_getElem? hi
  refine Rn.on k (fun p e R s mid args below meth c hC H locs lsC cells slots Q hP hS hL ho hol kk => ?_)
  refine kk lsC ⟨hL.1, hL.2.1, fun q hq => ?_⟩ ho (fun q hq => hol q (hm q hq))
  obtain ⟨q0, h0, rfl⟩ := List.mem_map.mp hq
  exact hL.2.2 _ (List.mem_map.mpr ⟨q0, hm q0 h0, rfl⟩)
end RN
