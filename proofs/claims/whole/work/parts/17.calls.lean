theorem mw_all {k : Nat} (h : 3 ≤ k ∧ k < 241) : (Cond.code (mY k) (mB k) (mL k) (mR k) ∈ GW) ∧ ((mP k).1 = 1 → Cond.static (mY k) ∈ GW) ∧ ((mP k).1 ≠ 1 → Cond.instanceMethod (mY k) ∈ GW) ∧ ((mP k).1 = 0 → Cond.selects (mY k).cls (mY k) (mY k) ∈ GW) ∧ Cond.initialized (mY k).cls ∈ GW ∧ (parseMethodDescriptor (mY k).desc).map (fun d => d.parameters.length) = some (mP k).2.1 ∧ plainName (mY k).cls = true ∧ ((mY k).cls ≠ "java/lang/invoke/MethodHandle" ∧ (mY k).cls ≠ "java/lang/invoke/VarHandle") ∧ mL k ≤ 45 ∧ ((mP k).1 = 2 → (mY k).name = "<init>" ∧ mR k = none) := by
  have h0 := mwc_all k h.1 h.2
  unfold mwc at h0
  simp only [Bool.and_eq_true, Bool.or_eq_true, decide_eq_true_eq] at h0
  obtain ⟨⟨⟨⟨⟨⟨⟨a2, a3⟩, a4⟩, a5⟩, a6⟩, a7⟩, a8⟩, a9⟩ := h0
  refine ⟨cw_all k h.1 h.2, fun e => ?_, fun e => ?_, fun e => ?_, gw_at _ a4 rfl, a5, a6, a7, a8, fun e => ?_⟩
  · rw [if_pos e] at a2; exact gw_at _ a2 rfl
  · rw [if_neg e] at a2; exact gw_at _ a2 rfl
  · rcases a3 with a3 | a3
    · exact absurd e a3
    · exact gw_at _ a3 rfl
  · rcases a9 with a9 | a9
    · exact absurd e a9
    · exact a9
/-- a method's locals at its entry -/
def ent : Nat → List AV → List (Nat × AV)
  | _, [] => []
  | i, a :: t => (i, a) :: ent (i + bif isL a then 2 else 1) t
theorem cat_if {g : Gp} (a : AV) : (cv g a).category = bif isL a then 2 else 1 := by
  have h2 := cat_cv (g := g) a
  rcases lv_cat (cv g a) with q | q
  · rw [q] at h2 ⊢; rw [← h2]; rfl
  · rw [q] at h2 ⊢; rw [← h2]; rfl
theorem ent_map {g : Gp} : ∀ (As : List AV) (i : Nat), lv_args i (As.map (cv g)) = (ent i As).map (cvp g)
  | [], i => rfl
  | a :: t, i => by
    have ih := ent_map (g := g) t (i + bif isL a then 2 else 1)
    have e1 : (if (cv g a).category = 2 then i + 2 else i + 1) = i + bif isL a then 2 else 1 := by
      rw [cat_if]
      cases isL a <;> rfl
    show (i, cv g a) :: lv_args (if (cv g a).category = 2 then i + 2 else i + 1) (t.map (cv g)) = (i, cv g a) :: (ent (i + bif isL a then 2 else 1) t).map (cvp g)
    rw [e1, ih]
theorem ent_len {g : Gp} : ∀ As : List AV, (lg_sl (As.map (cv g))).length = catS As
  | [] => rfl
  | a :: t => by
    have ih := ent_len (g := g) t
    have h1 := cat_if (g := g) a
    show ((if (cv g a).category = 2 then [Slot.val (cv g a), .second] else [.val (cv g a)]) ++ lg_sl (t.map (cv g))).length = (bif isL a then 2 else 1) + catS t
    rw [List.length_append, ih]
    rw [h1]
    cases isL a <;> rfl
theorem okls_ent : ∀ (As : List AV) (i : Nat), okl As → okls (ent i As)
  | [], _, _ => fun q h => absurd h List.not_mem_nil
  | a :: t, i, h => fun q hq => by
    rcases List.mem_cons.mp hq with e | e
    · rw [e]; exact okl_head h
    · exact okls_ent t _ (okl_tail h) q e
section RC
variable {g : Gp} {l : Launch} {d m pc npc j k : Nat} {ls : List (Nat × AV)} {st : List AV} {w w' w1 : Wd} {v x : Option AV} {As : List AV} {a : Nat}
def cWs (k : Nat) : List Cond := .code (mY k) (mB k) (mL k) (mR k) :: GW
def cRm (d : Nat) (w w1 : Wd) : Room := { frames := d, cells := wn w1 - wn w, slots := wz w1 - wz w, locals := 64 * d }
def cPc (g : Gp) (As : List AV) (w : Wd) : Array Value → State → Prop := fun a U => a = (As.map (cv g)).toArray ∧ ST g U ∧ ZZ g U U.heap ∧ HP g w U.heap
def cQc (g : Gp) (x : Option AV) (w1 : Wd) : Array Value → State → Outcome → State → Prop := fun _ s o t => o = .returned (x.map (cv g)) ∧ (∀ z, x = some z → okv z) ∧ HP g w1 t.heap ∧ va_F (Ar g) s t
theorem met_of (hk : 3 ≤ k ∧ k < 241) (h : Rn g l d k 0 (ent 0 As) [] w x w1) (hok : okl As) (hlen : catS As ≤ mL k) : Met l (mY k) (cWs k) (cRm d w w1) (cPc g As w) (cQc g x w1) (wn w1 - wn w) (wz w1 - wz w) (Ar g) := by
  obtain ⟨-, -, -, -, -, -, hpl, -, -, -⟩ := mw_all hk
  refine Met.ofW (cc := mB k) (maxL := mL k) (ret := mR k) hpl rfl ?_
  intro p e s mid args below meth c s₁ B hml hv
  obtain ⟨rfl, hT, hZ, hP⟩ := hv
  have hts0 := atoms_spec (ws := cWs k) B.pre
  have hown : s.vm.findClass (mY k).cls = some mid.cls := findClass_of_methodNamed B.named
  have hC : Cx g k p s mid (As.map (cv g)).toArray meth c := ⟨B.exec, B.bytes, hml, B.returns, hown, fun q hq => hts0 q (List.mem_cons_of_mem _ hq), B.notSynchronized, fun h9 => ((name_of_methodNamed B.named B.method).1).trans h9, hT, hZ⟩
  have hl := lv_entry (As.map (cv g)) (n := mL k) (by rw [ent_len]; exact hlen)
  rw [ent_map] at hl
  rw [lg_entry_eq]
  have h3 := h.2.2 p e (cRm d w w1) s mid (As.map (cv g)).toArray below meth c hC (Nat.le_refl _) (Nat.le_refl _) (wn w) (wz w) (Nat.le_refl _) (Nat.le_refl _) (Nat.le_refl _) (Nat.le_refl _) s.heap [] _ (MQ below (cQc g x w1) (As.map (cv g)).toArray s (wn w1 - wn w) (wz w1 - wz w) (Ar g)) hP va_S.rf hl okl_nil (okls_ent As 0 hok)
  rw [Nat.sub_self, Nat.sub_self] at h3
  refine h3 (fun H1 locs1 ls1 pcR hP1 hS1 hR hx => ?_)
  have hq : ∀ (t : State), t.heap = H1 → cQc g x w1 (As.map (cv g)).toArray s (.returned (x.map (cv g))) t := fun t ht => ⟨rfl, hx, by rw [ht]; exact hP1, hS1.F ht⟩
  have hlk : meth.locks = false := B.notSynchronized
  rcases x with _ | z | z | z
  · exact W.vret B.exec B.bytes (B.returns.trans hR.2) (fun t ht _ => hq t ht) hS1.2.2 hR.1
  · obtain ⟨hd, ty, hr, hn⟩ := hR
    exact W.zret B.exec B.bytes (B.returns.trans hr) hn (fun t ht _ => hq t ht) hS1.2.2 hd
  · exact W.lret B.exec B.bytes (B.returns.trans hR.2) (fun t ht _ => hq t ht) hS1.2.2 hR.1
  · exact hR.elim
theorem cPc_blind : FrameBlind (cPc g As w) := fun a U g0 mk h => ⟨h.1, ST.same (s := U) (U := U.calling g0 mk a) rfl h.2.1, ZZ.moved (s := U) (U := U.calling g0 mk a) (Vm.Alike.refl _) h.2.2.1, h.2.2.2⟩
theorem cPc_at {s : State} {H : Heap} {locs : List Loc} (hT : ST g s) (hZ : ZZ g s s.heap) (hP : HP g w H) (hS : va_S (Ar g) s.heap H locs) (U : State) (hU : U.heap = H) (hW : s.WarmedH U.vm) : cPc g As w (As.map (cv g)).toArray U :=
  ⟨rfl, hT.warm hW, by rw [hU]; exact (hZ.kept hS.2.1).moved hW.alike, by rw [hU]; exact hP⟩
theorem cWs_warm {s : State} {args : Array Value} (hk : 3 ≤ k ∧ k < 241) (hts : ∀ q, q ∈ GW → q.before args s = true) : ∀ q ∈ cWs k, ∀ (a' : Array Value) (U : State), s.WarmedH U.vm → q.before a' U = true := fun q hq a' U hW => by
  have hq2 : q ∈ GW := by
    rcases List.mem_cons.mp hq with e | e
    · rw [e]; exact (mw_all hk).1
    · exact e
  exact word_at hW (gw_good hq2) (hts q hq2)
/-- behind a call -/
theorem run_on {p : Program} {e : Env} {R : Room} {s : State} {mid : MethodId} {args : Array Value} {below : List Frame} {meth : Method} {c : Code} {H : Heap} {locs : List Loc} {cells slots : Nat} {Q : State → Prop} {lsC : Array Slot} {stk rest : List Value} {av : Array Value}
    (hr : va_Run p l e R s mid args below meth c H locs cells slots (wn w1 - wn w) (wz w1 - wz w) (F0 mid pc lsC stk) rest (cQc g x w1 av) (Ar g)) (hS : va_S (Ar g) s.heap H locs)
    (kk : ∀ (H1 : Heap) (locs1 : List Loc), HP g w1 H1 → va_S (Ar g) s.heap H1 locs1 → (∀ z, x = some z → okv z) → W p l e R s mid args below meth c H1 locs1 (cells + (wn w1 - wn w)) (slots + (wz w1 - wz w)) Q (F0 mid (pc + 3) lsC (x.toList.map (cv g) ++ rest))) : W p l e R s mid args below meth c H locs cells slots Q (F0 mid pc lsC stk) := by
  intro T hT X
  obtain ⟨v, st₀, t, T', L, h0, X', hL, e1, e2, ⟨q1, q2, q3, q4⟩, hst⟩ := hr T hT X
  have hv : v = x.map (cv g) := by injection q1
  subst hv
  have hF2 := q4.2
  rw [h0] at hF2
  have hF1 := q4.1
  rw [h0] at hF1
  obtain ⟨t2, s1, s2⟩ := kk T'.heap (locs ++ L) (by rw [e1]; exact q3) ⟨Nat.le_trans hS.1 (by rw [e1]; exact hF1), fun q h1 h2 => by
      rw [e1, hF2 q (Nat.lt_of_lt_of_le h1 hS.1) h2]
      exact hS.2.1 q h1 h2, fun q hq => by
      rcases List.mem_append.mp hq with h | h
      · exact hS.2.2 q h
      · exact hL q h⟩ q2 T' rfl X'
  refine ⟨t2, hst t2 ?_, s2⟩
  have e9 : (x.map (cv g)).toList = x.toList.map (cv g) := by cases x <;> rfl
  rw [e9]
  exact s1
theorem cCB {R : Room} {s : State} {args : Array Value} {own : String} {n : Nat} (hk : 3 ≤ k ∧ k < 241) (hts : ∀ q, q ∈ GW → q.before args s = true) (hd : d + 1 ≤ R.frames) (hl : 64 * (d + 1) ≤ R.locals) (hn : (mP k).2.1 = n) (hlink : (Cond.methodLink own j (mY k)).before args s = true) : CallB R s args own j (mY k) (mB k) (mL k) (mR k) (cWs k) (cRm d w w1) (wn w1 - wn w) (wz w1 - wz w) n := by
  obtain ⟨b1, b2, b3, b4, b5, b6, b7, b8, b9, b10⟩ := mw_all hk
  refine ⟨rfl, rfl, hd, ?_, cWs_warm hk hts, List.mem_cons_self, hts _ b1, hts _ b5, b8, fun sig h => ?_, hlink⟩
  · show 8 + (mL k + 11) + 64 * d ≤ R.locals
    omega
  · rw [h] at b6
    rw [← hn]
    exact (Option.some.inj b6).symm
theorem cCN {R : Room} {s : State} {args : Array Value} {own : String} {n : Nat} (hk : 3 ≤ k ∧ k < 241) (hts : ∀ q, q ∈ GW → q.before args s = true) (hd : d + 1 ≤ R.frames) (hl : 64 * (d + 1) ≤ R.locals) (hn : (mP k).2.1 = n) (hlink : (Cond.methodLinkNest own j (mY k) "HandHeirs").before args s = true) : va_CN R s args own j (mY k) "HandHeirs" (mB k) (mL k) (mR k) (cWs k) (cRm d w w1) (wn w1 - wn w) (wz w1 - wz w) n := by
  obtain ⟨b1, b2, b3, b4, b5, b6, b7, b8, b9, b10⟩ := mw_all hk
  refine ⟨⟨rfl, rfl, hd, ?_, cWs_warm hk hts, List.mem_cons_self⟩, hts _ b1, hts _ b5, b8, fun sig h => ?_, hlink⟩
  · show 8 + (mL k + 11) + 64 * d ≤ R.locals
    omega
  · rw [h] at b6
    rw [← hn]
    exact (Option.some.inj b6).symm
theorem mth_in {own nst : Nat} {e : Ent} (he : e.2.2.1 = k) (hy : e.2.2.2 = ((nst : Nat) : Int)) (hk : 3 ≤ k ∧ k < 241) (h : mthTab.any (fun q => q.1 == own && q.2.1 == j && q.2.2.1 == e.2.2.1 && ((q.2.2.2.1 : Nat) : Int) == e.2.2.2) = true) : (nst = 0 → Cond.methodLink (cN own) j (mY k) ∈ GW) ∧ (nst = 1 → Cond.methodLinkNest (cN own) j (mY k) "HandHeirs" ∈ NW) := by
  obtain ⟨q, hq, h1⟩ := List.any_eq_true.mp h
  simp only [Bool.and_eq_true, beq_iff_eq] at h1
  obtain ⟨⟨⟨h1, h2⟩, h3⟩, h4⟩ := h1
  have hck : q.2.2.2.1 = nst := by rw [hy] at h4; exact Int.ofNat.inj h4
  have h5 := mth_ok q hq (by rw [h3, he]; exact hk.2)
  rw [h1, h2, h3, he, hck] at h5
  refine ⟨fun e => ?_, fun e => ?_⟩
  · rcases h5 with ⟨-, f⟩ | ⟨f, -⟩
    · exact gw_at _ f rfl
    · omega
  · rcases h5 with ⟨f, -⟩ | ⟨-, f⟩
    · omega
    · exact List.mem_filter.mpr ⟨List.mem_of_getElem? f, rfl⟩
theorem okl_app {s1 s2 : List AV} (h : okl (s1 ++ s2)) : okl s1 ∧ okl s2 := ⟨fun v hv => h v (List.mem_append_left _ hv), fun v hv => h v (List.mem_append_right _ hv)⟩
theorem okl_rev {s1 : List AV} (h : okl s1.reverse) : okl s1 := fun v hv => h v (List.mem_reverse.mpr hv)
theorem okl_ret {rest : List AV} (h : okl rest) (hx : ∀ z, x = some z → okv z) : okl (x.toList ++ rest) := by
  cases x with
  | none => exact h
  | some z => exact okl_cons (hx z rfl) h
/-- a virtual call of our own class's method -/
theorem rn_callV {c : Nat} (hi : ins m pc = some (.invokevirtual j, npc, k, 0)) (hk : 3 ≤ k ∧ k < 241) (hkd : (mP k).1 = 0) (hsh : (wsh w a).1 = c) (hc : c < 14) (hcc : mO k = c) (hn : (mP k).2.1 = As.length) (hcs : catS st ≤ 8) (hen : catS (.inr (.inr a) :: As) ≤ mL k)
    (hcal : Rn g l d k 0 (ent 0 (.inr (.inr a) :: As)) [] w x w1) (kk : Rn g l (d + 1) m npc ls (x.toList ++ st) w1 v w') : Rn g l (d + 1) m pc ls (As.reverse ++ .inr (.inr a) :: st) w v w' := by
  obtain ⟨hd, hn0⟩ := ins_d hi rfl
  obtain ⟨-, -, hkk, -, -⟩ := ins_dec hi
  subst hn0
  have hml := (mth_in (nst := 0) rfl rfl hk (show mthTab.any _ = true from hkk)).1 rfl
  refine Rn.by hcal.1 hcal.2.1 kk (fun p e R s mid args below meth c0 hC hd0 hl0 H locs lsC cells slots Q hc1 hc2 hP hS hL ho hol k2 => ?_)
  obtain ⟨hx, hb, hmx, hr, hown, hts, hlk, hnm, hT, hZ⟩ := hC
  obtain ⟨o1, o2⟩ := okl_app ho
  obtain ⟨b1, b2, b3, b4, b5, b6, b7, b8, b9, b10⟩ := mw_all hk
  obtain ⟨a1, a2, cell, q1, q2, q3, q4, q5, q6⟩ := hP.obj hsh hc
  have hM := met_of hk hcal (okl_cons trivial (okl_rev o1)) hen
  have hcls : (mY k).cls = cN c := congrArg cN hcc
  have hW9 : 2 * (F0 mid pc lsC ((As.reverse ++ .inr (.inr a) :: st).map (cv g))).monitorRoom + ((st.map (cv g)).map fun v => v.category).sum ≤ 8 := lv_room (by rw [catS_eq]; exact hcs)
  refine run_on (x := x) (w1 := w1) (va_runV (C := cN c) (b := ad g a) (As := As.map (cv g)) (rest := st.map (cv g)) ⟨hx, hb, hmx, hown, hts⟩ hM ⟨cCB hk hts hd0 hl0 hn (hts _ hml), hts _ (b3 (by omega)), by rw [← hcls]; exact hts _ (b4 hkd)⟩ ⟨cPc_blind, ⟨cell, q1, q4, by rw [q2]; exact hT.1 c hc⟩, fun U hU hWm => by
      have h9 := cPc_at (As := .inr (.inr a) :: As) hT hZ hP hS U hU hWm
      rw [List.map_cons, cv_ref (a := a) (by omega)] at h9
      exact h9⟩ rfl (List.length_map _) hL.1 (by
      show (As.reverse ++ .inr (.inr a) :: st).map (cv g) = _
      rw [List.map_append, List.map_reverse, List.map_cons, cv_ref (a := a) (by omega)]) hW9 hd ⟨hc1, hc2⟩) hS (fun H1 locs1 hP1 hS1 hxo => ?_)
  have h9 := k2 H1 locs1 lsC hP1 hS1 hL (okl_ret (okl_tail o2) hxo) hol
  rw [List.map_append] at h9
  exact h9
/-- a static call -/
theorem rn_callS {nst : Nat} (hi : ins m pc = some (.invokestatic j, npc, k, ((nst : Nat) : Int))) (hns : nst = 0 ∨ nst = 1) (hk : 3 ≤ k ∧ k < 241) (hkd : (mP k).1 = 1) (hn : (mP k).2.1 = As.length) (hcs : catS st ≤ 8) (hen : catS As ≤ mL k)
    (hcal : Rn g l d k 0 (ent 0 As) [] w x w1) (kk : Rn g l (d + 1) m npc ls (x.toList ++ st) w1 v w') : Rn g l (d + 1) m pc ls (As.reverse ++ st) w v w' := by
  obtain ⟨hd, hn0⟩ := ins_d hi rfl
  obtain ⟨-, -, hkk, -, -⟩ := ins_dec hi
  subst hn0
  have hml := mth_in (nst := nst) rfl rfl hk (show mthTab.any _ = true from hkk)
  refine Rn.by hcal.1 hcal.2.1 kk (fun p e R s mid args below meth c0 hC hd0 hl0 H locs lsC cells slots Q hc1 hc2 hP hS hL ho hol k2 => ?_)
  obtain ⟨hx, hb, hmx, hr, hown, hts, hlk, hnm, hT, hZ⟩ := hC
  obtain ⟨o1, o2⟩ := okl_app ho
  obtain ⟨b1, b2, b3, b4, b5, b6, b7, b8, b9, b10⟩ := mw_all hk
  have hM := met_of hk hcal (okl_rev o1) hen
  have hW9 : 2 * (F0 mid pc lsC ((As.reverse ++ st).map (cv g))).monitorRoom + ((st.map (cv g)).map fun v => v.category).sum ≤ 8 := lv_room (by rw [catS_eq]; exact hcs)
  have hst9 : (As.reverse ++ st).map (cv g) = (As.map (cv g)).reverse ++ st.map (cv g) := by rw [List.map_append, List.map_reverse]
  have fin : ∀ (H1 : Heap) (locs1 : List Loc), HP g w1 H1 → va_S (Ar g) s.heap H1 locs1 → (∀ z, x = some z → okv z) → W p l e R s mid args below meth c0 H1 locs1 (cells + (wn w1 - wn w)) (slots + (wz w1 - wz w)) Q (F0 mid (pc + 3) lsC (x.toList.map (cv g) ++ st.map (cv g))) := fun H1 locs1 hP1 hS1 hxo => by
    have h9 := k2 H1 locs1 lsC hP1 hS1 hL (okl_ret o2 hxo) hol
    rw [List.map_append] at h9
    exact h9
  rcases hns with e0 | e0
  · exact run_on (x := x) (w1 := w1) (va_runS (As := As.map (cv g)) (rest := st.map (cv g)) ⟨hx, hb, hmx, hown, hts⟩ hM ⟨cCB hk hts hd0 hl0 hn (hts _ (hml.1 e0)), hts _ (b2 hkd)⟩ ⟨cPc_blind, fun U hU hWm => cPc_at hT hZ hP hS U hU hWm⟩ rfl (List.length_map _) hL.1 hst9 hW9 hd ⟨hc1, hc2⟩) hS fin
  · exact run_on (x := x) (w1 := w1) (va_runSN (host := "HandHeirs") (As := As.map (cv g)) (rest := st.map (cv g)) ⟨hx, hb, hmx, hown, hts⟩ hM ⟨cCN hk hts hd0 hl0 hn (va_Nw.use rfl (hT.2.2.2.2.2.1 _ (hml.2 e0))), hts _ (b2 hkd), trivial⟩ ⟨cPc_blind, fun U hU hWm => cPc_at hT hZ hP hS U hU hWm⟩ rfl (List.length_map _) hL.1 hst9 hW9 hd ⟨hc1, hc2⟩) hS fin
/-- a constructor -/
theorem rn_callI {nst : Nat} (hi : ins m pc = some (.invokespecial j, npc, k, ((nst : Nat) : Int))) (hns : nst = 0 ∨ nst = 1) (hk : 3 ≤ k ∧ k < 241) (hkd : (mP k).1 = 2) (ha : a ≠ 0) (hn : (mP k).2.1 = As.length) (hcs : catS st ≤ 8) (hen : catS (.inr (.inr a) :: As) ≤ mL k)
    (hcal : Rn g l d k 0 (ent 0 (.inr (.inr a) :: As)) [] w none w1) (kk : Rn g l (d + 1) m npc ls st w1 v w') : Rn g l (d + 1) m pc ls (As.reverse ++ .inr (.inr a) :: st) w v w' := by
  obtain ⟨hd, hn0⟩ := ins_d hi rfl
  obtain ⟨-, -, hkk, -, -⟩ := ins_dec hi
  subst hn0
  have hml := mth_in (nst := nst) rfl rfl hk (show mthTab.any _ = true from hkk)
  refine Rn.by hcal.1 hcal.2.1 kk (fun p e R s mid args below meth c0 hC hd0 hl0 H locs lsC cells slots Q hc1 hc2 hP hS hL ho hol k2 => ?_)
  obtain ⟨hx, hb, hmx, hr, hown, hts, hlk, hnm, hT, hZ⟩ := hC
  obtain ⟨o1, o2⟩ := okl_app ho
  obtain ⟨b1, b2, b3, b4, b5, b6, b7, b8, b9, b10⟩ := mw_all hk
  obtain ⟨hname, hret⟩ := b10 hkd
  have hM := met_of hk hcal (okl_cons trivial (okl_rev o1)) hen
  have hW9 : 2 * (F0 mid pc lsC ((As.reverse ++ .inr (.inr a) :: st).map (cv g))).monitorRoom + ((st.map (cv g)).map fun v => v.category).sum ≤ 8 := lv_room (by rw [catS_eq]; exact hcs)
  have hst9 : (As.reverse ++ .inr (.inr a) :: st).map (cv g) = (As.map (cv g)).reverse ++ .ref (ad g a) :: st.map (cv g) := by rw [List.map_append, List.map_reverse, List.map_cons, cv_ref ha]
  have hpc : ∀ U : State, U.heap = H → s.WarmedH U.vm → cPc g (.inr (.inr a) :: As) w (Value.ref (ad g a) :: As.map (cv g)).toArray U := fun U hU hWm => by
    have h9 := cPc_at (As := .inr (.inr a) :: As) hT hZ hP hS U hU hWm
    rw [List.map_cons, cv_ref ha] at h9
    exact h9
  have fin : ∀ (H1 : Heap) (locs1 : List Loc), HP g w1 H1 → va_S (Ar g) s.heap H1 locs1 → (∀ z, (none : Option AV) = some z → okv z) → W p l e R s mid args below meth c0 H1 locs1 (cells + (wn w1 - wn w)) (slots + (wz w1 - wz w)) Q (F0 mid (pc + 3) lsC ((none : Option AV).toList.map (cv g) ++ st.map (cv g))) := fun H1 locs1 hP1 hS1 hxo => k2 H1 locs1 lsC hP1 hS1 hL (okl_tail o2) hol
  have hcb := cCB (own := cN (mO m)) (d := d) (w := w) (w1 := w1) (R := R) (j := j) hk hts hd0 hl0 hn
  have hcn := cCN (own := cN (mO m)) (d := d) (w := w) (w1 := w1) (R := R) (j := j) hk hts hd0 hl0 hn
  rw [hret] at hcb hcn
  rcases hns with e0 | e0
  · exact run_on (x := none) (w1 := w1) (va_runI (b := ad g a) (As := As.map (cv g)) (rest := st.map (cv g)) ⟨hx, hb, hmx, hown, hts⟩ hM ⟨hcb (hts _ (hml.1 e0)), hname, hts _ (b3 (by omega))⟩ ⟨cPc_blind, hpc⟩ rfl (List.length_map _) hL.1 hst9 hW9 hd ⟨hc1, hc2⟩) hS fin
  · exact run_on (x := none) (w1 := w1) (va_runIN (host := "HandHeirs") (b := ad g a) (As := As.map (cv g)) (rest := st.map (cv g)) ⟨hx, hb, hmx, hown, hts⟩ hM ⟨hcn (va_Nw.use rfl (hT.2.2.2.2.2.1 _ (hml.2 e0))), hname, hts _ (b3 (by omega))⟩ ⟨cPc_blind, hpc⟩ rfl (List.length_map _) hL.1 hst9 hW9 hd ⟨hc1, hc2⟩) hS fin
end RC
