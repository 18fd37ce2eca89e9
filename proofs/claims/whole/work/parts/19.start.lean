/-! the law's start: the world of six old cells -/
def bytW : List Int := [108, 101, 116, 116, 101, 114, 32, 104, 101, 105, 114, 32, 109, 97, 115, 116, 101, 114, 32, 108, 101, 97, 114, 110, 32, 100, 114, 105, 102, 116, 32, 100, 97, 121, 115, 32, 108, 105, 109, 105, 116, 32, 115, 101, 101, 100, 32, 105, 102, 32, 116, 104, 101, 110, 32, 101, 108, 115, 101, 32, 111, 102, 102, 32, 121, 101, 97, 114, 32, 119, 111, 114, 110, 32, 111, 119, 110, 32, 104, 97, 110, 100, 32, 100, 97, 121]
def bytS : List Int := [59, 61, 43, 45, 42, 47, 60, 40, 41]
def w0 (L : Nat) (xs : Nat → Int32) : Wd := (6, 0, fun a => match a with
  | 1 => (30, L)
  | 2 => (13, 2)
  | 3 => (31, 86)
  | 4 => (13, 2)
  | 5 => (32, 9)
  | _ => (99, 0), fun a j => match a with
  | 1 => if j < L then (xs j).toInt else 0
  | 3 => bytW.getD j 0
  | 5 => bytS.getD j 0
  | _ => 0, fun _ _ => 0, fun a j => if a = 2 ∧ j = 0 then 3 else if a = 4 ∧ j = 0 then 5 else 0)
def stTm (i : Nat) : Term := if i = 0 then .string "HandHeirs$Scanner" 34 else .string "HandHeirs$Scanner" 77
def stLen : List Nat := [86, 9]
def stByt : List (List Int32) := [bytW.map Int32.ofInt, bytS.map Int32.ofInt]
def stFl : List Cond := flatC (Jvm.Cond.and given_1 narrow_1)
theorem sf_ex : ∀ i, i < 2 → Cond.exactly (stTm i) "java/lang/String" ∈ stFl := by decide +kernel
theorem sf_co : ∀ i, i < 2 → Cond.eq (.field (stTm i) "java/lang/String" "coder" "B") (.int 0) ∈ stFl := by decide +kernel
theorem sf_ar : ∀ i, i < 2 → Cond.arrayOf (.field (stTm i) "java/lang/String" "value" "[B") .byte ∈ stFl := by decide +kernel
theorem sf_le : ∀ i, i < 2 → Cond.eq (.length (.field (stTm i) "java/lang/String" "value" "[B")) (.int (Int32.ofNat (stLen.getD i 0))) ∈ stFl := by decide +kernel
theorem sf_el : ∀ i, i < 2 → ∀ j, j < stLen.getD i 0 → Cond.eq (.elem (.field (stTm i) "java/lang/String" "value" "[B") (.int (Int32.ofNat j))) (.int ((stByt.getD i []).getD j 0)) ∈ stFl := by decide +kernel
theorem sf_ne : ∀ i, i < 2 → ∀ j, j < 2 → i ≠ j → Cond.not (Cond.eq (stTm i) (stTm j)) ∈ stFl ∨ Cond.not (Cond.eq (stTm j) (stTm i)) ∈ stFl := by decide +kernel
theorem sf_cs : Cond.eq (.static "java/lang/String" "COMPACT_STRINGS" "Z") (.int 1) ∈ stFl := by decide +kernel
theorem sf_sf : Cond.isRef (.static "jdk/internal/util/Preconditions" "SIOOBE_FORMATTER" "Ljava/util/function/BiFunction;") ∈ stFl := by decide +kernel
theorem sr_ok : lw_tbl[249]? = some (.stringRef "HandHeirs$Scanner" 34 txW) ∧ lw_tbl[616]? = some (.stringRef "HandHeirs$Scanner" 77 txS) := by decide +kernel
theorem ls_ok : lw_tbl[259]? = some (.laysStatic "java/lang/String" "COMPACT_STRINGS" "Z") ∧ lw_tbl[275]? = some (.laysStatic "jdk/internal/util/Preconditions" "SIOOBE_FORMATTER" "Ljava/util/function/BiFunction;") ∧ lw_tbl[100]? = some (.initialized "java/lang/String") ∧ lw_tbl[102]? = some (.initialized "jdk/internal/util/Preconditions") := by decide +kernel
theorem ao_ok : lw_tbl[422]? = some (.arrayOver (.object "HandHeirs$State")) ∧ lw_tbl[436]? = some (.arrayOver (.object "HandHeirs$Slot")) ∧ lw_tbl[463]? = some (.arrayOver (.array .int)) := by decide +kernel
theorem cw13 : cW 13 = 2 := by decide +kernel
theorem bl_W : bytW.length = 86 := by decide +kernel
theorem bl_S : bytS.length = 9 := by decide +kernel
theorem br_W : ∀ j, j < 86 → (-2147483648 ≤ bytW.getD j 0 ∧ bytW.getD j 0 < 2147483648) := by decide +kernel
theorem br_S : ∀ j, j < 9 → (-2147483648 ≤ bytS.getD j 0 ∧ bytS.getD j 0 < 2147483648) := by decide +kernel
theorem byt_rg : (∀ j, rg (bytW.getD j 0)) ∧ ∀ j, rg (bytS.getD j 0) := by
  refine ⟨fun j => ?_, fun j => ?_⟩
  · by_cases h : j < 86
    · exact br_W j h
    · have h9 : bytW.length ≤ j := by rw [bl_W]; omega
      rw [List.getD_eq_getElem?_getD, List.getElem?_eq_none h9]; exact rg_zero
  · by_cases h : j < 9
    · exact br_S j h
    · have h9 : bytS.length ≤ j := by rw [bl_S]; omega
      rw [List.getD_eq_getElem?_getD, List.getElem?_eq_none h9]; exact rg_zero
theorem byt_W : ∀ j, j < 86 → (stByt.getD 0 []).getD j 0 = i32 (bytW.getD j 0) := by decide +kernel
theorem byt_S : ∀ j, j < 9 → (stByt.getD 1 []).getD j 0 = i32 (bytS.getD j 0) := by decide +kernel
set_option maxHeartbeats 4000000 in
set_option maxRecDepth 100000 in
theorem start_ok {s : State} {b L : Nat} {xs : Nat → Int32} (hL : L ≤ 3072) (hts : ∀ q, q ∈ lw_tbl → q.before #[Value.ref b] s = true) (hX : va_X b L xs s s.heap) (hbl : b < s.heap.size) (hgv : (Jvm.Cond.and given_1 narrow_1).before #[Value.ref b] s = true) :
    ∃ g : Gp, gb g = s.heap.size ∧ ad g 1 = b ∧ ST g s ∧ ZZ g s s.heap ∧ HP g (w0 L xs) s.heap := by
  have hfl := flat_of_before _ hgv
  have hA0 : ∀ a : Nat, a < s.heap.size → ¬ s.heap.size ≤ a := fun a h => by omega
  have hat : ∀ {q : Cond} (i : Nat), lw_tbl[i]? = some q → q.before #[Value.ref b] s = true := fun i h => hts _ (List.mem_of_getElem? h)
  -- the texts
  obtain ⟨adK, adV, hS, hSt⟩ := vk_Sof (N := 2) (tm := stTm) (len := stLen) (byt := stByt) (A := fun q => s.heap.size ≤ q) (args := #[Value.ref b]) (s := s) (by decide) (fun i hi => hfl _ (sf_ex i hi)) (fun i hi => hfl _ (sf_co i hi)) (fun i hi => hfl _ (sf_ar i hi)) (fun i hi => hfl _ (sf_le i hi)) (fun i hi j hj => hfl _ (sf_el i hi j hj)) (fun i j hi hj hne => (sf_ne i hi j hj hne).imp (hfl _) (hfl _)) hA0
  obtain ⟨hO0, hC0, hV0, hT0⟩ := hS.1 0 (by decide)
  obtain ⟨hO1, hC1, hV1, hT1⟩ := hS.1 1 (by decide)
  -- the statics
  have hZ1 : va_Z "java/lang/String" "COMPACT_STRINGS" "Z" (.int 1) (fun q => s.heap.size ≤ q) s s.heap := va_Zof (hat _ ls_ok.1) (hat _ ls_ok.2.2.1) (va_eqi (hfl _ sf_cs)) hA0
  have hZ2 := va_Zqof (A := fun q => s.heap.size ≤ q) (hat _ ls_ok.2.1) (hat _ ls_ok.2.2.2) (hfl _ sf_sf) hA0
  obtain ⟨z, hz, hZ3⟩ : ∃ z : Value, (z = .null ∨ ∃ q, z = .ref q) ∧ va_Z "jdk/internal/util/Preconditions" "SIOOBE_FORMATTER" "Ljava/util/function/BiFunction;" z (fun q => s.heap.size ≤ q) s s.heap := by
    rcases hZ2 with h | ⟨t, h⟩
    · exact ⟨_, Or.inl rfl, h⟩
    · exact ⟨_, Or.inr ⟨t, rfl⟩, h⟩
  -- the classes
  have hkn : ∀ c, ∃ q : ClassId × (Nat → Nat), c < 13 → u_Kn s (cN c) (cT c) (cW c) q.1 q.2 := fun c => by
    by_cases hc : c < 13
    · obtain ⟨cC, iS, h⟩ := u_known (C := cN c) (T := cT c) (N := cW c) hts (fun q hq => gw_in (lays_in hc q hq)) (hat _ (ins_ok c hc).1)
      exact ⟨(cC, iS), fun _ => h⟩
    · exact ⟨(0, fun _ => 0), fun h => absurd h hc⟩
  obtain ⟨kn, hkn⟩ := Classical.axiomOfChoice hkn
  obtain ⟨cellK0, o1, o2, o3, -⟩ := hO0
  obtain ⟨cellK1, o5, o6, o7, -⟩ := hO1
  obtain ⟨cfc, kfc, ifc, fdc, cellc, c1, c2, c3, c4, c5, -⟩ := hC0
  obtain ⟨cfv, kfv, ifv, fdv, cellv, v1, v2, v3, v4, v5, -⟩ := hV0
  obtain ⟨cfc', kfc', ifc', fdc', cellc', c1', c2', c3', c4', c5', -⟩ := hC1
  obtain ⟨cfv', kfv', ifv', fdv', cellv', v1', v2', v3', v4', v5', -⟩ := hV1
  obtain ⟨cellB0, t1, t2, t3, t4, t5, t6, -⟩ := hT0
  obtain ⟨cellB1, t1', t2', t3', t4', t5', t6', -⟩ := hT1
  obtain ⟨scr, s1, s2, s3, s4, s5⟩ := hX
  -- the classes of rows
  obtain ⟨a20, k20, m20, e20⟩ := Cond.arrayClass_spec (hts _ (gw_in (w_arr 20 (by decide))))
  obtain ⟨a21, k21, m21, e21⟩ := Cond.arrayClass_spec (hts _ (gw_in (w_arr 21 (by decide))))
  obtain ⟨a22, k22, m22, e22⟩ := Cond.arrayClass_spec (hts _ (gw_in (w_arr 22 (by decide))))
  obtain ⟨a23, k23, m23, e23⟩ := Cond.arrayClass_spec (hts _ (gw_in (w_arr 23 (by decide))))
  have v24 := hat _ ao_ok.1
  have v25 := hat _ ao_ok.2.1
  have v26 := hat _ ao_ok.2.2
  obtain ⟨m24, a24, k24, e24a, -, e24b, e24c, e24d⟩ := Cond.arrayOver_spec v24
  obtain ⟨m25, a25, k25, e25a, -, e25b, e25c, e25d⟩ := Cond.arrayOver_spec v25
  obtain ⟨m26, a26, k26, e26a, -, e26b, e26c, e26d⟩ := Jvm.Stand.arrayOver_specB v26
  obtain ⟨s2a, kscr, s2b, mscr, s2c⟩ := s2
  obtain ⟨t2a, kB0, t2b, mB0, t2c⟩ := t2
  obtain ⟨t2a', kB1, t2b', mB1, t2c'⟩ := t2'
  let g : Gp := (s.heap.size, fun a => match a with | 1 => b | 2 => adK 0 | 3 => adV 0 | 4 => adK 1 | 5 => adV 1 | _ => b, z, fun c => if c = 13 then cellK0.cls else (kn c).1, fun c => if c = 13 then (fun k => if k = 0 then fdv.slot else fdc.slot) else (kn c).2, fun t => match t with | 20 => a20 | 21 => a21 | 22 => a22 | 23 => a23 | 24 => a24 | 25 => a25 | 26 => a26 | 30 => scr.cls | 31 => cellB0.cls | _ => cellB1.cls)
  refine ⟨g, rfl, rfl, ?_, ⟨hZ1, hZ3, hz⟩, ?_⟩
  · refine ⟨fun c hc => ?_, fun c hc => ?_, fun c k hc hk => ?_, fun t ht => ?_, fun t ht => ?_, fun q hq => ?_, fun t ht => ?_, ?_, ?_⟩
    · by_cases e : c = 13
      · subst e; exact o3
      · have h9 : gC g c = (kn c).1 := if_neg e
        rw [h9]
        exact (hkn c (by omega)).2.1
    · have h9 : gC g c = (kn c).1 := if_neg (by omega)
      rw [h9]
      exact (hkn c hc).2.2
    · by_cases e : c = 13
      · subst e
        rw [cw13] at hk
        rcases (show k = 0 ∨ k = 1 by omega) with rfl | rfl
        · exact ⟨cfv, kfv, ifv, fdv, v1, rfl, v2⟩
        · exact ⟨cfc, kfc, ifc, fdc, c1, rfl, c2⟩
      · have hc13 : c < 13 := by omega
        have h9 : gI g c = (kn c).2 := if_neg e
        obtain ⟨hsl, hfc, kC, hkC, -⟩ := hkn c hc13
        obtain ⟨cf, kf, fi, fd, f1, f2⟩ := hsl k hk
        refine ⟨cf, kf, fi, fd, f1, by rw [h9]; exact f2, ?_⟩
        exact (u_facts hfc hkC (u_lays hts (fun q hq => gw_in (lays_in hc13 q hq)) hk) f1).1
    · simp only [tgs, List.mem_cons, List.not_mem_nil, or_false] at ht
      rcases ht with rfl | rfl | rfl | rfl | rfl | rfl | rfl | rfl | rfl | rfl
      · exact ⟨k20, m20, e20.2⟩
      · exact ⟨k21, m21, e21.2⟩
      · exact ⟨k22, m22, e22.2⟩
      · exact ⟨k23, m23, e23.2⟩
      · exact ⟨k24, m24, e24b, e24c⟩
      · exact ⟨k25, m25, e25b, e25c⟩
      · exact ⟨k26, m26, e26b, e26c⟩
      · exact ⟨kscr, mscr, s2b, s2c⟩
      · exact ⟨kB0, mB0, t2b, t2c⟩
      · exact ⟨kB1, mB1, t2b', t2c'⟩
    · simp only [tgn, List.mem_cons, List.not_mem_nil, or_false] at ht
      rcases ht with rfl | rfl | rfl | rfl | rfl | rfl | rfl
      · exact e20.1
      · exact e21.1
      · exact e22.1
      · exact e23.1
      · exact e24d
      · exact e25d
      · exact e26d
    · have hq2 := List.mem_filter.mp hq
      refine va_Nw.of ?_ (hts _ hq2.1)
      have hn := hq2.2
      cases q <;> first | rfl | (simp [isNest] at hn)
    · simp only [List.mem_cons, List.not_mem_nil, or_false] at ht
      rcases ht with rfl | rfl | rfl
      · exact v24
      · exact v25
      · exact v26
    · exact vk_R.of (hat _ sr_ok.1) (hSt 0 (by decide))
    · exact vk_R.of (hat _ sr_ok.2) (hSt 1 (by decide))
  · have ecv : cellv = cellK0 := Option.some.inj (v3.symm.trans o1)
    have ecc : cellc = cellK0 := Option.some.inj (c3.symm.trans o1)
    have ecv' : cellv' = cellK1 := Option.some.inj (v3'.symm.trans o5)
    have ecc' : cellc' = cellK1 := Option.some.inj (c3'.symm.trans o5)
    have efv : fdv' = fdv := by have h9 := v1.symm.trans v1'; simp at h9; exact h9.2.2.2.symm
    have efc : fdc' = fdc := by have h9 := c1.symm.trans c1'; simp at h9; exact h9.2.2.2.symm
    have ekc : cellK1.cls = cellK0.cls := Option.some.inj (o7.symm.trans o3)
    have v5K : cellK0.slots[fdv.slot]? = some (.ref (adV 0)) := by rw [← ecv]; exact v5
    have c5K : cellK0.slots[fdc.slot]? = some (.int 0) := by rw [← ecc]; exact c5
    have v5K' : cellK1.slots[fdv.slot]? = some (.ref (adV 1)) := by rw [← efv, ← ecv']; exact v5'
    have c5K' : cellK1.slots[fdc.slot]? = some (.int 0) := by rw [← efc, ← ecc']; exact c5'
    have nu0 : cellK0.vm ≠ .unknown := by rw [← ecv]; exact v4
    have nu1 : cellK1.vm ≠ .unknown := by rw [← ecv']; exact v4'
    have hst0 : ∀ {q : VmData}, (∀ k, q ≠ .statics k) → q.isStatics = false := fun {q} h => by cases q <;> first | rfl | exact absurd rfl (h _)
    refine ⟨Nat.le_refl _, rfl, fun a h1 h2 => ?_, fun a h => ?_, fun a h => ?_, fun a => ?_, fun a k => ?_, fun a k => ⟨by show (-9223372036854775808 : Int) ≤ 0; omega, by show (0 : Int) < _; omega⟩⟩
    · have h2 : a < 6 := h2
      rcases (show a = 1 ∨ a = 2 ∨ a = 3 ∨ a = 4 ∨ a = 5 by omega) with rfl | rfl | rfl | rfl | rfl
      · refine Or.inr ⟨by show 30 ∈ tgs; decide, scr, s1, rfl, s3, hst0 s2a, by rw [s4]; exact Nat.le_refl _, by rw [s4]; rfl, fun j hj => ?_, fun h => absurd h (by decide)⟩
        rw [s5 j hj]
        show some (Value.int (xs j)) = some (Value.int (i32 (if j < L then (xs j).toInt else 0)))
        rw [if_pos (show j < L from hj)]
        exact congrArg some (congrArg Value.int (Int32.ofInt_toInt _).symm)
      · refine Or.inl ⟨by show 13 < 14; decide, cellK0, o1, rfl, nu0, o2, fun h => absurd h (by decide), fun k hk => ?_⟩
        have hk : k < cW 13 := hk
        rw [cw13] at hk
        rcases (show k = 0 ∨ k = 1 by omega) with rfl | rfl
        · show cellK0.slots[fdv.slot]? = some (hv g 3)
          rw [v5K]; rfl
        · show cellK0.slots[fdc.slot]? = some (.int (i32 0))
          rw [c5K]; rfl
      · refine Or.inr ⟨by show 31 ∈ tgs; decide, cellB0, t1, rfl, t3, hst0 t2a, t4, t5, fun j hj => ?_, fun h => absurd h (by decide)⟩
        have hj : j < 86 := hj
        rw [t6 j hj]
        show some (Value.int ((stByt.getD 0 []).getD j 0)) = _
        rw [byt_W j hj]; rfl
      · refine Or.inl ⟨by show 13 < 14; decide, cellK1, o5, ekc, nu1, o6, fun h => absurd h (by decide), fun k hk => ?_⟩
        have hk : k < cW 13 := hk
        rw [cw13] at hk
        rcases (show k = 0 ∨ k = 1 by omega) with rfl | rfl
        · show cellK1.slots[fdv.slot]? = some (hv g 5)
          rw [v5K']; rfl
        · show cellK1.slots[fdc.slot]? = some (.int (i32 0))
          rw [c5K']; rfl
      · refine Or.inr ⟨by show 32 ∈ tgs; decide, cellB1, t1', rfl, t3', hst0 t2a', t4', t5', fun j hj => ?_, fun h => absurd h (by decide)⟩
        have hj : j < 9 := hj
        rw [t6' j hj]
        show some (Value.int ((stByt.getD 1 []).getD j 0)) = _
        rw [byt_S j hj]; rfl
    · refine ⟨?_, ?_⟩
      · have l1 := (Array.getElem?_eq_some_iff.mp o1).1
        have l2 := (Array.getElem?_eq_some_iff.mp o5).1
        have l3 := (Array.getElem?_eq_some_iff.mp t1).1
        have l4 := (Array.getElem?_eq_some_iff.mp t1').1
        rcases (show a = 0 ∨ a = 1 ∨ a = 2 ∨ a = 3 ∨ a = 4 ∨ a = 5 by omega) with rfl | rfl | rfl | rfl | rfl | rfl
        · exact hbl
        · exact hbl
        · exact l1
        · exact l3
        · exact l2
        · exact l4
      · rcases (show a = 0 ∨ a = 1 ∨ a = 2 ∨ a = 3 ∨ a = 4 ∨ a = 5 by omega) with rfl | rfl | rfl | rfl | rfl | rfl
        · exact Or.inr (Or.inr (Or.inr (Or.inr rfl)))
        · exact Or.inr (Or.inl rfl)
        · exact Or.inl rfl
        · exact Or.inr (Or.inr (Or.inl rfl))
        · exact Or.inl rfl
        · exact Or.inr (Or.inr (Or.inr (Or.inl rfl)))
    · have h : a = 0 ∨ 6 ≤ a := h
      rcases h with rfl | h
      · rfl
      · match a, h with
        | n + 6, _ => rfl
    · match a with
      | 0 => show 0 < 2147483648; decide
      | 1 => show L < 2147483648; omega
      | 2 => show 2 < 2147483648; decide
      | 3 => show 86 < 2147483648; decide
      | 4 => show 2 < 2147483648; decide
      | 5 => show 9 < 2147483648; decide
      | n + 6 => show 0 < 2147483648; decide
    · match a with
      | 0 => exact rg_zero
      | 1 =>
        show rg (if k < L then (xs k).toInt else 0)
        split
        · exact rg_toInt _
        · exact rg_zero
      | 2 => exact rg_zero
      | 3 => exact byt_rg.1 k
      | 4 => exact rg_zero
      | 5 => exact byt_rg.2 k
      | n + 6 => exact rg_zero
