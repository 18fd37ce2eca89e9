/-! longs: shifts, or, copies of rows of longs -/
def oshl (a b : Int) : Int := (i64 a <<< ((i32 b).toInt64 &&& 63)).toInt
def olushr (a b : Int) : Int := ((i64 a).toUInt64 >>> ((i32 b).toInt64.toUInt64 &&& Int64.toUInt64 63)).toInt64.toInt
def olor (a b : Int) : Int := (i64 a ||| i64 b).toInt
def cpL (w : Wd) (a i b j n : Nat) : Wd := (wn w, wz w, wsh w, wI w, fun c k => if c = b ∧ j ≤ k ∧ k < j + n then wL w a (i + (k - j)) else wL w c k, wR w)
def cpyL (w : Wd) (a : Nat) (i : Int) (b : Nat) (j n : Int) : Option Wd := if (wsh w a).1 = 22 ∧ (wsh w b).1 = 22 ∧ 0 ≤ i ∧ 0 ≤ j ∧ 0 ≤ n ∧ i + n ≤ ((wsh w a).2 : Int) ∧ j + n ≤ ((wsh w b).2 : Int) then some (cpL w a i.toNat b j.toNat n.toNat) else none
section RL
variable {g : Gp} {l : Launch} {d m pc npc x : Nat} {y : Int} {ls : List (Nat × AV)} {st : List AV} {w w' w1 : Wd} {v : Option AV} {a b j c t : Nat} {z : Int}
theorem rn_lshl {a b : Int} (hi : ins m pc = some (.lshl, npc, x, y)) (k : Rn g l d m npc ls (.inr (.inl (oshl a b)) :: st) w v w') : Rn g l d m pc ls (.inl b :: .inr (.inl a) :: st) w v w' := by
  obtain ⟨hd, hn⟩ := ins_d hi rfl
  obtain ⟨-, -, hk, -, hst⟩ := ins_dec hi
  subst hn
  refine Rn.on k (fun p e R s mid args below meth c hC H locs lsC cells slots Q hP hS hL ho hol kk => ?_)
  obtain ⟨hx, hb, hml, hr, hown, hts, hlk, hnm, hT, hZ⟩ := hC
  refine lv_lshl hx hb hd rfl ?_
  have e2 := kk lsC hL (okl_cons (show rl _ from rl_toInt _) (okl_tail (okl_tail ho))) hol
  rw [List.map_cons, show cv g (.inr (.inl (oshl a b))) = .long (i64 a <<< ((i32 b).toInt64 &&& 63)) from congrArg Value.long (Int64.ofInt_toInt _)] at e2
  exact e2
theorem rn_lushr {a b : Int} (hi : ins m pc = some (.lushr, npc, x, y)) (k : Rn g l d m npc ls (.inr (.inl (olushr a b)) :: st) w v w') : Rn g l d m pc ls (.inl b :: .inr (.inl a) :: st) w v w' := by
  obtain ⟨hd, hn⟩ := ins_d hi rfl
  obtain ⟨-, -, hk, -, hst⟩ := ins_dec hi
  subst hn
  refine Rn.on k (fun p e R s mid args below meth c hC H locs lsC cells slots Q hP hS hL ho hol kk => ?_)
  obtain ⟨hx, hb, hml, hr, hown, hts, hlk, hnm, hT, hZ⟩ := hC
  refine lv_lushr hx hb hd rfl ?_
  have e2 := kk lsC hL (okl_cons (show rl _ from rl_toInt _) (okl_tail (okl_tail ho))) hol
  rw [List.map_cons, show cv g (.inr (.inl (olushr a b))) = .long (((i64 a).toUInt64 >>> ((i32 b).toInt64.toUInt64 &&& Int64.toUInt64 63)).toInt64) from congrArg Value.long (Int64.ofInt_toInt _)] at e2
  exact e2
theorem rn_lor {a b : Int} (hi : ins m pc = some (.lor, npc, x, y)) (k : Rn g l d m npc ls (.inr (.inl (olor a b)) :: st) w v w') : Rn g l d m pc ls (.inr (.inl b) :: .inr (.inl a) :: st) w v w' := by
  obtain ⟨hd, hn⟩ := ins_d hi rfl
  obtain ⟨-, -, hk, -, hst⟩ := ins_dec hi
  subst hn
  refine Rn.on k (fun p e R s mid args below meth c hC H locs lsC cells slots Q hP hS hL ho hol kk => ?_)
  obtain ⟨hx, hb, hml, hr, hown, hts, hlk, hnm, hT, hZ⟩ := hC
  refine lv_lor hx hb hd ?_
  have e2 := kk lsC hL (okl_cons (show rl _ from rl_toInt _) (okl_tail (okl_tail ho))) hol
  rw [List.map_cons, show cv g (.inr (.inl (olor a b))) = .long (i64 a ||| i64 b) from congrArg Value.long (Int64.ofInt_toInt _)] at e2
  exact e2
theorem rn_copyL {i n jj : Int} (hi : ins m pc = some (.invokestatic j, npc, 1001, y)) (hcs : catS st ≤ 8) (h : cpyL w a i b jj n = some w1) (k : Rn g l (d + 1) m npc ls st w1 v w') : Rn g l (d + 1) m pc ls (.inl n :: .inl jj :: .inr (.inr b) :: .inl i :: .inr (.inr a) :: st) w v w' := by
  obtain ⟨hd, hn⟩ := ins_d hi rfl
  obtain ⟨-, -, hk, -, -⟩ := ins_dec hi
  subst hn
  have hk : mthTab.any (fun q => q.1 == mO m && q.2.1 == j && q.2.2.1 == 1001 && ((q.2.2.2.1 : Nat) : Int) == y) = true := hk
  obtain ⟨q, hq, h1⟩ := List.any_eq_true.mp hk
  simp only [Bool.and_eq_true, beq_iff_eq] at h1
  obtain ⟨⟨⟨h1, h2⟩, h3⟩, -⟩ := h1
  have hw := mth_1001 q hq h3
  rw [h1, h2] at hw
  obtain ⟨⟨hsa, hsb, i0, j0, n0, il, jl⟩, rfl⟩ := ite_some h
  refine Rn.by (w1 := cpL w a i.toNat b jj.toNat n.toNat) (Nat.le_refl _) (Nat.le_refl _) k (fun p e R s mid args below meth c0 hC hd0 hl0 H locs lsC cells slots Q hc1 hc2 hP hS hL ho hol kk => ?_)
  obtain ⟨hx, hb, hml, hr, hown, hts, hlk, hnm, hT, hZ⟩ := hC
  have hrn : rg n := okl_head ho
  have hrj : rg jj := okl_head (okl_tail ho)
  have hri : rg i := okl_head (okl_tail (okl_tail (okl_tail ho)))
  obtain ⟨a1, a2, cellA, p1, p2, p3, p4, p5, p6, p7, p8⟩ := hP.row hsa (by decide)
  obtain ⟨b1, b2, cellB, q1, q2, q3, q4, q5, q6, q7, q8⟩ := hP.row hsb (by decide)
  have a6 := hP.six hsa (by omega)
  have b6 := hP.six hsb (by omega)
  have ecA := p8 a6
  have ecB := q8 b6
  obtain ⟨kA, comp, k1, k2⟩ := hT.2.2.2.1 22 (by decide)
  rw [List.map_cons, List.map_cons, List.map_cons, List.map_cons, List.map_cons, cv_ref (a := a) (by omega), cv_ref (a := b) (by omega)]
  have hneg : ∀ z : Int, rg z → 0 ≤ z → ¬ i32 z < 0 := fun z hz h0 q => by rw [← i32_zero, i32_lt hz rg_zero] at q; omega
  have hfA : ∀ q, el g w 22 a q = .long (i64 (wL w a q)) := fun q => rfl
  have hfB : ∀ q, el g w 22 b q = .long (i64 (wL w b q)) := fun q => rfl
  have sA : cellA.slots.size = (wsh w a).2 := by rw [ecA, arrV_size]
  have sB : cellB.slots.size = (wsh w b).2 := by rw [ecB, arrV_size]
  intro T hT0 X
  obtain ⟨vm', X', step⟩ := X.arraycopy hx hown (hts _ (gw_at _ hw rfl)) (hts _ w_ac2) (hts _ w_ac1) (hts _ w_ac3) (src := ad g a) (dst := ad g b) (cs := cellA) (cd := cellB) (srcPos := i32 i) (destPos := i32 jj) (n := i32 n) (by rw [hT0]; exact p1) (by rw [hT0]; exact q1)
    (noStat p4) (noStat q4) p3 q3 (by rw [p2]; exact k1) (by rw [q2]; exact k1) k2 k2 (by decide) (hneg i hri i0) (hneg jj hrj j0) (hneg n hrn n0)
    (by rw [i32_toInt hri, i32_toInt hrn, sA]; omega) (by rw [i32_toInt hrj, i32_toInt hrn, sB]; omega)
    (fun vm₁ _ r hr => by
      rw [i32_clamp hrn] at hr
      have e9 : cellA.slots.getD ((i32 i).toNatClampNeg + r) .null = .long (i64 (wL w a (i.toNat + r))) := by
        rw [Array.getD_eq_getD_getElem?, i32_clamp hri, p7 _ (by omega)]
        rfl
      refine ⟨?_, ?_⟩
      · rw [e9]; rfl
      · rw [e9]; exact trivial)
    (g := F0 mid pc lsC _) rfl (by rw [hml]; exact hL.1) (rest := st.map (cv g)) rfl (by rw [hb]; exact hd) (by omega) (by
      show 2 * 0 + ((st.map (cv g)).map fun v => v.category).sum + _ ≤ R.locals
      rw [catS_eq]
      have := ac_words
      omega)
  have hnew : copied cellA cellB (i32 i) (i32 jj) (i32 n) = arrV (gA g 22) (wsh w b).2 (fun q => el g (cpL w a i.toNat b jj.toNat n.toNat) 22 b q) := by
    have e9 := va_copied (fun z => Value.long z) (gA g 22) (gA g 22) (n0 := (wsh w a).2) (n1 := (wsh w b).2) (sp := i.toNat) (dp := jj.toNat) (n := n.toNat) (fun q => i64 (wL w a q)) (fun q => i64 (wL w b q)) (by omega)
    have e8 : copied cellA cellB (i32 i) (i32 jj) (i32 n) = cellB.storeRun jj.toNat (cellA.stretch i.toNat n.toNat) := by
      unfold copied
      rw [i32_clamp hri, i32_clamp hrj, i32_clamp hrn]
    rw [e8, ecA, ecB]
    refine e9.trans ?_
    congr 1
    funext q
    show Value.long (va_cpy _ _ _ _ _ q) = Value.long (i64 (if b = b ∧ jj.toNat ≤ q ∧ q < jj.toNat + n.toNat then wL w a (i.toNat + (q - jj.toNat)) else wL w b q))
    unfold va_cpy
    by_cases hq : jj.toNat ≤ q ∧ q < jj.toNat + n.toNat
    · rw [if_pos hq, if_pos ⟨rfl, hq⟩]
    · rw [if_neg hq, if_neg (fun h => hq h.2)]
  rw [hnew] at X' step
  have hl : ad g b < H.size := (Array.getElem?_eq_some_iff.mp q1).1
  generalize hcn : arrV (gA g 22) (wsh w b).2 (fun q => el g (cpL w a i.toNat b jj.toNat n.toNat) 22 b q) = cellN at X' step
  have hheap : ((T.setVm vm').setCell (ad g b) cellN).heap = H.setIfInBounds (ad g b) cellN := by rw [← hT0]; rfl
  have oq : ∀ q : Nat, q ≠ ad g b → (H.setIfInBounds (ad g b) cellN)[q]? = H[q]? := fun q hq => by simp [Array.getElem?_setIfInBounds, Ne.symm hq]
  have osz : (H.setIfInBounds (ad g b) cellN).size = H.size := by simp
  have oat : (H.setIfInBounds (ad g b) cellN)[ad g b]? = some cellN := by simp [Array.getElem?_setIfInBounds, hl]
  have hP1 : HP g (cpL w a i.toNat b jj.toNat n.toNat) (H.setIfInBounds (ad g b) cellN) := by
    refine hP.upd b6 rfl rfl (fun c hc => ⟨fun _ => rfl, fun q => if_neg (fun h => hc h.1), fun _ => rfl⟩) (hP.2.2.2.2.2.2.1 b) (fun q => ?_) osz oq (Or.inr ⟨?_, ?_⟩)
    · show rl (if b = b ∧ jj.toNat ≤ q ∧ q < jj.toNat + n.toNat then wL w a (i.toNat + (q - jj.toNat)) else wL w b q)
      split
      · exact hP.2.2.2.2.2.2.2 a _
      · exact hP.2.2.2.2.2.2.2 b q
    · show (wsh w b).1 ∈ tgs
      rw [hsb]; decide
    · show HR g (cpL w a i.toNat b jj.toNat n.toNat) _ (wsh w b).1 (wsh w b).2 b
      rw [hsb]
      refine ⟨_, oat, by rw [← hcn]; rfl, by rw [← hcn]; exact fun h => (by cases h), by rw [← hcn]; rfl, by rw [← hcn, arrV_size]; exact Nat.le_refl _, by rw [← hcn, arrV_size], fun r hr => by rw [← hcn, arrV_read _ _ hr], fun _ => hcn.symm⟩
  have h9 := kk _ (locs ++ List.map (fun q => { base := ad g b, slot := (i32 jj).toNatClampNeg + q.snd }) (cellA.stretch (i32 i).toNatClampNeg (i32 n).toNatClampNeg).zipIdx) lsC hP1 ⟨by rw [osz]; exact hS.1, fun q g1 g2 => by
      rw [oq q (fun e => g2 (by rw [e]; exact ad_A b6))]
      exact hS.2.1 q g1 g2, fun q hq => by
      rcases List.mem_append.mp hq with h | h
      · exact hS.2.2 q h
      · obtain ⟨z9, -, hz9⟩ := List.mem_map.mp h
        rw [← hz9]
        exact ad_A b6⟩ hL (okl_tail (okl_tail (okl_tail (okl_tail (okl_tail ho))))) hol
  rw [show wn (cpL w a i.toNat b jj.toNat n.toNat) - wn w = 0 from Nat.sub_self _, show wz (cpL w a i.toNat b jj.toNat n.toNat) - wz w = 0 from Nat.sub_self _] at h9
  obtain ⟨t9, s1, s2⟩ := h9 _ hheap X'
  exact ⟨t9, step t9 s1, s2⟩
end RL
