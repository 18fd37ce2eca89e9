/-! rows of rows -/
theorem mu_outer (c : ClassId) (N h0 : Nat) : ∀ i : Nat, Jvm.Free.Multi.outerC c N h0 i = arrV c N (fun j => if j < i then .ref (h0 + 1 + j) else .null)
  | 0 => by
    show ({ cls := c, slots := Array.replicate N .null, vm := .none } : Cell) = _
    rw [arrV_new]
    refine congrArg (arrV c N) (funext fun j => ?_)
    simp
  | i + 1 => by
    show (Jvm.Free.Multi.outerC c N h0 i).setSlot i (.ref (h0 + 1 + i)) = _
    rw [mu_outer c N h0 i, arrV_store]
    refine congrArg (arrV c N) (funext fun j => ?_)
    by_cases e : j = i
    · subst e
      simp [updV]
    · by_cases h : j < i
      · simp [updV, e, h, Nat.lt_succ_of_lt h]
      · simp [updV, e, h, show ¬ j < i + 1 by omega]
section MU
variable {g : Gp} {l : Launch} {d m pc npc x : Nat} {y : Int} {ls : List (Nat × AV)} {st : List AV} {w w' w1 : Wd} {v : Option AV} {j : Nat} {n k : Int}
theorem HP.new2 {H H1 : Heap} {N K : Nat} (hP : HP g w H) (hN : N < 2147483648) (hK : K < 2147483648) (hz : H1.size = H.size + 1 + N) (hq : ∀ q, q < H.size → H1[q]? = H[q]?) (h0 : H1[H.size]? = some (arrV (gA g 26) N (fun j => if j < N then .ref (H.size + 1 + j) else .null))) (hr : ∀ j, j < N → H1[H.size + 1 + j]? = some (arrV (gA g 20) K (fun _ => .int 0))) : HP g (nw2 w N K) H1 := by
  have had := hp_ad hP
  obtain ⟨p1, p2, p3, p4, p5, p6, p7, p8⟩ := hP
  have sh0 : wsh (nw2 w N K) (wn w) = (26, N) := if_pos rfl
  have sh1 : ∀ b, wn w < b → b < wn w + 1 + N → wsh (nw2 w N K) b = (20, K) := fun b h1 h2 => (if_neg (by omega)).trans (if_pos ⟨h1, h2⟩)
  have sh2 : ∀ b, b < wn w ∨ wn w + 1 + N ≤ b → wsh (nw2 w N K) b = wsh w b := fun b h => (if_neg (by omega)).trans (if_neg (by omega))
  refine ⟨by show 6 ≤ wn w + 1 + N; omega, by show H1.size = gb g + (wn w + 1 + N - 6); omega, fun b hb1 hb2 => ?_, fun b hb => ?_, fun b hb => ?_, fun b => ?_, fun b q => ?_, fun b q => ?_⟩
  · have hb2 : b < wn w + 1 + N := hb2
    rcases Nat.lt_trichotomy b (wn w) with e | e | e
    · have o1 : ∀ q, wI (nw2 w N K) b q = wI w b q := fun q => if_neg (by omega)
      have o2 : ∀ q, wL (nw2 w N K) b q = wL w b q := fun q => if_neg (by omega)
      have o3 : ∀ q, wR (nw2 w N K) b q = wR w b q := fun q => (if_neg (by omega)).trans (if_neg (by omega))
      have hlt : ad g b < H.size := by
        unfold ad
        by_cases h6 : b < 6
        · rw [if_pos h6]
          have := (p4 b h6).1
          omega
        · rw [if_neg h6]
          omega
      have hk : H1[ad g b]? = H[ad g b]? := hq _ hlt
      have e1 : ∀ t' q, el g (nw2 w N K) t' b q = el g w t' b q := fun t' q => by unfold el; rw [o1, o2, o3]
      have e2 : ∀ c q, fv g (nw2 w N K) c b q = fv g w c b q := fun c q => by unfold fv; rw [o1, o2, o3]
      have hs := sh2 b (Or.inl e)
      rcases p3 b hb1 e with ⟨q1, cell, q2⟩ | ⟨q1, cell, q2⟩
      · refine Or.inl ⟨by rw [hs]; exact q1, cell, ?_⟩
        rw [hs, hk]
        simp only [e2]
        exact q2
      · refine Or.inr ⟨by rw [hs]; exact q1, cell, ?_⟩
        rw [hs, hk]
        simp only [e1]
        exact q2
    · subst e
      refine Or.inr ⟨by rw [sh0]; show 26 ∈ tgs; decide, ?_⟩
      rw [sh0]
      have hel : ∀ q, el g (nw2 w N K) 26 (wn w) q = if q < N then .ref (H.size + 1 + q) else .null := fun q => by
        show hv g (if wn w = wn w then (if q < N then wn w + 1 + q else 0) else _) = _
        rw [if_pos rfl]
        by_cases hqN : q < N
        · rw [if_pos hqN, if_pos hqN, hv_ref (by omega)]
          have had2 : ad g (wn w + 1 + q) = H.size + 1 + q := by
            unfold ad
            rw [if_neg (by omega), p2]
            omega
          rw [had2]
        · rw [if_neg hqN, if_neg hqN]; rfl
      refine ⟨_, by rw [had]; exact h0, rfl, fun h => (by cases h), rfl, by rw [arrV_size]; exact Nat.le_refl _, by rw [arrV_size], fun q hq => by rw [arrV_read _ _ hq, hel q], fun _ => ?_⟩
      congr 1
      funext q
      exact (hel q).symm
    · have hs := sh1 b e hb2
      refine Or.inr ⟨by rw [hs]; show 20 ∈ tgs; decide, ?_⟩
      rw [hs]
      have hel : ∀ q, el g (nw2 w N K) 20 b q = .int 0 := fun q => by
        show Value.int (i32 (if wn w ≤ b ∧ b < wn w + 1 + N then 0 else wI w b q)) = _
        rw [if_pos ⟨by omega, hb2⟩]
        rfl
      have hadb : ad g b = H.size + 1 + (b - wn w - 1) := by
        unfold ad
        rw [if_neg (by omega)]
        omega
      refine ⟨_, by rw [hadb]; exact hr _ (by omega), rfl, fun h => (by cases h), rfl, by rw [arrV_size]; exact Nat.le_refl _, by rw [arrV_size], fun q hq => by rw [arrV_read _ _ hq, hel q], fun _ => ?_⟩
      congr 1
      funext q
      exact (hel q).symm
  · rw [sh2 b (Or.inl (by omega))]; exact p4 b hb
  · have hb9 : b = 0 ∨ wn w + 1 + N ≤ b := hb
    rw [sh2 b (by omega)]
    exact p5 b (by omega)
  · rcases Nat.lt_trichotomy b (wn w) with e | e | e
    · rw [sh2 b (Or.inl e)]; exact p6 b
    · rw [e, sh0]; exact hN
    · rcases Nat.lt_or_ge b (wn w + 1 + N) with e2 | e2
      · rw [sh1 b e e2]; exact hK
      · rw [sh2 b (Or.inr e2)]; exact p6 b
  · show rg (if wn w ≤ b ∧ b < wn w + 1 + N then 0 else wI w b q)
    split
    · exact rg_zero
    · exact p7 b q
  · show rl (if wn w ≤ b ∧ b < wn w + 1 + N then 0 else wL w b q)
    split
    · exact ⟨by omega, by omega⟩
    · exact p8 b q
theorem rn_multi (hi : ins m pc = some (.multianewarray j 2, npc, 26, y)) (h : nwM w n k = some w1) (kk : Rn g l d m npc ls (.inr (.inr (wn w)) :: st) w1 v w') : Rn g l d m pc ls (.inl k :: .inl n :: st) w v w' := by
  obtain ⟨hd, hn⟩ := ins_d hi rfl
  obtain ⟨-, -, hk, -, -⟩ := ins_dec hi
  subst hn
  have hcl := cls_in3 (pc := pc) rfl (show clsTab.any _ = true from hk)
  obtain ⟨⟨n0, k0, n1, k1⟩, rfl⟩ := ite_some h
  have e1 : wn (nw2 w n.toNat k.toNat) - wn w = 1 + n.toNat := by show wn w + 1 + n.toNat - wn w = _; omega
  have e2 : wz (nw2 w n.toNat k.toNat) - wz w = n.toNat + n.toNat * k.toNat := by show wz w + n.toNat + n.toNat * k.toNat - wz w = _; omega
  refine Rn.by (w1 := nw2 w n.toNat k.toNat) (by show wn w ≤ wn w + 1 + n.toNat; omega) (by show wz w ≤ wz w + n.toNat + n.toNat * k.toNat; omega) kk (fun p e R s mid args below meth c0 hC hd0 hl0 H locs lsC cells slots Q hc1 hc2 hP hS hL ho hol k2 => ?_)
  rw [e1] at hc1 k2
  rw [e2] at hc2 k2
  obtain ⟨hx, hb, hml, hr, hown, hts, hlk, hnm, hT, hZ⟩ := hC
  have hrk : rg k := okl_head ho
  have hrn : rg n := okl_head (okl_tail ho)
  have had := hp_ad hP
  have hw6 : 6 ≤ wn w := hP.1
  have hov : (Cond.arrayOver (.array .int)).before args s = true := hT.2.2.2.2.2.2.1 26 (by decide)
  have hneg : ∀ z : Int, rg z → 0 ≤ z → ¬ i32 z < 0 := fun z hz h0 q => by rw [← i32_zero, i32_lt hz rg_zero] at q; omega
  intro T hT0 X
  obtain ⟨vm₁, cA, comp, -, fA, fC, hO, -, X', step⟩ := X.multianewarray2F hx hown (hts _ hcl) hov (hts _ (w_arr 20 (Or.inl rfl))) (g := F0 mid pc lsC _) rfl (by rw [hb]; exact hd) (n := i32 n) (k := i32 k) (rest := st.map (cv g)) rfl (hneg n hrn n0) (hneg k hrk k0) (by rw [i32_clamp hrn]; omega) (by rw [i32_clamp hrk]; show k.toNat * 4 ≤ _; omega) (by rw [i32_clamp hrk]; omega) rfl rfl (by rw [i32_clamp hrn]; exact hc1) (by rw [i32_clamp hrn, i32_clamp hrk]; exact hc2)
  rw [i32_clamp hrn, i32_clamp hrk] at X' step
  have hcA : cA = gA g 26 := Option.some.inj (fA.symm.trans (hT.2.2.2.2.1 26 (by decide)))
  have hcomp : comp = gA g 20 := Option.some.inj (fC.symm.trans (hT.2.2.2.2.1 20 (by decide)))
  subst hcA
  subst hcomp
  generalize hF : Jvm.Free.Multi.fill (T.setVm vm₁) (gA g 26) (gA g 20) n.toNat k.toNat (defaultValue .int) n.toNat = F at X' step
  have hTh : (T.setVm vm₁).heap = H := hT0
  obtain ⟨f1, f2, -, -⟩ := Jvm.Free.Multi.fill_facts (T.setVm vm₁) (gA g 26) (gA g 20) n.toNat k.toNat (defaultValue .int) n.toNat
  rw [hF, hTh] at f1 f2
  have hold : ∀ q : Nat, q < H.size → F.heap[q]? = H[q]? := fun q hq => by
    have h9 := Jvm.Free.Multi.fill_old (T.setVm vm₁) (gA g 26) (gA g 20) n.toNat k.toNat (defaultValue .int) (a := q) (by rw [hTh]; exact hq) n.toNat
    rw [hF, hTh] at h9
    exact h9
  have hrow : ∀ q : Nat, q < n.toNat → F.heap[H.size + 1 + q]? = some (arrV (gA g 20) k.toNat (fun _ => .int 0)) := fun q hq => by
    have h9 := Jvm.Free.Multi.fill_inner (T.setVm vm₁) (gA g 26) (gA g 20) n.toNat k.toNat (defaultValue .int) n.toNat q hq
    rw [hF, hTh] at h9
    rw [h9, ← arrV_new]
    rfl
  rw [mu_outer] at f2
  have hP1 : HP g (nw2 w n.toNat k.toNat) F.heap := hP.new2 (by omega) (by omega) f1 hold f2 hrow
  have h9 := k2 F.heap locs lsC hP1 ⟨Nat.le_trans hS.1 (by omega), fun q h1 h2 => (hold q (Nat.lt_of_lt_of_le h1 hS.1)).trans (hS.2.1 q h1 h2), hS.2.2⟩ hL (okl_cons trivial (okl_tail (okl_tail ho))) hol
  rw [List.map_cons, cv_ref (by omega), had, ← Nat.add_assoc, ← Nat.add_assoc] at h9
  obtain ⟨t9, s1, s2⟩ := h9 F rfl X'
  refine ⟨t9, step t9 ?_, s2⟩
  have e9 : T.heap.size = H.size := by rw [hT0]
  rw [e9]
  exact s1
end MU
