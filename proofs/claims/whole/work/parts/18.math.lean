/-! Math's three -/
def iabs (a : Int) : Int := if a < 0 then w32 (-a) else a
theorem mm_abs : mY 0 = Lib.Math.abs.name := by decide +kernel
theorem mm_max : mY 1 = Lib.Math.max.name := by decide +kernel
theorem mm_min : mY 2 = Lib.Math.min.name := by decide +kernel
set_option maxRecDepth 100000 in
theorem mm_abs1 : Cond.static Lib.Math.abs.name ∈ GW := gw_at 813 (by decide +kernel) rfl
set_option maxRecDepth 100000 in
theorem mm_abs2 : Cond.code Lib.Math.abs.name Lib.Math.abs.code 1 (some .int) ∈ GW := gw_at 814 (by decide +kernel) rfl
set_option maxRecDepth 100000 in
theorem mm_max1 : Cond.static Lib.Math.max.name ∈ GW := gw_at 633 (by decide +kernel) rfl
set_option maxRecDepth 100000 in
theorem mm_max2 : Cond.code Lib.Math.max.name Lib.Math.max.code 2 (some .int) ∈ GW := gw_at 634 (by decide +kernel) rfl
set_option maxRecDepth 100000 in
theorem mm_min1 : Cond.static Lib.Math.min.name ∈ GW := gw_at 589 (by decide +kernel) rfl
set_option maxRecDepth 100000 in
theorem mm_min2 : Cond.code Lib.Math.min.name Lib.Math.min.code 2 (some .int) ∈ GW := gw_at 590 (by decide +kernel) rfl
theorem mm_ini : Cond.initialized "java/lang/Math" ∈ GW := gw_at 113 (by decide +kernel) rfl
section RMM
variable {g : Gp} {l : Launch} {d m pc npc j : Nat} {ls : List (Nat × AV)} {st : List AV} {w w' : Wd} {v : Option AV} {a b : Int}
theorem rn_max (hi : ins m pc = some (.invokestatic j, npc, 1, 0)) (hcs : catS st ≤ 8) (k : Rn g l (d + 1) m npc ls (.inl (max a b) :: st) w v w') : Rn g l (d + 1) m pc ls (.inl b :: .inl a :: st) w v w' := by
  obtain ⟨hd, hn0⟩ := ins_d hi rfl
  obtain ⟨-, -, hkk, -, -⟩ := ins_dec hi
  subst hn0
  have hkk : mthTab.any (fun q => q.1 == mO m && q.2.1 == j && q.2.2.1 == 1 && ((q.2.2.2.1 : Nat) : Int) == 0) = true := hkk
  obtain ⟨q, hq, h1⟩ := List.any_eq_true.mp hkk
  simp only [Bool.and_eq_true, beq_iff_eq] at h1
  obtain ⟨⟨⟨h1, h2⟩, h3⟩, h4⟩ := h1
  have h5 := mth_ok q hq (by omega)
  have hw : Cond.methodLink (cN (mO m)) j Lib.Math.max.name ∈ GW := by
    rcases h5 with ⟨-, f⟩ | ⟨f, -⟩
    · rw [h1, h2, h3, mm_max] at f; exact gw_at _ f rfl
    · omega
  refine Rn.by (Nat.le_refl _) (Nat.le_refl _) k (fun p e R s mid args below meth c0 hC hd0 hl0 H locs lsC cells slots Q hc1 hc2 hP hS hL ho hol kk => ?_)
  obtain ⟨hx, hb, hmx, hr, hown, hts, hlk, hnm, hT, hZ⟩ := hC
  have e9 : i32 (max a b) = (if i32 a < i32 b then i32 b else i32 a) := by
    have hxy := i32_lt (okl_head (okl_tail ho)) (okl_head ho)
    rw [show max a b = if a < b then b else a by omega]
    by_cases h : a < b
    · rw [if_pos h, if_pos (hxy.mpr h)]
    · rw [if_neg h, if_neg (fun q => h (hxy.mp q))]
  have e2 := kk H locs lsC hP hS hL (okl_cons (by show rg (max a b); have h1 : rg a := okl_head (okl_tail ho); have h2 : rg b := okl_head ho; unfold rg at h1 h2 ⊢; omega) (okl_tail (okl_tail ho))) hol
  rw [Nat.sub_self, Nat.sub_self, List.map_cons, show cv g (.inl (max a b)) = .int (if i32 a < i32 b then i32 b else i32 a) from congrArg Value.int e9] at e2
  rw [Nat.sub_self] at hc1 hc2
  exact va_mmax hx hb (by rw [hmx]; exact hL.1.symm) hown (hts _ hw) (hts _ mm_max1) (hts _ mm_ini) (hts _ mm_max2) (by omega) (by rw [catS_eq]; omega) hc1 hc2 hd e2
theorem rn_min (hi : ins m pc = some (.invokestatic j, npc, 2, 0)) (hcs : catS st ≤ 8) (k : Rn g l (d + 1) m npc ls (.inl (min a b) :: st) w v w') : Rn g l (d + 1) m pc ls (.inl b :: .inl a :: st) w v w' := by
  obtain ⟨hd, hn0⟩ := ins_d hi rfl
  obtain ⟨-, -, hkk, -, -⟩ := ins_dec hi
  subst hn0
  have hkk : mthTab.any (fun q => q.1 == mO m && q.2.1 == j && q.2.2.1 == 2 && ((q.2.2.2.1 : Nat) : Int) == 0) = true := hkk
  obtain ⟨q, hq, h1⟩ := List.any_eq_true.mp hkk
  simp only [Bool.and_eq_true, beq_iff_eq] at h1
  obtain ⟨⟨⟨h1, h2⟩, h3⟩, h4⟩ := h1
  have h5 := mth_ok q hq (by omega)
  have hw : Cond.methodLink (cN (mO m)) j Lib.Math.min.name ∈ GW := by
    rcases h5 with ⟨-, f⟩ | ⟨f, -⟩
    · rw [h1, h2, h3, mm_min] at f; exact gw_at _ f rfl
    · omega
  refine Rn.by (Nat.le_refl _) (Nat.le_refl _) k (fun p e R s mid args below meth c0 hC hd0 hl0 H locs lsC cells slots Q hc1 hc2 hP hS hL ho hol kk => ?_)
  obtain ⟨hx, hb, hmx, hr, hown, hts, hlk, hnm, hT, hZ⟩ := hC
  have e9 : i32 (min a b) = (if i32 b < i32 a then i32 b else i32 a) := by
    have hxy := i32_lt (okl_head ho) (okl_head (okl_tail ho))
    rw [show min a b = if b < a then b else a by omega]
    by_cases h : b < a
    · rw [if_pos h, if_pos (hxy.mpr h)]
    · rw [if_neg h, if_neg (fun q => h (hxy.mp q))]
  have e2 := kk H locs lsC hP hS hL (okl_cons (by show rg (min a b); have h1 : rg a := okl_head (okl_tail ho); have h2 : rg b := okl_head ho; unfold rg at h1 h2 ⊢; omega) (okl_tail (okl_tail ho))) hol
  rw [Nat.sub_self, Nat.sub_self, List.map_cons, show cv g (.inl (min a b)) = .int (if i32 b < i32 a then i32 b else i32 a) from congrArg Value.int e9] at e2
  rw [Nat.sub_self] at hc1 hc2
  exact va_mmin hx hb (by rw [hmx]; exact hL.1.symm) hown (hts _ hw) (hts _ mm_min1) (hts _ mm_ini) (hts _ mm_min2) (by omega) (by rw [catS_eq]; omega) hc1 hc2 hd e2
theorem rn_abs (hi : ins m pc = some (.invokestatic j, npc, 0, 0)) (hcs : catS st ≤ 8) (k : Rn g l (d + 1) m npc ls (.inl (iabs a) :: st) w v w') : Rn g l (d + 1) m pc ls (.inl a :: st) w v w' := by
  obtain ⟨hd, hn0⟩ := ins_d hi rfl
  obtain ⟨-, -, hkk, -, -⟩ := ins_dec hi
  subst hn0
  have hkk : mthTab.any (fun q => q.1 == mO m && q.2.1 == j && q.2.2.1 == 0 && ((q.2.2.2.1 : Nat) : Int) == 0) = true := hkk
  obtain ⟨q, hq, h1⟩ := List.any_eq_true.mp hkk
  simp only [Bool.and_eq_true, beq_iff_eq] at h1
  obtain ⟨⟨⟨h1, h2⟩, h3⟩, h4⟩ := h1
  have h5 := mth_ok q hq (by omega)
  have hw : Cond.methodLink (cN (mO m)) j Lib.Math.abs.name ∈ GW := by
    rcases h5 with ⟨-, f⟩ | ⟨f, -⟩
    · rw [h1, h2, h3, mm_abs] at f; exact gw_at _ f rfl
    · omega
  refine Rn.by (Nat.le_refl _) (Nat.le_refl _) k (fun p e R s mid args below meth c0 hC hd0 hl0 H locs lsC cells slots Q hc1 hc2 hP hS hL ho hol kk => ?_)
  obtain ⟨hx, hb, hmx, hr, hown, hts, hlk, hnm, hT, hZ⟩ := hC
  have e9 : i32 (iabs a) = (if 0 ≤ i32 a then i32 a else 0 - i32 a) := by
    have hxy := i32_le rg_zero (okl_head ho)
    rw [i32_zero] at hxy
    unfold iabs
    by_cases h : a < 0
    · rw [if_pos h, if_neg (fun q => by have := hxy.mp q; omega), i32_w32, ← i32_zero, ← Int32.ofInt_sub, Int.zero_sub]
    · rw [if_neg h, if_pos (hxy.mpr (by omega))]
  have e2 := kk H locs lsC hP hS hL (okl_cons (by show rg (iabs a); have h1 : rg a := okl_head ho; unfold iabs; split; exact rg_w32 _; exact h1) (okl_tail ho)) hol
  rw [Nat.sub_self, Nat.sub_self, List.map_cons, show cv g (.inl (iabs a)) = .int (if 0 ≤ i32 a then i32 a else 0 - i32 a) from congrArg Value.int e9] at e2
  rw [Nat.sub_self] at hc1 hc2
  exact va_mabs hx hb (by rw [hmx]; exact hL.1.symm) hown (hts _ hw) (hts _ mm_abs1) (hts _ mm_ini) (hts _ mm_abs2) (by omega) (by rw [catS_eq]; omega) hc1 hc2 hd e2
end RMM
