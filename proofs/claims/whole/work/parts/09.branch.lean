/-! branches, switches, returns, constants -/
section RB
variable {g : Gp} {l : Launch} {d m pc npc x : Nat} {y : Int} {ls ls1 : List (Nat × AV)} {st : List AV} {w w' : Wd} {v : Option AV}
theorem rn_icmp_eq_t {a b q : Int} (hi : ins m pc = some (.if_icmp .eq q, npc, x, y)) (h : a = b) (k : Rn g l d m x ls st w v w') : Rn g l d m pc ls (.inl b :: .inl a :: st) w v w' := by
  obtain ⟨hd, hn⟩ := ins_d hi rfl
  obtain ⟨-, -, hk, -, -⟩ := ins_dec hi
  subst hn
  have hk : ((pc : Nat) : Int) + q = ((x : Nat) : Int) := by unfold opchk at hk; simpa using hk
  refine Rn.on k (fun p e R s mid args below meth c hC H locs lsC cells slots Q hP hS hL ho hol kk => ?_)
  obtain ⟨hx, hb, -⟩ := hC
  have hi2 := (i32_eq (okl_head (okl_tail ho)) (okl_head ho))
  exact lv_icmp_eq hx hb hd hk (fun _ => kk lsC hL (okl_tail (okl_tail ho)) hol) (fun h9 => absurd (hi2.mpr h) h9)
theorem rn_icmp_eq_f {a b q : Int} (hi : ins m pc = some (.if_icmp .eq q, npc, x, y)) (h : ¬ a = b) (k : Rn g l d m npc ls st w v w') : Rn g l d m pc ls (.inl b :: .inl a :: st) w v w' := by
  obtain ⟨hd, hn⟩ := ins_d hi rfl
  obtain ⟨-, -, hk, -, -⟩ := ins_dec hi
  subst hn
  have hk : ((pc : Nat) : Int) + q = ((x : Nat) : Int) := by unfold opchk at hk; simpa using hk
  refine Rn.on k (fun p e R s mid args below meth c hC H locs lsC cells slots Q hP hS hL ho hol kk => ?_)
  obtain ⟨hx, hb, -⟩ := hC
  have hi2 := (i32_eq (okl_head (okl_tail ho)) (okl_head ho))
  exact lv_icmp_eq hx hb hd hk (fun h9 => absurd (hi2.mp h9) h) (fun _ => kk lsC hL (okl_tail (okl_tail ho)) hol)
theorem rn_icmp_ne_t {a b q : Int} (hi : ins m pc = some (.if_icmp .ne q, npc, x, y)) (h : ¬ a = b) (k : Rn g l d m x ls st w v w') : Rn g l d m pc ls (.inl b :: .inl a :: st) w v w' := by
  obtain ⟨hd, hn⟩ := ins_d hi rfl
  obtain ⟨-, -, hk, -, -⟩ := ins_dec hi
  subst hn
  have hk : ((pc : Nat) : Int) + q = ((x : Nat) : Int) := by unfold opchk at hk; simpa using hk
  refine Rn.on k (fun p e R s mid args below meth c hC H locs lsC cells slots Q hP hS hL ho hol kk => ?_)
  obtain ⟨hx, hb, -⟩ := hC
  have hi2 := (i32_eq (okl_head (okl_tail ho)) (okl_head ho))
  exact lv_icmp_ne hx hb hd hk (fun _ => kk lsC hL (okl_tail (okl_tail ho)) hol) (fun h9 => absurd (hi2.mp h9) h)
theorem rn_icmp_ne_f {a b q : Int} (hi : ins m pc = some (.if_icmp .ne q, npc, x, y)) (h : a = b) (k : Rn g l d m npc ls st w v w') : Rn g l d m pc ls (.inl b :: .inl a :: st) w v w' := by
  obtain ⟨hd, hn⟩ := ins_d hi rfl
  obtain ⟨-, -, hk, -, -⟩ := ins_dec hi
  subst hn
  have hk : ((pc : Nat) : Int) + q = ((x : Nat) : Int) := by unfold opchk at hk; simpa using hk
  refine Rn.on k (fun p e R s mid args below meth c hC H locs lsC cells slots Q hP hS hL ho hol kk => ?_)
  obtain ⟨hx, hb, -⟩ := hC
  have hi2 := (i32_eq (okl_head (okl_tail ho)) (okl_head ho))
  exact lv_icmp_ne hx hb hd hk (fun h9 => absurd (hi2.mpr h) h9) (fun _ => kk lsC hL (okl_tail (okl_tail ho)) hol)
theorem rn_icmp_lt_t {a b q : Int} (hi : ins m pc = some (.if_icmp .lt q, npc, x, y)) (h : a < b) (k : Rn g l d m x ls st w v w') : Rn g l d m pc ls (.inl b :: .inl a :: st) w v w' := by
  obtain ⟨hd, hn⟩ := ins_d hi rfl
  obtain ⟨-, -, hk, -, -⟩ := ins_dec hi
  subst hn
  have hk : ((pc : Nat) : Int) + q = ((x : Nat) : Int) := by unfold opchk at hk; simpa using hk
  refine Rn.on k (fun p e R s mid args below meth c hC H locs lsC cells slots Q hP hS hL ho hol kk => ?_)
  obtain ⟨hx, hb, -⟩ := hC
  have hi2 := (i32_lt (okl_head (okl_tail ho)) (okl_head ho))
  exact lv_icmp_lt hx hb hd hk (fun _ => kk lsC hL (okl_tail (okl_tail ho)) hol) (fun h9 => absurd (hi2.mpr h) h9)
theorem rn_icmp_lt_f {a b q : Int} (hi : ins m pc = some (.if_icmp .lt q, npc, x, y)) (h : ¬ a < b) (k : Rn g l d m npc ls st w v w') : Rn g l d m pc ls (.inl b :: .inl a :: st) w v w' := by
  obtain ⟨hd, hn⟩ := ins_d hi rfl
  obtain ⟨-, -, hk, -, -⟩ := ins_dec hi
  subst hn
  have hk : ((pc : Nat) : Int) + q = ((x : Nat) : Int) := by unfold opchk at hk; simpa using hk
  refine Rn.on k (fun p e R s mid args below meth c hC H locs lsC cells slots Q hP hS hL ho hol kk => ?_)
  obtain ⟨hx, hb, -⟩ := hC
  have hi2 := (i32_lt (okl_head (okl_tail ho)) (okl_head ho))
  exact lv_icmp_lt hx hb hd hk (fun h9 => absurd (hi2.mp h9) h) (fun _ => kk lsC hL (okl_tail (okl_tail ho)) hol)
theorem rn_icmp_ge_t {a b q : Int} (hi : ins m pc = some (.if_icmp .ge q, npc, x, y)) (h : b ≤ a) (k : Rn g l d m x ls st w v w') : Rn g l d m pc ls (.inl b :: .inl a :: st) w v w' := by
  obtain ⟨hd, hn⟩ := ins_d hi rfl
  obtain ⟨-, -, hk, -, -⟩ := ins_dec hi
  subst hn
  have hk : ((pc : Nat) : Int) + q = ((x : Nat) : Int) := by unfold opchk at hk; simpa using hk
  refine Rn.on k (fun p e R s mid args below meth c hC H locs lsC cells slots Q hP hS hL ho hol kk => ?_)
  obtain ⟨hx, hb, -⟩ := hC
  have hi2 := (i32_le (okl_head ho) (okl_head (okl_tail ho)))
  exact lv_icmp_ge hx hb hd hk (fun _ => kk lsC hL (okl_tail (okl_tail ho)) hol) (fun h9 => absurd (hi2.mpr h) h9)
theorem rn_icmp_ge_f {a b q : Int} (hi : ins m pc = some (.if_icmp .ge q, npc, x, y)) (h : ¬ b ≤ a) (k : Rn g l d m npc ls st w v w') : Rn g l d m pc ls (.inl b :: .inl a :: st) w v w' := by
  obtain ⟨hd, hn⟩ := ins_d hi rfl
  obtain ⟨-, -, hk, -, -⟩ := ins_dec hi
  subst hn
  have hk : ((pc : Nat) : Int) + q = ((x : Nat) : Int) := by unfold opchk at hk; simpa using hk
  refine Rn.on k (fun p e R s mid args below meth c hC H locs lsC cells slots Q hP hS hL ho hol kk => ?_)
  obtain ⟨hx, hb, -⟩ := hC
  have hi2 := (i32_le (okl_head ho) (okl_head (okl_tail ho)))
  exact lv_icmp_ge hx hb hd hk (fun h9 => absurd (hi2.mp h9) h) (fun _ => kk lsC hL (okl_tail (okl_tail ho)) hol)
theorem rn_icmp_gt_t {a b q : Int} (hi : ins m pc = some (.if_icmp .gt q, npc, x, y)) (h : b < a) (k : Rn g l d m x ls st w v w') : Rn g l d m pc ls (.inl b :: .inl a :: st) w v w' := by
  obtain ⟨hd, hn⟩ := ins_d hi rfl
  obtain ⟨-, -, hk, -, -⟩ := ins_dec hi
  subst hn
  have hk : ((pc : Nat) : Int) + q = ((x : Nat) : Int) := by unfold opchk at hk; simpa using hk
  refine Rn.on k (fun p e R s mid args below meth c hC H locs lsC cells slots Q hP hS hL ho hol kk => ?_)
  obtain ⟨hx, hb, -⟩ := hC
  have hi2 := (i32_lt (okl_head ho) (okl_head (okl_tail ho)))
  exact lv_icmp_gt hx hb hd hk (fun _ => kk lsC hL (okl_tail (okl_tail ho)) hol) (fun h9 => absurd (hi2.mpr h) h9)
theorem rn_icmp_gt_f {a b q : Int} (hi : ins m pc = some (.if_icmp .gt q, npc, x, y)) (h : ¬ b < a) (k : Rn g l d m npc ls st w v w') : Rn g l d m pc ls (.inl b :: .inl a :: st) w v w' := by
  obtain ⟨hd, hn⟩ := ins_d hi rfl
  obtain ⟨-, -, hk, -, -⟩ := ins_dec hi
  subst hn
  have hk : ((pc : Nat) : Int) + q = ((x : Nat) : Int) := by unfold opchk at hk; simpa using hk
  refine Rn.on k (fun p e R s mid args below meth c hC H locs lsC cells slots Q hP hS hL ho hol kk => ?_)
  obtain ⟨hx, hb, -⟩ := hC
  have hi2 := (i32_lt (okl_head ho) (okl_head (okl_tail ho)))
  exact lv_icmp_gt hx hb hd hk (fun h9 => absurd (hi2.mp h9) h) (fun _ => kk lsC hL (okl_tail (okl_tail ho)) hol)
theorem rn_icmp_le_t {a b q : Int} (hi : ins m pc = some (.if_icmp .le q, npc, x, y)) (h : a ≤ b) (k : Rn g l d m x ls st w v w') : Rn g l d m pc ls (.inl b :: .inl a :: st) w v w' := by
  obtain ⟨hd, hn⟩ := ins_d hi rfl
  obtain ⟨-, -, hk, -, -⟩ := ins_dec hi
  subst hn
  have hk : ((pc : Nat) : Int) + q = ((x : Nat) : Int) := by unfold opchk at hk; simpa using hk
  refine Rn.on k (fun p e R s mid args below meth c hC H locs lsC cells slots Q hP hS hL ho hol kk => ?_)
  obtain ⟨hx, hb, -⟩ := hC
  have hi2 := (i32_le (okl_head (okl_tail ho)) (okl_head ho))
  exact lv_icmp_le hx hb hd hk (fun _ => kk lsC hL (okl_tail (okl_tail ho)) hol) (fun h9 => absurd (hi2.mpr h) h9)
theorem rn_icmp_le_f {a b q : Int} (hi : ins m pc = some (.if_icmp .le q, npc, x, y)) (h : ¬ a ≤ b) (k : Rn g l d m npc ls st w v w') : Rn g l d m pc ls (.inl b :: .inl a :: st) w v w' := by
  obtain ⟨hd, hn⟩ := ins_d hi rfl
  obtain ⟨-, -, hk, -, -⟩ := ins_dec hi
  subst hn
  have hk : ((pc : Nat) : Int) + q = ((x : Nat) : Int) := by unfold opchk at hk; simpa using hk
  refine Rn.on k (fun p e R s mid args below meth c hC H locs lsC cells slots Q hP hS hL ho hol kk => ?_)
  obtain ⟨hx, hb, -⟩ := hC
  have hi2 := (i32_le (okl_head (okl_tail ho)) (okl_head ho))
  exact lv_icmp_le hx hb hd hk (fun h9 => absurd (hi2.mp h9) h) (fun _ => kk lsC hL (okl_tail (okl_tail ho)) hol)
theorem rn_if_eq_t {a q : Int} (hi : ins m pc = some (.ifCond .eq q, npc, x, y)) (h : a = 0) (k : Rn g l d m x ls st w v w') : Rn g l d m pc ls (.inl a :: st) w v w' := by
  obtain ⟨hd, hn⟩ := ins_d hi rfl
  obtain ⟨-, -, hk, -, -⟩ := ins_dec hi
  subst hn
  have hk : ((pc : Nat) : Int) + q = ((x : Nat) : Int) := by unfold opchk at hk; simpa using hk
  refine Rn.on k (fun p e R s mid args below meth c hC H locs lsC cells slots Q hP hS hL ho hol kk => ?_)
  obtain ⟨hx, hb, -⟩ := hC
  have hi2 := (i32_eq (okl_head ho) rg_zero)
  rw [i32_zero] at hi2
  exact lv_if_eq hx hb hd hk (fun _ => kk lsC hL (okl_tail ho) hol) (fun h9 => absurd (hi2.mpr h) h9)
theorem rn_if_eq_f {a q : Int} (hi : ins m pc = some (.ifCond .eq q, npc, x, y)) (h : ¬ a = 0) (k : Rn g l d m npc ls st w v w') : Rn g l d m pc ls (.inl a :: st) w v w' := by
  obtain ⟨hd, hn⟩ := ins_d hi rfl
  obtain ⟨-, -, hk, -, -⟩ := ins_dec hi
  subst hn
  have hk : ((pc : Nat) : Int) + q = ((x : Nat) : Int) := by unfold opchk at hk; simpa using hk
  refine Rn.on k (fun p e R s mid args below meth c hC H locs lsC cells slots Q hP hS hL ho hol kk => ?_)
  obtain ⟨hx, hb, -⟩ := hC
  have hi2 := (i32_eq (okl_head ho) rg_zero)
  rw [i32_zero] at hi2
  exact lv_if_eq hx hb hd hk (fun h9 => absurd (hi2.mp h9) h) (fun _ => kk lsC hL (okl_tail ho) hol)
theorem rn_if_ne_t {a q : Int} (hi : ins m pc = some (.ifCond .ne q, npc, x, y)) (h : ¬ a = 0) (k : Rn g l d m x ls st w v w') : Rn g l d m pc ls (.inl a :: st) w v w' := by
  obtain ⟨hd, hn⟩ := ins_d hi rfl
  obtain ⟨-, -, hk, -, -⟩ := ins_dec hi
  subst hn
  have hk : ((pc : Nat) : Int) + q = ((x : Nat) : Int) := by unfold opchk at hk; simpa using hk
  refine Rn.on k (fun p e R s mid args below meth c hC H locs lsC cells slots Q hP hS hL ho hol kk => ?_)
  obtain ⟨hx, hb, -⟩ := hC
  have hi2 := (i32_eq (okl_head ho) rg_zero)
  rw [i32_zero] at hi2
  exact lv_if_ne hx hb hd hk (fun _ => kk lsC hL (okl_tail ho) hol) (fun h9 => absurd (hi2.mp h9) h)
theorem rn_if_ne_f {a q : Int} (hi : ins m pc = some (.ifCond .ne q, npc, x, y)) (h : a = 0) (k : Rn g l d m npc ls st w v w') : Rn g l d m pc ls (.inl a :: st) w v w' := by
  obtain ⟨hd, hn⟩ := ins_d hi rfl
  obtain ⟨-, -, hk, -, -⟩ := ins_dec hi
  subst hn
  have hk : ((pc : Nat) : Int) + q = ((x : Nat) : Int) := by unfold opchk at hk; simpa using hk
  refine Rn.on k (fun p e R s mid args below meth c hC H locs lsC cells slots Q hP hS hL ho hol kk => ?_)
  obtain ⟨hx, hb, -⟩ := hC
  have hi2 := (i32_eq (okl_head ho) rg_zero)
  rw [i32_zero] at hi2
  exact lv_if_ne hx hb hd hk (fun h9 => absurd (hi2.mpr h) h9) (fun _ => kk lsC hL (okl_tail ho) hol)
theorem rn_if_lt_t {a q : Int} (hi : ins m pc = some (.ifCond .lt q, npc, x, y)) (h : a < 0) (k : Rn g l d m x ls st w v w') : Rn g l d m pc ls (.inl a :: st) w v w' := by
  obtain ⟨hd, hn⟩ := ins_d hi rfl
  obtain ⟨-, -, hk, -, -⟩ := ins_dec hi
  subst hn
  have hk : ((pc : Nat) : Int) + q = ((x : Nat) : Int) := by unfold opchk at hk; simpa using hk
  refine Rn.on k (fun p e R s mid args below meth c hC H locs lsC cells slots Q hP hS hL ho hol kk => ?_)
  obtain ⟨hx, hb, -⟩ := hC
  have hi2 := (i32_lt (okl_head ho) rg_zero)
  rw [i32_zero] at hi2
  exact lv_if_lt hx hb hd hk (fun _ => kk lsC hL (okl_tail ho) hol) (fun h9 => absurd (hi2.mpr h) h9)
theorem rn_if_lt_f {a q : Int} (hi : ins m pc = some (.ifCond .lt q, npc, x, y)) (h : ¬ a < 0) (k : Rn g l d m npc ls st w v w') : Rn g l d m pc ls (.inl a :: st) w v w' := by
  obtain ⟨hd, hn⟩ := ins_d hi rfl
  obtain ⟨-, -, hk, -, -⟩ := ins_dec hi
  subst hn
  have hk : ((pc : Nat) : Int) + q = ((x : Nat) : Int) := by unfold opchk at hk; simpa using hk
  refine Rn.on k (fun p e R s mid args below meth c hC H locs lsC cells slots Q hP hS hL ho hol kk => ?_)
  obtain ⟨hx, hb, -⟩ := hC
  have hi2 := (i32_lt (okl_head ho) rg_zero)
  rw [i32_zero] at hi2
  exact lv_if_lt hx hb hd hk (fun h9 => absurd (hi2.mp h9) h) (fun _ => kk lsC hL (okl_tail ho) hol)
theorem rn_if_ge_t {a q : Int} (hi : ins m pc = some (.ifCond .ge q, npc, x, y)) (h : 0 ≤ a) (k : Rn g l d m x ls st w v w') : Rn g l d m pc ls (.inl a :: st) w v w' := by
  obtain ⟨hd, hn⟩ := ins_d hi rfl
  obtain ⟨-, -, hk, -, -⟩ := ins_dec hi
  subst hn
  have hk : ((pc : Nat) : Int) + q = ((x : Nat) : Int) := by unfold opchk at hk; simpa using hk
  refine Rn.on k (fun p e R s mid args below meth c hC H locs lsC cells slots Q hP hS hL ho hol kk => ?_)
  obtain ⟨hx, hb, -⟩ := hC
  have hi2 := (i32_le rg_zero (okl_head ho))
  rw [i32_zero] at hi2
  exact lv_if_ge hx hb hd hk (fun _ => kk lsC hL (okl_tail ho) hol) (fun h9 => absurd (hi2.mpr h) h9)
theorem rn_if_ge_f {a q : Int} (hi : ins m pc = some (.ifCond .ge q, npc, x, y)) (h : ¬ 0 ≤ a) (k : Rn g l d m npc ls st w v w') : Rn g l d m pc ls (.inl a :: st) w v w' := by
  obtain ⟨hd, hn⟩ := ins_d hi rfl
  obtain ⟨-, -, hk, -, -⟩ := ins_dec hi
  subst hn
  have hk : ((pc : Nat) : Int) + q = ((x : Nat) : Int) := by unfold opchk at hk; simpa using hk
  refine Rn.on k (fun p e R s mid args below meth c hC H locs lsC cells slots Q hP hS hL ho hol kk => ?_)
  obtain ⟨hx, hb, -⟩ := hC
  have hi2 := (i32_le rg_zero (okl_head ho))
  rw [i32_zero] at hi2
  exact lv_if_ge hx hb hd hk (fun h9 => absurd (hi2.mp h9) h) (fun _ => kk lsC hL (okl_tail ho) hol)
theorem rn_if_gt_t {a q : Int} (hi : ins m pc = some (.ifCond .gt q, npc, x, y)) (h : 0 < a) (k : Rn g l d m x ls st w v w') : Rn g l d m pc ls (.inl a :: st) w v w' := by
  obtain ⟨hd, hn⟩ := ins_d hi rfl
  obtain ⟨-, -, hk, -, -⟩ := ins_dec hi
  subst hn
  have hk : ((pc : Nat) : Int) + q = ((x : Nat) : Int) := by unfold opchk at hk; simpa using hk
  refine Rn.on k (fun p e R s mid args below meth c hC H locs lsC cells slots Q hP hS hL ho hol kk => ?_)
  obtain ⟨hx, hb, -⟩ := hC
  have hi2 := (i32_lt rg_zero (okl_head ho))
  rw [i32_zero] at hi2
  exact lv_if_gt hx hb hd hk (fun _ => kk lsC hL (okl_tail ho) hol) (fun h9 => absurd (hi2.mpr h) h9)
theorem rn_if_gt_f {a q : Int} (hi : ins m pc = some (.ifCond .gt q, npc, x, y)) (h : ¬ 0 < a) (k : Rn g l d m npc ls st w v w') : Rn g l d m pc ls (.inl a :: st) w v w' := by
  obtain ⟨hd, hn⟩ := ins_d hi rfl
  obtain ⟨-, -, hk, -, -⟩ := ins_dec hi
  subst hn
  have hk : ((pc : Nat) : Int) + q = ((x : Nat) : Int) := by unfold opchk at hk; simpa using hk
  refine Rn.on k (fun p e R s mid args below meth c hC H locs lsC cells slots Q hP hS hL ho hol kk => ?_)
  obtain ⟨hx, hb, -⟩ := hC
  have hi2 := (i32_lt rg_zero (okl_head ho))
  rw [i32_zero] at hi2
  exact lv_if_gt hx hb hd hk (fun h9 => absurd (hi2.mp h9) h) (fun _ => kk lsC hL (okl_tail ho) hol)
theorem rn_if_le_t {a q : Int} (hi : ins m pc = some (.ifCond .le q, npc, x, y)) (h : a ≤ 0) (k : Rn g l d m x ls st w v w') : Rn g l d m pc ls (.inl a :: st) w v w' := by
  obtain ⟨hd, hn⟩ := ins_d hi rfl
  obtain ⟨-, -, hk, -, -⟩ := ins_dec hi
  subst hn
  have hk : ((pc : Nat) : Int) + q = ((x : Nat) : Int) := by unfold opchk at hk; simpa using hk
  refine Rn.on k (fun p e R s mid args below meth c hC H locs lsC cells slots Q hP hS hL ho hol kk => ?_)
  obtain ⟨hx, hb, -⟩ := hC
  have hi2 := (i32_le (okl_head ho) rg_zero)
  rw [i32_zero] at hi2
  exact lv_if_le hx hb hd hk (fun _ => kk lsC hL (okl_tail ho) hol) (fun h9 => absurd (hi2.mpr h) h9)
theorem rn_if_le_f {a q : Int} (hi : ins m pc = some (.ifCond .le q, npc, x, y)) (h : ¬ a ≤ 0) (k : Rn g l d m npc ls st w v w') : Rn g l d m pc ls (.inl a :: st) w v w' := by
  obtain ⟨hd, hn⟩ := ins_d hi rfl
  obtain ⟨-, -, hk, -, -⟩ := ins_dec hi
  subst hn
  have hk : ((pc : Nat) : Int) + q = ((x : Nat) : Int) := by unfold opchk at hk; simpa using hk
  refine Rn.on k (fun p e R s mid args below meth c hC H locs lsC cells slots Q hP hS hL ho hol kk => ?_)
  obtain ⟨hx, hb, -⟩ := hC
  have hi2 := (i32_le (okl_head ho) rg_zero)
  rw [i32_zero] at hi2
  exact lv_if_le hx hb hd hk (fun h9 => absurd (hi2.mp h9) h) (fun _ => kk lsC hL (okl_tail ho) hol)
theorem rn_goto {q : Int} (hi : ins m pc = some (.goto q, npc, x, y)) (k : Rn g l d m x ls st w v w') : Rn g l d m pc ls st w v w' := by
  obtain ⟨hd, hn⟩ := ins_d hi rfl
  obtain ⟨-, -, hk, -, -⟩ := ins_dec hi
  have hk : ((pc : Nat) : Int) + q = ((x : Nat) : Int) := by unfold opchk at hk; simpa using hk
  refine Rn.on k (fun p e R s mid args below meth c hC H locs lsC cells slots Q hP hS hL ho hol kk => ?_)
  obtain ⟨hx, hb, -⟩ := hC
  exact lv_goto hx hb hd hk (kk lsC hL ho hol)
theorem rn_tsw_in {df lo hi' z off : Int} {offs : Array Int} {tgt : Nat} (hi : ins m pc = some (.tableswitch df lo hi' offs, npc, x, y)) (i : Nat) (hz : z = lo + i) (hu : lo + i ≤ hi') (hf : offs[i]? = some off) (ht : ((pc : Nat) : Int) + off = ((tgt : Nat) : Int)) (k : Rn g l d m tgt ls st w v w') : Rn g l d m pc ls (.inl z :: st) w v w' := by
  obtain ⟨hd, -⟩ := ins_dec hi
  refine Rn.on k (fun p e R s mid args below meth c hC H locs lsC cells slots Q hP hS hL ho hol kk => ?_)
  obtain ⟨hx, hb, -⟩ := hC
  have e := i32_toInt (okl_head ho)
  have h9 : (z - lo).toNat = i := by omega
  exact lv_tableIn hx hb hd (by rw [e]; omega) (by rw [e]; omega) (by rw [e, h9]; exact hf) ht (kk lsC hL (okl_tail ho) hol)
theorem rn_tsw_out {df lo hi' z : Int} {offs : Array Int} {tgt : Nat} (hi : ins m pc = some (.tableswitch df lo hi' offs, npc, x, y)) (hz : z < lo ∨ hi' < z) (ht : ((pc : Nat) : Int) + df = ((tgt : Nat) : Int)) (k : Rn g l d m tgt ls st w v w') : Rn g l d m pc ls (.inl z :: st) w v w' := by
  obtain ⟨hd, -⟩ := ins_dec hi
  refine Rn.on k (fun p e R s mid args below meth c hC H locs lsC cells slots Q hP hS hL ho hol kk => ?_)
  obtain ⟨hx, hb, -⟩ := hC
  have e := i32_toInt (okl_head ho)
  exact lv_tableOut hx hb hd (by rw [e]; exact hz) ht (kk lsC hL (okl_tail ho) hol)
theorem rn_lsw {df z off : Int} {ps : Array (Int × Int)} {tgt : Nat} (hi : ins m pc = some (.lookupswitch df ps, npc, x, y)) (hp : (ps.toList.zip (ps.toList.drop 1)).all (fun (a, next) => a.1 < next.1) = true) (hf : Op.lookupswitch.offset ps.toList df z = off) (ht : ((pc : Nat) : Int) + off = ((tgt : Nat) : Int)) (k : Rn g l d m tgt ls st w v w') : Rn g l d m pc ls (.inl z :: st) w v w' := by
  obtain ⟨hd, -⟩ := ins_dec hi
  refine Rn.on k (fun p e R s mid args below meth c hC H locs lsC cells slots Q hP hS hL ho hol kk => ?_)
  obtain ⟨hx, hb, -⟩ := hC
  have e := i32_toInt (okl_head ho)
  exact lv_lookup hx hb hd hp (by rw [e]; exact hf) ht (kk lsC hL (okl_tail ho) hol)
/-- the ends -/
theorem rn_end {x0 : Option AV} (hst : st = x0.toList) (hr : Rt m pc x0) : Rn g l d m pc ls st w x0 w := by
  refine ⟨Nat.le_refl _, Nat.le_refl _, fun p e R s mid args below meth c hC hd hl n0 z0 hn0 hz0 hc hs H locs lsC Q hP hS hL ho hol kk => ?_⟩
  subst hst
  exact kk H locs lsC pc hP hS hr (fun z hz => ho z (by rw [hz]; exact List.mem_cons_self))
theorem rn_ret (hi : ins m pc = some (.return_, npc, x, y)) (hr : mR m = none) : Rn g l d m pc ls [] w none w := rn_end rfl ⟨(ins_d hi rfl).1, hr⟩
theorem rn_retI {z : Int} (hi : ins m pc = some (.ireturn, npc, x, y)) (hr : mR m = some .int) : Rn g l d m pc ls [.inl z] w (some (.inl z)) w := rn_end rfl ⟨(ins_d hi rfl).1, .int, hr, rfl⟩
theorem rn_retZ {z : Int} (hi : ins m pc = some (.ireturn, npc, x, y)) (hr : mR m = some .boolean) (hz : z = 0 ∨ z = 1) : Rn g l d m pc ls [.inl z] w (some (.inl z)) w := rn_end rfl ⟨(ins_d hi rfl).1, .boolean, hr, by rcases hz with rfl | rfl <;> rfl⟩
theorem rn_retB {z : Int} (hi : ins m pc = some (.ireturn, npc, x, y)) (hr : mR m = some .byte) (hz : -128 ≤ z ∧ z < 128) : Rn g l d m pc ls [.inl z] w (some (.inl z)) w := rn_end rfl ⟨(ins_d hi rfl).1, .byte, hr, congrArg Value.int (by
  rw [← Int32.toInt_inj, Int8.toInt_toInt32, Int32.toInt_toInt8, Int32.toInt_ofInt_of_le (by omega) (by omega)]
  exact Int.bmod_eq_of_le (by omega) (by omega))⟩
theorem rn_retC {z : Int} (hi : ins m pc = some (.ireturn, npc, x, y)) (hr : mR m = some .char) (hz : narrow .char (.int (i32 z)) = .int (i32 z)) : Rn g l d m pc ls [.inl z] w (some (.inl z)) w := rn_end rfl ⟨(ins_d hi rfl).1, .char, hr, hz⟩
theorem rn_retL {z : Int} (hi : ins m pc = some (.lreturn, npc, x, y)) (hr : mR m = some .long) : Rn g l d m pc ls [.inr (.inl z)] w (some (.inr (.inl z))) w := rn_end rfl ⟨(ins_d hi rfl).1, hr⟩
theorem rn_ldc {j : Nat} {n : Int} (hi : ins m pc = some (.ldc j, npc, x, y)) (hw : Cond.constant (cN (mO m)) j (i32 n) ∈ GW) (hr : rg n) (k : Rn g l d m npc ls (.inl n :: st) w v w') : Rn g l d m pc ls st w v w' := by
  obtain ⟨hd, hn⟩ := ins_d hi rfl
  subst hn
  refine Rn.on k (fun p e R s mid args below meth c hC H locs lsC cells slots Q hP hS hL ho hol kk => ?_)
  obtain ⟨hx, hb, hml, hrt, hown, hts, -⟩ := hC
  exact lv_ldc hx hb hown (hts _ hw) hd (kk lsC hL (okl_cons hr ho) hol)
theorem rn_ldcw {j : Nat} {n : Int} (hi : ins m pc = some (.ldc_w j, npc, x, y)) (hw : Cond.constant (cN (mO m)) j (i32 n) ∈ GW) (hr : rg n) (k : Rn g l d m npc ls (.inl n :: st) w v w') : Rn g l d m pc ls st w v w' := by
  obtain ⟨hd, hn⟩ := ins_d hi rfl
  subst hn
  refine Rn.on k (fun p e R s mid args below meth c hC H locs lsC cells slots Q hP hS hL ho hol kk => ?_)
  obtain ⟨hx, hb, hml, hrt, hown, hts, -⟩ := hC
  exact lv_ldcw hx hb hown (hts _ hw) hd (kk lsC hL (okl_cons hr ho) hol)
theorem rn_ldc2 {j : Nat} {n : Int} (hi : ins m pc = some (.ldc2_w j, npc, x, y)) (hw : Cond.constantLong (cN (mO m)) j (i64 n) ∈ GW) (hr : rl n) (k : Rn g l d m npc ls (.inr (.inl n) :: st) w v w') : Rn g l d m pc ls st w v w' := by
  obtain ⟨hd, hn⟩ := ins_d hi rfl
  subst hn
  refine Rn.on k (fun p e R s mid args below meth c hC H locs lsC cells slots Q hP hS hL ho hol kk => ?_)
  obtain ⟨hx, hb, hml, hrt, hown, hts, -⟩ := hC
  exact lv_ldc2 hx hb hown (hts _ hw) hd (kk lsC hL (okl_cons hr ho) hol)
/-- the texts -/
theorem rn_ldcS {j a : Nat} (hi : ins m pc = some (.ldc j, npc, x, y)) (hm : mO m = 7) (hj : (j = 34 ∧ a = 2) ∨ (j = 77 ∧ a = 4)) (k : Rn g l d m npc ls (.inr (.inr a) :: st) w v w') : Rn g l d m pc ls st w v w' := by
  obtain ⟨hd, hn⟩ := ins_d hi rfl
  subst hn
  refine Rn.on k (fun p e R s mid args below meth c hC H locs lsC cells slots Q hP hS hL ho hol kk => ?_)
  obtain ⟨hx, hb, hml, hrt, hown, hts, hlk, hnm, hT, hZ⟩ := hC
  rw [hm] at hown
  obtain ⟨-, -, -, -, -, -, -, h8, h9⟩ := hT
  have e2 := kk lsC hL (okl_cons trivial ho) hol
  rcases hj with ⟨rfl, rfl⟩ | ⟨rfl, rfl⟩
  · exact va_ldcS hx hb hown h8 hd e2
  · exact va_ldcS hx hb hown h9 hd e2
theorem rn_gets1 {j : Nat} (hi : ins m pc = some (.getstatic j, npc, x, y)) (hw : Cond.fieldLink (cN (mO m)) j "java/lang/String" "COMPACT_STRINGS" "Z" ∈ GW) (k : Rn g l d m npc ls (.inl 1 :: st) w v w') : Rn g l d m pc ls st w v w' := by
  obtain ⟨hd, hn⟩ := ins_d hi rfl
  subst hn
  refine Rn.on k (fun p e R s mid args below meth c hC H locs lsC cells slots Q hP hS hL ho hol kk => ?_)
  obtain ⟨hx, hb, hml, hrt, hown, hts, hlk, hnm, hT, hZ⟩ := hC
  exact va_gets hx hb hZ.1 hS hown (hts _ hw) (fun _ h => h) hd (kk lsC hL (okl_cons ⟨by decide, by decide⟩ ho) hol)
theorem rn_gets2 {j : Nat} (hi : ins m pc = some (.getstatic j, npc, x, y)) (hw : Cond.fieldLink (cN (mO m)) j "jdk/internal/util/Preconditions" "SIOOBE_FORMATTER" "Ljava/util/function/BiFunction;" ∈ GW) (k : Rn g l d m npc ls (.inr (.inr 0) :: st) w v w') : Rn g l d m pc ls st w v w' := by
  obtain ⟨hd, hn⟩ := ins_d hi rfl
  subst hn
  refine Rn.on k (fun p e R s mid args below meth c hC H locs lsC cells slots Q hP hS hL ho hol kk => ?_)
  obtain ⟨hx, hb, hml, hrt, hown, hts, hlk, hnm, hT, hZ⟩ := hC
  have e2 := kk lsC hL (okl_cons trivial ho) hol
  rw [List.map_cons, show cv g (.inr (.inr 0)) = gz g by
    rcases hZ.2.2 with h | ⟨q, h⟩ <;> simp [cv, h]] at e2
  exact va_gets hx hb hZ.2.1 hS hown (hts _ hw) (fun _ h => h) hd e2
end RB
