/-! simple steps -/
section RS
def oand (a b : Int) : Int := (i32 a &&& i32 b).toInt
def oxor (a b : Int) : Int := (i32 a ^^^ i32 b).toInt
def oshr (a b : Int) : Int := (i32 a >>> (i32 b &&& 31)).toInt
def oushr (a b : Int) : Int := ((i32 a).toUInt32 >>> ((i32 b).toUInt32 &&& Int32.toUInt32 31)).toInt32.toInt
def o2c (a : Int) : Int := ((i32 a).toUInt32 % 65536).toInt32.toInt
def ocmp (a b : Int) : Int := if b < a then 1 else if a = b then 0 else -1
variable {g : Gp} {l : Launch} {d m pc npc x : Nat} {y : Int} {ls ls1 : List (Nat × AV)} {st : List AV} {w w' : Wd} {v : Option AV}
theorem rn_iconst {n : Int} (hi : ins m pc = some (.iconst n, npc, x, y)) (k : Rn g l d m npc ls (.inl n :: st) w v w') : Rn g l d m pc ls (st) w v w' := by
  obtain ⟨hd, hn⟩ := ins_d hi rfl
  obtain ⟨-, -, hk, -, hst⟩ := ins_dec hi
  subst hn
  refine Rn.on k (fun p e R s mid args below meth c hC H locs lsC cells slots Q hP hS hL ho hol kk => ?_)
  obtain ⟨hx, hb, hml, hr, hown, hts, hlk, hnm, hT, hZ⟩ := hC
  unfold opchk at hk
  simp only [Bool.and_eq_true, decide_eq_true_eq] at hk
  refine lv_iconst (v := i32 n) hx hb hd rfl ?_
  exact kk lsC hL (okl_cons (by show rg n; unfold rg; omega) ho) hol
theorem rn_bipush {n : Int} (hi : ins m pc = some (.bipush n, npc, x, y)) (k : Rn g l d m npc ls (.inl n :: st) w v w') : Rn g l d m pc ls (st) w v w' := by
  obtain ⟨hd, hn⟩ := ins_d hi rfl
  obtain ⟨-, -, hk, -, hst⟩ := ins_dec hi
  subst hn
  refine Rn.on k (fun p e R s mid args below meth c hC H locs lsC cells slots Q hP hS hL ho hol kk => ?_)
  obtain ⟨hx, hb, hml, hr, hown, hts, hlk, hnm, hT, hZ⟩ := hC
  unfold opchk at hk
  simp only [Bool.and_eq_true, decide_eq_true_eq] at hk
  refine lv_bipush (v := i32 n) hx hb hd (by rw [← Int32.toInt_inj, Int8.toInt_toInt32, Int8.toInt_ofInt_of_le (by omega) (by omega), Int32.toInt_ofInt_of_le (by omega) (by omega)]) ?_
  exact kk lsC hL (okl_cons (by show rg n; unfold rg; omega) ho) hol
theorem rn_sipush {n : Int} (hi : ins m pc = some (.sipush n, npc, x, y)) (k : Rn g l d m npc ls (.inl n :: st) w v w') : Rn g l d m pc ls (st) w v w' := by
  obtain ⟨hd, hn⟩ := ins_d hi rfl
  obtain ⟨-, -, hk, -, hst⟩ := ins_dec hi
  subst hn
  refine Rn.on k (fun p e R s mid args below meth c hC H locs lsC cells slots Q hP hS hL ho hol kk => ?_)
  obtain ⟨hx, hb, hml, hr, hown, hts, hlk, hnm, hT, hZ⟩ := hC
  unfold opchk at hk
  simp only [Bool.and_eq_true, decide_eq_true_eq] at hk
  refine lv_sipush (v := i32 n) hx hb hd (by rw [← Int32.toInt_inj, Int16.toInt_toInt32, Int16.toInt_ofInt_of_le (by omega) (by omega), Int32.toInt_ofInt_of_le (by omega) (by omega)]) ?_
  exact kk lsC hL (okl_cons (by show rg n; unfold rg; omega) ho) hol
theorem rn_lconst {n : Fin 2} (hi : ins m pc = some (.lconst n, npc, x, y)) (k : Rn g l d m npc ls (.inr (.inl (n.val : Nat)) :: st) w v w') : Rn g l d m pc ls (st) w v w' := by
  obtain ⟨hd, hn⟩ := ins_d hi rfl
  obtain ⟨-, -, hk, -, hst⟩ := ins_dec hi
  subst hn
  refine Rn.on k (fun p e R s mid args below meth c hC H locs lsC cells slots Q hP hS hL ho hol kk => ?_)
  obtain ⟨hx, hb, hml, hr, hown, hts, hlk, hnm, hT, hZ⟩ := hC
  refine lv_lconst (v := i64 (n.val : Nat)) hx hb hd (by first | rfl | (rw [← Int64.toInt_inj]; simp [i64]) | exact (Int64.ofInt_eq_ofNat).symm) ?_
  exact kk lsC hL (okl_cons (by show rl _; unfold rl; have := n.isLt; omega) ho) hol
theorem rn_iload_n {n : Fin 4} {z : Int} (hi : ins m pc = some (.iload_n n, npc, x, y)) (hg : lget ls n.val = some (.inl z)) (k : Rn g l d m npc ls (.inl z :: st) w v w') : Rn g l d m pc ls (st) w v w' := by
  obtain ⟨hd, hn⟩ := ins_d hi rfl
  obtain ⟨-, -, hk, -, hst⟩ := ins_dec hi
  subst hn
  refine Rn.on k (fun p e R s mid args below meth c hC H locs lsC cells slots Q hP hS hL ho hol kk => ?_)
  obtain ⟨hx, hb, hml, hr, hown, hts, hlk, hnm, hT, hZ⟩ := hC
  exact lv_iload_n hx hb hd rfl (lget_at hg hL) (kk lsC hL (okl_cons (lget_ok hg hol) ho) hol)
theorem rn_iload {n : Nat} {z : Int} (hi : ins m pc = some (.iload n, npc, x, y)) (hg : lget ls n = some (.inl z)) (k : Rn g l d m npc ls (.inl z :: st) w v w') : Rn g l d m pc ls (st) w v w' := by
  obtain ⟨hd, hn⟩ := ins_d hi rfl
  obtain ⟨-, -, hk, -, hst⟩ := ins_dec hi
  subst hn
  refine Rn.on k (fun p e R s mid args below meth c hC H locs lsC cells slots Q hP hS hL ho hol kk => ?_)
  obtain ⟨hx, hb, hml, hr, hown, hts, hlk, hnm, hT, hZ⟩ := hC
  exact lv_iload hx hb hd (lget_at hg hL) (kk lsC hL (okl_cons (lget_ok hg hol) ho) hol)
theorem rn_lload_n {n : Fin 4} {z : Int} (hi : ins m pc = some (.lload_n n, npc, x, y)) (hg : lget ls n.val = some (.inr (.inl z))) (k : Rn g l d m npc ls (.inr (.inl z) :: st) w v w') : Rn g l d m pc ls (st) w v w' := by
  obtain ⟨hd, hn⟩ := ins_d hi rfl
  obtain ⟨-, -, hk, -, hst⟩ := ins_dec hi
  subst hn
  refine Rn.on k (fun p e R s mid args below meth c hC H locs lsC cells slots Q hP hS hL ho hol kk => ?_)
  obtain ⟨hx, hb, hml, hr, hown, hts, hlk, hnm, hT, hZ⟩ := hC
  exact lv_lload_n hx hb hd rfl (lget_at hg hL) (kk lsC hL (okl_cons (lget_ok hg hol) ho) hol)
theorem rn_lload {n : Nat} {z : Int} (hi : ins m pc = some (.lload n, npc, x, y)) (hg : lget ls n = some (.inr (.inl z))) (k : Rn g l d m npc ls (.inr (.inl z) :: st) w v w') : Rn g l d m pc ls (st) w v w' := by
  obtain ⟨hd, hn⟩ := ins_d hi rfl
  obtain ⟨-, -, hk, -, hst⟩ := ins_dec hi
  subst hn
  refine Rn.on k (fun p e R s mid args below meth c hC H locs lsC cells slots Q hP hS hL ho hol kk => ?_)
  obtain ⟨hx, hb, hml, hr, hown, hts, hlk, hnm, hT, hZ⟩ := hC
  exact lv_lload hx hb hd (lget_at hg hL) (kk lsC hL (okl_cons (lget_ok hg hol) ho) hol)
theorem cv_ref {a : Nat} (h : a ≠ 0) : cv g (.inr (.inr a)) = .ref (ad g a) := if_neg h
theorem hv_ref {a : Nat} (h : a ≠ 0) : hv g a = .ref (ad g a) := if_neg h
theorem rn_aload_n {n : Fin 4} {a : Nat} (hi : ins m pc = some (.aload_n n, npc, x, y)) (hg : lget ls n.val = some (.inr (.inr a))) (ha : a ≠ 0) (k : Rn g l d m npc ls (.inr (.inr a) :: st) w v w') : Rn g l d m pc ls (st) w v w' := by
  obtain ⟨hd, hn⟩ := ins_d hi rfl
  obtain ⟨-, -, hk, -, hst⟩ := ins_dec hi
  subst hn
  refine Rn.on k (fun p e R s mid args below meth c hC H locs lsC cells slots Q hP hS hL ho hol kk => ?_)
  obtain ⟨hx, hb, hml, hr, hown, hts, hlk, hnm, hT, hZ⟩ := hC
  have e1 := lget_at hg hL
  rw [cv_ref ha] at e1
  refine lv_aload_n hx hb hd rfl e1 ?_
  have e2 := kk lsC hL (okl_cons trivial ho) hol
  rw [List.map_cons, cv_ref ha] at e2
  exact e2
theorem rn_aload {n : Nat} {a : Nat} (hi : ins m pc = some (.aload n, npc, x, y)) (hg : lget ls n = some (.inr (.inr a))) (ha : a ≠ 0) (k : Rn g l d m npc ls (.inr (.inr a) :: st) w v w') : Rn g l d m pc ls (st) w v w' := by
  obtain ⟨hd, hn⟩ := ins_d hi rfl
  obtain ⟨-, -, hk, -, hst⟩ := ins_dec hi
  subst hn
  refine Rn.on k (fun p e R s mid args below meth c hC H locs lsC cells slots Q hP hS hL ho hol kk => ?_)
  obtain ⟨hx, hb, hml, hr, hown, hts, hlk, hnm, hT, hZ⟩ := hC
  have e1 := lget_at hg hL
  rw [cv_ref ha] at e1
  refine lv_aload hx hb hd e1 ?_
  have e2 := kk lsC hL (okl_cons trivial ho) hol
  rw [List.map_cons, cv_ref ha] at e2
  exact e2
theorem rn_istore_n {n : Fin 4} {z : Int} (hi : ins m pc = some (.istore_n n, npc, x, y)) (hg : lst1 n.val (.inl z) ls = ls1) (k : Rn g l d m npc ls1 (st) w v w') : Rn g l d m pc ls (.inl z :: st) w v w' := by
  obtain ⟨hd, hn⟩ := ins_d hi rfl
  obtain ⟨-, -, hk, -, hst⟩ := ins_dec hi
  subst hn
  refine Rn.on k (fun p e R s mid args below meth c hC H locs lsC cells slots Q hP hS hL ho hol kk => ?_)
  obtain ⟨hx, hb, hml, hr, hown, hts, hlk, hnm, hT, hZ⟩ := hC
  subst hg
  refine lv_istore_n hx hb hd rfl hL (Nat.blt_eq.mp hst) (lst1_map n.val (.inl z)) (fun ls2 hL2 => ?_)
  exact kk ls2 hL2 (okl_tail ho) (lst1_ok (okl_head ho) hol)
theorem rn_istore {n : Nat} {z : Int} (hi : ins m pc = some (.istore n, npc, x, y)) (hg : lst1 n (.inl z) ls = ls1) (k : Rn g l d m npc ls1 (st) w v w') : Rn g l d m pc ls (.inl z :: st) w v w' := by
  obtain ⟨hd, hn⟩ := ins_d hi rfl
  obtain ⟨-, -, hk, -, hst⟩ := ins_dec hi
  subst hn
  refine Rn.on k (fun p e R s mid args below meth c hC H locs lsC cells slots Q hP hS hL ho hol kk => ?_)
  obtain ⟨hx, hb, hml, hr, hown, hts, hlk, hnm, hT, hZ⟩ := hC
  subst hg
  refine lv_istore hx hb hd hL (Nat.blt_eq.mp hst) (lst1_map n (.inl z)) (fun ls2 hL2 => ?_)
  exact kk ls2 hL2 (okl_tail ho) (lst1_ok (okl_head ho) hol)
theorem rn_lstore_n {n : Fin 4} {z : Int} (hi : ins m pc = some (.lstore_n n, npc, x, y)) (hg : lst2 n.val (.inr (.inl z)) ls = ls1) (k : Rn g l d m npc ls1 (st) w v w') : Rn g l d m pc ls (.inr (.inl z) :: st) w v w' := by
  obtain ⟨hd, hn⟩ := ins_d hi rfl
  obtain ⟨-, -, hk, -, hst⟩ := ins_dec hi
  subst hn
  refine Rn.on k (fun p e R s mid args below meth c hC H locs lsC cells slots Q hP hS hL ho hol kk => ?_)
  obtain ⟨hx, hb, hml, hr, hown, hts, hlk, hnm, hT, hZ⟩ := hC
  subst hg
  refine lv_lstore_n hx hb hd rfl hL (Nat.blt_eq.mp hst) (lst2_map n.val (.inr (.inl z))) (fun ls2 hL2 => ?_)
  exact kk ls2 hL2 (okl_tail ho) (lst2_ok (okl_head ho) hol)
theorem rn_lstore {n : Nat} {z : Int} (hi : ins m pc = some (.lstore n, npc, x, y)) (hg : lst2 n (.inr (.inl z)) ls = ls1) (k : Rn g l d m npc ls1 (st) w v w') : Rn g l d m pc ls (.inr (.inl z) :: st) w v w' := by
  obtain ⟨hd, hn⟩ := ins_d hi rfl
  obtain ⟨-, -, hk, -, hst⟩ := ins_dec hi
  subst hn
  refine Rn.on k (fun p e R s mid args below meth c hC H locs lsC cells slots Q hP hS hL ho hol kk => ?_)
  obtain ⟨hx, hb, hml, hr, hown, hts, hlk, hnm, hT, hZ⟩ := hC
  subst hg
  refine lv_lstore hx hb hd hL (Nat.blt_eq.mp hst) (lst2_map n (.inr (.inl z))) (fun ls2 hL2 => ?_)
  exact kk ls2 hL2 (okl_tail ho) (lst2_ok (okl_head ho) hol)
theorem rn_astore_n {n : Fin 4} {a : Nat} (hi : ins m pc = some (.astore_n n, npc, x, y)) (hg : lst1 n.val (.inr (.inr a)) ls = ls1) (ha : a ≠ 0) (k : Rn g l d m npc ls1 (st) w v w') : Rn g l d m pc ls (.inr (.inr a) :: st) w v w' := by
  obtain ⟨hd, hn⟩ := ins_d hi rfl
  obtain ⟨-, -, hk, -, hst⟩ := ins_dec hi
  subst hn
  refine Rn.on k (fun p e R s mid args below meth c hC H locs lsC cells slots Q hP hS hL ho hol kk => ?_)
  obtain ⟨hx, hb, hml, hr, hown, hts, hlk, hnm, hT, hZ⟩ := hC
  subst hg
  rw [List.map_cons, cv_ref ha]
  refine lv_astore_n (lv' := (lst1 n.val (.inr (.inr a)) ls).map (cvp g)) hx hb hd rfl hL (Nat.blt_eq.mp hst) (by have h9 := lst1_map (g := g) (ls := ls) n.val (.inr (.inr a)); rw [cv_ref ha] at h9; exact h9) (fun ls2 hL2 => ?_)
  exact kk ls2 hL2 (okl_tail ho) (lst1_ok trivial hol)
theorem rn_astore {n : Nat} {a : Nat} (hi : ins m pc = some (.astore n, npc, x, y)) (hg : lst1 n (.inr (.inr a)) ls = ls1) (ha : a ≠ 0) (k : Rn g l d m npc ls1 (st) w v w') : Rn g l d m pc ls (.inr (.inr a) :: st) w v w' := by
  obtain ⟨hd, hn⟩ := ins_d hi rfl
  obtain ⟨-, -, hk, -, hst⟩ := ins_dec hi
  subst hn
  refine Rn.on k (fun p e R s mid args below meth c hC H locs lsC cells slots Q hP hS hL ho hol kk => ?_)
  obtain ⟨hx, hb, hml, hr, hown, hts, hlk, hnm, hT, hZ⟩ := hC
  subst hg
  rw [List.map_cons, cv_ref ha]
  refine lv_astore (lv' := (lst1 n (.inr (.inr a)) ls).map (cvp g)) hx hb hd hL (Nat.blt_eq.mp hst) (by have h9 := lst1_map (g := g) (ls := ls) n (.inr (.inr a)); rw [cv_ref ha] at h9; exact h9) (fun ls2 hL2 => ?_)
  exact kk ls2 hL2 (okl_tail ho) (lst1_ok trivial hol)
theorem rn_iinc {n : Nat} {q z : Int} (hi : ins m pc = some (.iinc n q, npc, x, y)) (hz : lget ls n = some (.inl z)) (hg : lst1 n (.inl (w32 (z + q))) ls = ls1) (k : Rn g l d m npc ls1 (st) w v w') : Rn g l d m pc ls (st) w v w' := by
  obtain ⟨hd, hn⟩ := ins_d hi rfl
  obtain ⟨-, -, hk, -, hst⟩ := ins_dec hi
  subst hn
  refine Rn.on k (fun p e R s mid args below meth c hC H locs lsC cells slots Q hP hS hL ho hol kk => ?_)
  obtain ⟨hx, hb, hml, hr, hown, hts, hlk, hnm, hT, hZ⟩ := hC
  subst hg
  obtain ⟨j, hj⟩ := List.getElem?_of_mem (List.mem_map.mpr ⟨(n, .inl z), lget_mem _ _ _ hz, rfl⟩ : cvp g (n, .inl z) ∈ ls.map (cvp g))
  refine lv_iinc (v := i32 (w32 (z + q))) hx hb hd hL hj (by rw [i32_w32]; exact (Int32.ofInt_add z q).symm) (Nat.blt_eq.mp hst) (lst1_map n (.inl (w32 (z + q)))) (fun ls2 hL2 => ?_)
  exact kk ls2 hL2 ho (lst1_ok (rg_w32 _) hol)
theorem rn_iadd {a b : Int} (hi : ins m pc = some (.iadd, npc, x, y)) (k : Rn g l d m npc ls (.inl (w32 (a + b)) :: st) w v w') : Rn g l d m pc ls (.inl b :: .inl a :: st) w v w' := by
  obtain ⟨hd, hn⟩ := ins_d hi rfl
  obtain ⟨-, -, hk, -, hst⟩ := ins_dec hi
  subst hn
  refine Rn.on k (fun p e R s mid args below meth c hC H locs lsC cells slots Q hP hS hL ho hol kk => ?_)
  obtain ⟨hx, hb, hml, hr, hown, hts, hlk, hnm, hT, hZ⟩ := hC
  refine lv_iadd hx hb hd ?_
  have e2 := kk lsC hL (okl_cons (show rg _ from rg_w32 _) (okl_tail (okl_tail ho))) hol
  rw [List.map_cons, show cv g (.inl (w32 (a + b))) = .int (i32 a + i32 b) from congrArg Value.int (by rw [i32_w32]; exact Int32.ofInt_add a b)] at e2
  exact e2
theorem rn_isub {a b : Int} (hi : ins m pc = some (.isub, npc, x, y)) (k : Rn g l d m npc ls (.inl (w32 (a - b)) :: st) w v w') : Rn g l d m pc ls (.inl b :: .inl a :: st) w v w' := by
  obtain ⟨hd, hn⟩ := ins_d hi rfl
  obtain ⟨-, -, hk, -, hst⟩ := ins_dec hi
  subst hn
  refine Rn.on k (fun p e R s mid args below meth c hC H locs lsC cells slots Q hP hS hL ho hol kk => ?_)
  obtain ⟨hx, hb, hml, hr, hown, hts, hlk, hnm, hT, hZ⟩ := hC
  refine lv_isub hx hb hd ?_
  have e2 := kk lsC hL (okl_cons (show rg _ from rg_w32 _) (okl_tail (okl_tail ho))) hol
  rw [List.map_cons, show cv g (.inl (w32 (a - b))) = .int (i32 a - i32 b) from congrArg Value.int (by rw [i32_w32]; exact Int32.ofInt_sub a b)] at e2
  exact e2
theorem rn_imul {a b : Int} (hi : ins m pc = some (.imul, npc, x, y)) (k : Rn g l d m npc ls (.inl (w32 (a * b)) :: st) w v w') : Rn g l d m pc ls (.inl b :: .inl a :: st) w v w' := by
  obtain ⟨hd, hn⟩ := ins_d hi rfl
  obtain ⟨-, -, hk, -, hst⟩ := ins_dec hi
  subst hn
  refine Rn.on k (fun p e R s mid args below meth c hC H locs lsC cells slots Q hP hS hL ho hol kk => ?_)
  obtain ⟨hx, hb, hml, hr, hown, hts, hlk, hnm, hT, hZ⟩ := hC
  refine lv_imul hx hb hd ?_
  have e2 := kk lsC hL (okl_cons (show rg _ from rg_w32 _) (okl_tail (okl_tail ho))) hol
  rw [List.map_cons, show cv g (.inl (w32 (a * b))) = .int (i32 a * i32 b) from congrArg Value.int (by rw [i32_w32]; exact Int32.ofInt_mul a b)] at e2
  exact e2
theorem rn_iand {a b : Int} (hi : ins m pc = some (.iand, npc, x, y)) (k : Rn g l d m npc ls (.inl (oand a b) :: st) w v w') : Rn g l d m pc ls (.inl b :: .inl a :: st) w v w' := by
  obtain ⟨hd, hn⟩ := ins_d hi rfl
  obtain ⟨-, -, hk, -, hst⟩ := ins_dec hi
  subst hn
  refine Rn.on k (fun p e R s mid args below meth c hC H locs lsC cells slots Q hP hS hL ho hol kk => ?_)
  obtain ⟨hx, hb, hml, hr, hown, hts, hlk, hnm, hT, hZ⟩ := hC
  refine lv_iand hx hb hd ?_
  have e2 := kk lsC hL (okl_cons (show rg _ from rg_toInt _) (okl_tail (okl_tail ho))) hol
  rw [List.map_cons, show cv g (.inl (oand a b)) = .int (i32 a &&& i32 b) from congrArg Value.int (Int32.ofInt_toInt _)] at e2
  exact e2
theorem rn_ixor {a b : Int} (hi : ins m pc = some (.ixor, npc, x, y)) (k : Rn g l d m npc ls (.inl (oxor a b) :: st) w v w') : Rn g l d m pc ls (.inl b :: .inl a :: st) w v w' := by
  obtain ⟨hd, hn⟩ := ins_d hi rfl
  obtain ⟨-, -, hk, -, hst⟩ := ins_dec hi
  subst hn
  refine Rn.on k (fun p e R s mid args below meth c hC H locs lsC cells slots Q hP hS hL ho hol kk => ?_)
  obtain ⟨hx, hb, hml, hr, hown, hts, hlk, hnm, hT, hZ⟩ := hC
  refine lv_ixor hx hb hd ?_
  have e2 := kk lsC hL (okl_cons (show rg _ from rg_toInt _) (okl_tail (okl_tail ho))) hol
  rw [List.map_cons, show cv g (.inl (oxor a b)) = .int (i32 a ^^^ i32 b) from congrArg Value.int (Int32.ofInt_toInt _)] at e2
  exact e2
theorem rn_ishr {a b : Int} (hi : ins m pc = some (.ishr, npc, x, y)) (k : Rn g l d m npc ls (.inl (oshr a b) :: st) w v w') : Rn g l d m pc ls (.inl b :: .inl a :: st) w v w' := by
  obtain ⟨hd, hn⟩ := ins_d hi rfl
  obtain ⟨-, -, hk, -, hst⟩ := ins_dec hi
  subst hn
  refine Rn.on k (fun p e R s mid args below meth c hC H locs lsC cells slots Q hP hS hL ho hol kk => ?_)
  obtain ⟨hx, hb, hml, hr, hown, hts, hlk, hnm, hT, hZ⟩ := hC
  refine lv_ishr hx hb hd ?_
  have e2 := kk lsC hL (okl_cons (show rg _ from rg_toInt _) (okl_tail (okl_tail ho))) hol
  rw [List.map_cons, show cv g (.inl (oshr a b)) = .int (i32 a >>> (i32 b &&& 31)) from congrArg Value.int (Int32.ofInt_toInt _)] at e2
  exact e2
theorem rn_iushr {a b : Int} (hi : ins m pc = some (.iushr, npc, x, y)) (k : Rn g l d m npc ls (.inl (oushr a b) :: st) w v w') : Rn g l d m pc ls (.inl b :: .inl a :: st) w v w' := by
  obtain ⟨hd, hn⟩ := ins_d hi rfl
  obtain ⟨-, -, hk, -, hst⟩ := ins_dec hi
  subst hn
  refine Rn.on k (fun p e R s mid args below meth c hC H locs lsC cells slots Q hP hS hL ho hol kk => ?_)
  obtain ⟨hx, hb, hml, hr, hown, hts, hlk, hnm, hT, hZ⟩ := hC
  refine lv_iushr hx hb hd rfl ?_
  have e2 := kk lsC hL (okl_cons (show rg _ from rg_toInt _) (okl_tail (okl_tail ho))) hol
  rw [List.map_cons, show cv g (.inl (oushr a b)) = .int (((i32 a).toUInt32 >>> ((i32 b).toUInt32 &&& Int32.toUInt32 31)).toInt32) from congrArg Value.int (Int32.ofInt_toInt _)] at e2
  exact e2
theorem rn_idiv {a b : Int} (hi : ins m pc = some (.idiv, npc, x, y)) (hb0 : b ≠ 0) (k : Rn g l d m npc ls (.inl (w32 (a.tdiv b)) :: st) w v w') : Rn g l d m pc ls (.inl b :: .inl a :: st) w v w' := by
  obtain ⟨hd, hn⟩ := ins_d hi rfl
  obtain ⟨-, -, hk, -, hst⟩ := ins_dec hi
  subst hn
  refine Rn.on k (fun p e R s mid args below meth c hC H locs lsC cells slots Q hP hS hL ho hol kk => ?_)
  obtain ⟨hx, hb, hml, hr, hown, hts, hlk, hnm, hT, hZ⟩ := hC
  refine lv_idiv hx hb hd (fun h0 => hb0 ((i32_eq (okl_head ho) rg_zero).mp (h0.trans i32_zero.symm))) ?_
  have e2 := kk lsC hL (okl_cons (show rg _ from rg_w32 _) (okl_tail (okl_tail ho))) hol
  rw [List.map_cons, show cv g (.inl (w32 (a.tdiv b))) = .int (i32 a / i32 b) from congrArg Value.int (by rw [i32_w32, ← Int32.toInt_inj, Int32.toInt_div, i32_toInt (okl_head ho), i32_toInt (okl_head (okl_tail ho))]; exact Int32.toInt_ofInt)] at e2
  exact e2
theorem rn_irem {a b : Int} (hi : ins m pc = some (.irem, npc, x, y)) (hb0 : b ≠ 0) (k : Rn g l d m npc ls (.inl (a.tmod b) :: st) w v w') : Rn g l d m pc ls (.inl b :: .inl a :: st) w v w' := by
  obtain ⟨hd, hn⟩ := ins_d hi rfl
  obtain ⟨-, -, hk, -, hst⟩ := ins_dec hi
  subst hn
  refine Rn.on k (fun p e R s mid args below meth c hC H locs lsC cells slots Q hP hS hL ho hol kk => ?_)
  obtain ⟨hx, hb, hml, hr, hown, hts, hlk, hnm, hT, hZ⟩ := hC
  refine lv_irem hx hb hd (fun h0 => hb0 ((i32_eq (okl_head ho) rg_zero).mp (h0.trans i32_zero.symm))) ?_
  have e2 := kk lsC hL (okl_cons (show rg _ from (by have h9 := rg_toInt (i32 a - i32 a / i32 b * i32 b); rw [rem_toInt, i32_toInt (okl_head ho), i32_toInt (okl_head (okl_tail ho))] at h9; exact h9)) (okl_tail (okl_tail ho))) hol
  rw [List.map_cons, show cv g (.inl (a.tmod b)) = .int (i32 a - i32 a / i32 b * i32 b) from congrArg Value.int (by rw [← Int32.ofInt_toInt (i32 a - i32 a / i32 b * i32 b), rem_toInt, i32_toInt (okl_head ho), i32_toInt (okl_head (okl_tail ho))])] at e2
  exact e2
theorem rn_ineg {a : Int} (hi : ins m pc = some (.ineg, npc, x, y)) (k : Rn g l d m npc ls (.inl (w32 (-a)) :: st) w v w') : Rn g l d m pc ls (.inl a :: st) w v w' := by
  obtain ⟨hd, hn⟩ := ins_d hi rfl
  obtain ⟨-, -, hk, -, hst⟩ := ins_dec hi
  subst hn
  refine Rn.on k (fun p e R s mid args below meth c hC H locs lsC cells slots Q hP hS hL ho hol kk => ?_)
  obtain ⟨hx, hb, hml, hr, hown, hts, hlk, hnm, hT, hZ⟩ := hC
  refine lv_ineg hx hb hd ?_
  have e2 := kk lsC hL (okl_cons (show rg _ from rg_w32 _) (okl_tail ho)) hol
  rw [List.map_cons, show cv g (.inl (w32 (-a))) = .int (-i32 a) from congrArg Value.int (by rw [i32_w32]; exact Int32.ofInt_neg a)] at e2
  exact e2
theorem rn_i2b {a : Int} (hi : ins m pc = some (.i2b, npc, x, y)) (k : Rn g l d m npc ls (.inl (n8 a) :: st) w v w') : Rn g l d m pc ls (.inl a :: st) w v w' := by
  obtain ⟨hd, hn⟩ := ins_d hi rfl
  obtain ⟨-, -, hk, -, hst⟩ := ins_dec hi
  subst hn
  refine Rn.on k (fun p e R s mid args below meth c hC H locs lsC cells slots Q hP hS hL ho hol kk => ?_)
  obtain ⟨hx, hb, hml, hr, hown, hts, hlk, hnm, hT, hZ⟩ := hC
  refine lv_i2b hx hb hd rfl ?_
  have e2 := kk lsC hL (okl_cons (show rg _ by unfold rg n8; have h1 := Int.le_bmod (x := a) (m := 256) (by decide); have h2 := Int.bmod_lt (x := a) (m := 256) (by decide); omega) (okl_tail ho)) hol
  rw [List.map_cons, show cv g (.inl (n8 a)) = .int (i32 a).toInt8.toInt32 from congrArg Value.int (by rw [← Int32.toInt_inj, Int8.toInt_toInt32, Int32.toInt_toInt8, i32_toInt (okl_head ho)]; unfold n8; have h1 := Int.le_bmod (x := a) (m := 256) (by decide); have h2 := Int.bmod_lt (x := a) (m := 256) (by decide); exact Int32.toInt_ofInt_of_le (by omega) (by omega))] at e2
  exact e2
theorem rn_i2c {a : Int} (hi : ins m pc = some (.i2c, npc, x, y)) (k : Rn g l d m npc ls (.inl (o2c a) :: st) w v w') : Rn g l d m pc ls (.inl a :: st) w v w' := by
  obtain ⟨hd, hn⟩ := ins_d hi rfl
  obtain ⟨-, -, hk, -, hst⟩ := ins_dec hi
  subst hn
  refine Rn.on k (fun p e R s mid args below meth c hC H locs lsC cells slots Q hP hS hL ho hol kk => ?_)
  obtain ⟨hx, hb, hml, hr, hown, hts, hlk, hnm, hT, hZ⟩ := hC
  refine lv_i2c hx hb hd rfl ?_
  have e2 := kk lsC hL (okl_cons (show rg _ from rg_toInt _) (okl_tail ho)) hol
  rw [List.map_cons, show cv g (.inl (o2c a)) = .int ((i32 a).toUInt32 % 65536).toInt32 from congrArg Value.int (Int32.ofInt_toInt _)] at e2
  exact e2
theorem rn_i2l {a : Int} (hi : ins m pc = some (.i2l, npc, x, y)) (k : Rn g l d m npc ls (.inr (.inl a) :: st) w v w') : Rn g l d m pc ls (.inl a :: st) w v w' := by
  obtain ⟨hd, hn⟩ := ins_d hi rfl
  obtain ⟨-, -, hk, -, hst⟩ := ins_dec hi
  subst hn
  refine Rn.on k (fun p e R s mid args below meth c hC H locs lsC cells slots Q hP hS hL ho hol kk => ?_)
  obtain ⟨hx, hb, hml, hr, hown, hts, hlk, hnm, hT, hZ⟩ := hC
  refine lv_i2l hx hb hd rfl ?_
  have e2 := kk lsC hL (okl_cons (show rl _ by have h9 : rg a := okl_head ho; unfold rg at h9; unfold rl; omega) (okl_tail ho)) hol
  rw [List.map_cons, show cv g (.inr (.inl a)) = .long (i32 a).toInt64 from congrArg Value.long (by rw [← Int64.toInt_inj, Int32.toInt_toInt64, i32_toInt (okl_head ho)]; have h9 : rg a := okl_head ho; unfold rg at h9; exact Int64.toInt_ofInt_of_le (by omega) (by omega))] at e2
  exact e2
theorem rn_l2i {a : Int} (hi : ins m pc = some (.l2i, npc, x, y)) (k : Rn g l d m npc ls (.inl (w32 a) :: st) w v w') : Rn g l d m pc ls (.inr (.inl a) :: st) w v w' := by
  obtain ⟨hd, hn⟩ := ins_d hi rfl
  obtain ⟨-, -, hk, -, hst⟩ := ins_dec hi
  subst hn
  refine Rn.on k (fun p e R s mid args below meth c hC H locs lsC cells slots Q hP hS hL ho hol kk => ?_)
  obtain ⟨hx, hb, hml, hr, hown, hts, hlk, hnm, hT, hZ⟩ := hC
  refine lv_l2i hx hb hd rfl ?_
  have e2 := kk lsC hL (okl_cons (show rg _ from rg_w32 _) (okl_tail ho)) hol
  rw [List.map_cons, show cv g (.inl (w32 a)) = .int (i64 a).toInt32 from congrArg Value.int (by rw [i32_w32, ← Int32.toInt_inj, Int64.toInt_toInt32, i64_toInt (okl_head ho)]; exact Int32.toInt_ofInt)] at e2
  exact e2
theorem rn_ladd {a b : Int} (hi : ins m pc = some (.ladd, npc, x, y)) (k : Rn g l d m npc ls (.inr (.inl (w64 (a + b))) :: st) w v w') : Rn g l d m pc ls (.inr (.inl b) :: .inr (.inl a) :: st) w v w' := by
  obtain ⟨hd, hn⟩ := ins_d hi rfl
  obtain ⟨-, -, hk, -, hst⟩ := ins_dec hi
  subst hn
  refine Rn.on k (fun p e R s mid args below meth c hC H locs lsC cells slots Q hP hS hL ho hol kk => ?_)
  obtain ⟨hx, hb, hml, hr, hown, hts, hlk, hnm, hT, hZ⟩ := hC
  refine lv_ladd hx hb hd ?_
  have e2 := kk lsC hL (okl_cons (show rl _ from rl_w64 _) (okl_tail (okl_tail ho))) hol
  rw [List.map_cons, show cv g (.inr (.inl (w64 (a + b)))) = .long (i64 a + i64 b) from congrArg Value.long (by rw [i64_w64]; exact Int64.ofInt_add a b)] at e2
  exact e2
theorem rn_lmul {a b : Int} (hi : ins m pc = some (.lmul, npc, x, y)) (k : Rn g l d m npc ls (.inr (.inl (w64 (a * b))) :: st) w v w') : Rn g l d m pc ls (.inr (.inl b) :: .inr (.inl a) :: st) w v w' := by
  obtain ⟨hd, hn⟩ := ins_d hi rfl
  obtain ⟨-, -, hk, -, hst⟩ := ins_dec hi
  subst hn
  refine Rn.on k (fun p e R s mid args below meth c hC H locs lsC cells slots Q hP hS hL ho hol kk => ?_)
  obtain ⟨hx, hb, hml, hr, hown, hts, hlk, hnm, hT, hZ⟩ := hC
  refine lv_lmul hx hb hd ?_
  have e2 := kk lsC hL (okl_cons (show rl _ from rl_w64 _) (okl_tail (okl_tail ho))) hol
  rw [List.map_cons, show cv g (.inr (.inl (w64 (a * b)))) = .long (i64 a * i64 b) from congrArg Value.long (by rw [i64_w64]; exact Int64.ofInt_mul a b)] at e2
  exact e2
theorem rn_lcmp {a b : Int} (hi : ins m pc = some (.lcmp, npc, x, y)) (k : Rn g l d m npc ls (.inl (ocmp a b) :: st) w v w') : Rn g l d m pc ls (.inr (.inl b) :: .inr (.inl a) :: st) w v w' := by
  obtain ⟨hd, hn⟩ := ins_d hi rfl
  obtain ⟨-, -, hk, -, hst⟩ := ins_dec hi
  subst hn
  refine Rn.on k (fun p e R s mid args below meth c hC H locs lsC cells slots Q hP hS hL ho hol kk => ?_)
  obtain ⟨hx, hb, hml, hr, hown, hts, hlk, hnm, hT, hZ⟩ := hC
  refine W.lcmp hx hb hd ?_
  have e2 := kk lsC hL (okl_cons (show rg (ocmp a b) by unfold ocmp rg; (repeat' split) <;> omega) (okl_tail (okl_tail ho))) hol
  rw [List.map_cons, show cv g (.inl (ocmp a b)) = .int (lg_cmp (i64 a) (i64 b)) from congrArg Value.int (by unfold ocmp lg_cmp; have h1 : (i64 a > i64 b) ↔ b < a := by { show i64 b < i64 a ↔ _; rw [Int64.lt_iff_toInt_lt, i64_toInt (okl_head ho), i64_toInt (okl_head (okl_tail ho))] }; have h2 : (i64 a = i64 b) ↔ a = b := by { rw [← Int64.toInt_inj, i64_toInt (okl_head ho), i64_toInt (okl_head (okl_tail ho))] }; by_cases c1 : b < a <;> by_cases c2 : a = b <;> simp [c1, c2, h1, h2, i32] <;> rfl)] at e2
  exact e2
theorem rn_dup {a : AV} (hi : ins m pc = some (.dup, npc, x, y)) (hc : isL a = false) (k : Rn g l d m npc ls (a :: a :: st) w v w') : Rn g l d m pc ls (a :: st) w v w' := by
  obtain ⟨hd, hn⟩ := ins_d hi rfl
  obtain ⟨-, -, hk, -, hst⟩ := ins_dec hi
  subst hn
  refine Rn.on k (fun p e R s mid args below meth c hC H locs lsC cells slots Q hP hS hL ho hol kk => ?_)
  obtain ⟨hx, hb, hml, hr, hown, hts, hlk, hnm, hT, hZ⟩ := hC
  exact lv_dup hx hb hd (cat1 hc) (kk lsC hL (okl_cons (okl_head ho) ho) hol)
theorem rn_pop {a : AV} (hi : ins m pc = some (.pop, npc, x, y)) (hc : isL a = false) (k : Rn g l d m npc ls (st) w v w') : Rn g l d m pc ls (a :: st) w v w' := by
  obtain ⟨hd, hn⟩ := ins_d hi rfl
  obtain ⟨-, -, hk, -, hst⟩ := ins_dec hi
  subst hn
  refine Rn.on k (fun p e R s mid args below meth c hC H locs lsC cells slots Q hP hS hL ho hol kk => ?_)
  obtain ⟨hx, hb, hml, hr, hown, hts, hlk, hnm, hT, hZ⟩ := hC
  exact lv_pop hx hb hd (cat1 hc) (kk lsC hL (okl_tail ho) hol)
theorem rn_dup2 {a b : AV} (hi : ins m pc = some (.dup2, npc, x, y)) (hc : isL a = false) (hc2 : isL b = false) (k : Rn g l d m npc ls (a :: b :: a :: b :: st) w v w') : Rn g l d m pc ls (a :: b :: st) w v w' := by
  obtain ⟨hd, hn⟩ := ins_d hi rfl
  obtain ⟨-, -, hk, -, hst⟩ := ins_dec hi
  subst hn
  refine Rn.on k (fun p e R s mid args below meth c hC H locs lsC cells slots Q hP hS hL ho hol kk => ?_)
  obtain ⟨hx, hb, hml, hr, hown, hts, hlk, hnm, hT, hZ⟩ := hC
  exact lv_dup2_11 hx hb hd (cat1 hc) (cat1 hc2) (kk lsC hL (okl_cons (okl_head ho) (okl_cons (okl_head (okl_tail ho)) ho)) hol)
end RS
