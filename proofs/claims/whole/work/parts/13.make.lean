/-! making cells; Object's constructor; copies of rows -/
theorem cls_ok : ∀ q ∈ clsTab, (q.2.2.1 < 13 ∧ lw_tbl[q.2.2.2]? = some (.classLink (cN q.1) q.2.1 (cN q.2.2.1))) ∨ ((q.2.2.1 = 24 ∨ q.2.2.1 = 25) ∧ lw_tbl[q.2.2.2]? = some (.classLink (cN q.1) q.2.1 (cN (33 - q.2.2.1)))) ∨ (q.2.2.1 = 26 ∧ lw_tbl[q.2.2.2]? = some (.classLink (cN q.1) q.2.1 ("[" ++ (FieldType.array .int).toString))) := by decide +kernel
theorem mth_1000 : ∀ q ∈ mthTab, q.2.2.1 = 1000 → lw_tbl[q.2.2.2.2]? = some (.methodLink (cN q.1) q.2.1 Lib.objectInit) := by decide +kernel
theorem mth_1001 : ∀ q ∈ mthTab, q.2.2.1 = 1001 → lw_tbl[q.2.2.2.2]? = some (.methodLink (cN q.1) q.2.1 arraycopyName) := by decide +kernel
theorem w_oi1 : Cond.instanceMethod Lib.objectInit ∈ GW := gw_at 121 (by decide +kernel) rfl
theorem w_oi2 : Cond.code Lib.objectInit ⟨#[0xb1]⟩ 1 none ∈ GW := gw_at 122 (by decide +kernel) rfl
theorem w_ac1 : Cond.static arraycopyName ∈ GW := gw_at 521 (by decide +kernel) rfl
theorem w_ac2 : Cond.native arraycopyName ∈ GW := gw_at 522 (by decide +kernel) rfl
theorem w_ac3 : Cond.initialized "java/lang/System" ∈ GW := gw_at 111 (by decide +kernel) rfl
theorem w_arr : ∀ t, t = 20 ∨ t = 21 ∨ t = 22 ∨ t = 23 → Cond.arrayClass (ety t) ∈ GW := fun t ht => by
  rcases ht with rfl | rfl | rfl | rfl
  · exact gw_at 160 (by decide +kernel) rfl
  · exact gw_at 159 (by decide +kernel) rfl
  · exact gw_at 327 (by decide +kernel) rfl
  · exact gw_at 1342 (by decide +kernel) rfl
theorem ac_words : nativeFrameWords "java/lang/System" "arraycopy" 5 + 11 ≤ 48 := by decide +kernel
theorem cls_in {own pc j c : Nat} {e : Ent} (he : e.2.2.1 = c) (hc : c < 13) (h : clsTab.any (fun q => q.1 == own && q.2.1 == j && q.2.2.1 == e.2.2.1) = true) : Cond.classLink (cN own) j (cN c) ∈ GW := by
  obtain ⟨q, hq, h1⟩ := List.any_eq_true.mp h
  simp only [Bool.and_eq_true, beq_iff_eq] at h1
  obtain ⟨⟨h1, h2⟩, h3⟩ := h1
  rcases cls_ok q hq with ⟨-, f⟩ | ⟨f, -⟩ | ⟨f, -⟩
  · rw [h1, h2, h3, he] at f; exact gw_at _ f rfl
  · omega
  · omega
theorem cls_in2 {own pc j t : Nat} {e : Ent} (he : e.2.2.1 = t) (ht : t = 24 ∨ t = 25) (h : clsTab.any (fun q => q.1 == own && q.2.1 == j && q.2.2.1 == e.2.2.1) = true) : Cond.classLink (cN own) j (cN (33 - t)) ∈ GW := by
  obtain ⟨q, hq, h1⟩ := List.any_eq_true.mp h
  simp only [Bool.and_eq_true, beq_iff_eq] at h1
  obtain ⟨⟨h1, h2⟩, h3⟩ := h1
  rcases cls_ok q hq with ⟨f, -⟩ | ⟨-, f⟩ | ⟨f, -⟩
  · omega
  · rw [h1, h2, h3, he] at f; exact gw_at _ f rfl
  · omega
theorem cls_in3 {own pc j : Nat} {e : Ent} (he : e.2.2.1 = 26) (h : clsTab.any (fun q => q.1 == own && q.2.1 == j && q.2.2.1 == e.2.2.1) = true) : Cond.classLink (cN own) j ("[" ++ (FieldType.array .int).toString) ∈ GW := by
  obtain ⟨q, hq, h1⟩ := List.any_eq_true.mp h
  simp only [Bool.and_eq_true, beq_iff_eq] at h1
  obtain ⟨⟨h1, h2⟩, h3⟩ := h1
  rcases cls_ok q hq with ⟨f, -⟩ | ⟨f, -⟩ | ⟨-, f⟩
  · omega
  · omega
  · rw [h1, h2] at f; exact gw_at _ f rfl
def nwA (w : Wd) (t : Nat) (z : Int) : Option Wd := if 0 ≤ z ∧ z ≤ 1000000 then some (nw w t z.toNat) else none
def nwM (w : Wd) (n k : Int) : Option Wd := if 0 ≤ n ∧ 0 ≤ k ∧ n ≤ 1000 ∧ k ≤ 1000 then some (nw2 w n.toNat k.toNat) else none
def cpyI (w : Wd) (a : Nat) (i : Int) (b : Nat) (j n : Int) : Option Wd := if (wsh w a).1 = 20 ∧ (wsh w b).1 = 20 ∧ 0 ≤ i ∧ 0 ≤ j ∧ 0 ≤ n ∧ i + n ≤ ((wsh w a).2 : Int) ∧ j + n ≤ ((wsh w b).2 : Int) then some (cpI w a i.toNat b j.toNat n.toNat) else none
def catS (st : List AV) : Nat := (st.map (fun v => bif isL v then 2 else 1)).sum
theorem catS_eq {g : Gp} : ∀ st : List AV, ((st.map (cv g)).map fun v => v.category).sum = catS st
  | [] => rfl
  | a :: t => by
    have ih := catS_eq (g := g) t
    have h1 : (cv g a).category = bif isL a then 2 else 1 := by
      have h2 := cat_cv (g := g) a
      rcases lv_cat (cv g a) with q | q
      · rw [q] at h2 ⊢; rw [← h2]; rfl
      · rw [q] at h2 ⊢; rw [← h2]; rfl
    show (cv g a).category + ((t.map (cv g)).map fun v => v.category).sum = (bif isL a then 2 else 1) + catS t
    rw [ih, h1]
section RM
variable {g : Gp} {l : Launch} {d m pc npc x : Nat} {y : Int} {ls : List (Nat × AV)} {st : List AV} {w w' w1 : Wd} {v : Option AV} {a b j c t : Nat} {z : Int}
theorem rn_new (hi : ins m pc = some (.new j, npc, c, y)) (hc : c < 13) (k : Rn g l d m npc ls (.inr (.inr (wn w)) :: st) (nw w c (cW c)) v w') : Rn g l d m pc ls st w v w' := by
  obtain ⟨hd, hn⟩ := ins_d hi rfl
  obtain ⟨-, -, hk, -, -⟩ := ins_dec hi
  subst hn
  have hcl := cls_in (pc := pc) rfl hc (show clsTab.any _ = true from hk)
  refine Rn.by (w1 := nw w c (cW c)) (Nat.le_succ _) (Nat.le_add_right _ _) k (fun p e R s mid args below meth c0 hC hd0 hl0 H locs lsC cells slots Q hc1 hc2 hP hS hL ho hol kk => ?_)
  obtain ⟨hx, hb, hml, hr, hown, hts, hlk, hnm, hT, hZ⟩ := hC
  have e1 : wn (nw w c (cW c)) - wn w = 1 := Nat.add_sub_cancel_left _ _
  have e2 : wz (nw w c (cW c)) - wz w = cW c := Nat.add_sub_cancel_left _ _
  rw [e1] at hc1 kk
  rw [e2] at hc2 kk
  have hfc := hT.1 c (by omega)
  refine W.newcK hx hb hown (hts _ hcl) (hts _ (gw_at _ (ins_ok c hc).1 rfl)) (hts _ (gw_at _ (ins_ok c hc).2 rfl)) rfl hd hc1 hc2 hfc rfl (fun H1 kC hkC f1 f2 f3 => ?_)
  have hKn : u_Kn s (cN c) (cT c) (cW c) (gC g c) (gI g c) := ⟨fun q hq => by
    obtain ⟨cf, kf, fi, fd, f1, f2, -⟩ := hT.2.2.1 c q (by omega) hq
    exact ⟨cf, kf, fi, fd, f1, f2⟩, hfc, hT.2.1 c hc⟩
  obtain ⟨cell, b1, b2, b3, b4⟩ := u_born (cTy c) hts (lays_in hc) hKn hkC f1 (typ_ok c hc)
  have had := hp_ad hP
  have hw6 : 6 ≤ wn w := hP.1
  have htag : wsh (nw w c (cW c)) (wn w) = (c, cW c) := if_pos rfl
  have hW : cW c < 2147483648 := by
    have : ∀ c, c < 13 → cW c < 2147483648 := by decide +kernel
    exact this c hc
  have hP1 : HP g (nw w c (cW c)) H1 := by
    refine hP.new hW (by omega) f2 f3 (Or.inl ⟨by rw [htag]; show c < 14; omega, ?_⟩)
    rw [htag]
    refine ⟨cell, by rw [had]; exact b1, b2, by rw [b3]; exact fun h => (by cases h), by rw [b3]; rfl, fun _ => b3, fun q hq => ?_⟩
    rw [b4 q hq]
    have z1 : wI (nw w c (cW c)) (wn w) q = 0 := if_pos rfl
    have z2 : wL (nw w c (cW c)) (wn w) q = 0 := if_pos rfl
    have z3 : wR (nw w c (cW c)) (wn w) q = 0 := if_pos rfl
    unfold fv
    dsimp only
    rw [z1, z2, z3]
    rcases def_ok c hc q hq with ⟨h, e⟩ | ⟨h, e⟩ | ⟨h, e⟩ | ⟨h, e⟩
    · rw [h, e]; rfl
    · rw [h, e]; rfl
    · rw [h, e]; rfl
    · rw [h, e]; rfl
  have h9 := kk H1 locs lsC hP1 ⟨Nat.le_trans hS.1 (by omega), fun q h1 h2 => (f3 q (Nat.lt_of_lt_of_le h1 hS.1)).trans (hS.2.1 q h1 h2), hS.2.2⟩ hL (okl_cons trivial ho) hol
  rw [List.map_cons, cv_ref (by omega), had] at h9
  exact h9
theorem zero_el {n : Nat} {q : Nat} (ht : t = 20 ∨ t = 21 ∨ t = 23) : el g (nw w t n) t (wn w) q = .int 0 := by
  have hn : ¬ t = 22 ∧ ¬ (t = 24 ∨ t = 25 ∨ t = 26) := by omega
  unfold el
  rw [if_neg hn.1, if_neg hn.2, show wI (nw w t n) (wn w) q = 0 from if_pos rfl]
  rfl
theorem zero_elL {n : Nat} {q : Nat} : el g (nw w 22 n) 22 (wn w) q = .long 0 := by
  unfold el
  rw [if_pos rfl, show wL (nw w 22 n) (wn w) q = 0 from if_pos rfl]
  rfl
theorem zero_elR {n : Nat} {q : Nat} (ht : t = 24 ∨ t = 25 ∨ t = 26) : el g (nw w t n) t (wn w) q = .null := by
  have hn : ¬ t = 22 := by omega
  unfold el
  rw [if_neg hn, if_pos ht, show wR (nw w t n) (wn w) q = 0 from if_pos rfl]
  rfl
theorem HP.newRow {H H1 : Heap} {n : Nat} (hP : HP g w H) (ht : t ∈ tgn) (hn : n < 2147483648) {dv : Value} (hel : ∀ q, el g (nw w t n) t (wn w) q = dv) (f1 : H1[H.size]? = some (arrV (gA g t) n (fun _ => dv))) (f2 : H1.size = H.size + 1) (f3 : ∀ q, q < H.size → H1[q]? = H[q]?) : HP g (nw w t n) H1 := by
  have had := hp_ad hP
  have htag : wsh (nw w t n) (wn w) = (t, n) := if_pos rfl
  have hts : t ∈ tgs ∧ t ≠ 13 ∧ t ≠ 30 ∧ t ≠ 31 ∧ t ≠ 32 := by
    simp only [tgn, List.mem_cons, List.not_mem_nil, or_false] at ht
    simp only [tgs, List.mem_cons, List.not_mem_nil, or_false]
    omega
  refine hP.new hn hts.2 f2 f3 (Or.inr ⟨by rw [htag]; exact hts.1, ?_⟩)
  rw [htag]
  refine ⟨_, by rw [had]; exact f1, rfl, fun h => (by cases h), rfl, by rw [arrV_size]; exact Nat.le_refl _, by rw [arrV_size], fun j hj => by rw [arrV_read _ _ hj, hel j], fun _ => ?_⟩
  congr 1
  funext q
  exact (hel q).symm
theorem rn_newa {at' : ArrayType} (hi : ins m pc = some (.newarray at', npc, x, y)) (ht : t = 20 ∨ t = 21 ∨ t = 22 ∨ t = 23) (hat : newarray.typeOf at' = ety t) (h : nwA w t z = some w1) (k : Rn g l d m npc ls (.inr (.inr (wn w)) :: st) w1 v w') : Rn g l d m pc ls (.inl z :: st) w v w' := by
  obtain ⟨hd, hn⟩ := ins_d hi rfl
  subst hn
  obtain ⟨⟨h0, h1⟩, rfl⟩ := ite_some h
  refine Rn.by (w1 := nw w t z.toNat) (Nat.le_succ _) (Nat.le_add_right _ _) k (fun p e R s mid args below meth c0 hC hd0 hl0 H locs lsC cells slots Q hc1 hc2 hP hS hL ho hol kk => ?_)
  obtain ⟨hx, hb, hml, hr, hown, hts, hlk, hnm, hT, hZ⟩ := hC
  have e1 : wn (nw w t z.toNat) - wn w = 1 := Nat.add_sub_cancel_left _ _
  have e2 : wz (nw w t z.toNat) - wz w = z.toNat := Nat.add_sub_cancel_left _ _
  rw [e1] at hc1 kk
  rw [e2] at hc2 kk
  have hz : rg z := okl_head ho
  have htn : t ∈ tgn := by rcases ht with e | e | e | e <;> rw [e] <;> decide
  have hbyt : z.toNat * componentBytes (newarray.typeOf at') ≤ 536870912 := by
    rw [hat]
    have : componentBytes (ety t) ≤ 8 := by rcases ht with e | e | e | e <;> rw [e] <;> decide
    have h9 := Nat.mul_le_mul (show z.toNat ≤ 1000000 by omega) this
    omega
  have had := hp_ad hP
  have hw6 : 6 ≤ wn w := hP.1
  refine va_newaK hx hb (by rw [hat]; exact hts _ (w_arr t ht)) rfl hd rfl (fun q => by rw [← i32_zero, i32_lt hz rg_zero] at q; omega) (i32_clamp hz) hbyt hc1 hc2 rfl (fun H1 cA f1 f2 f3 f4 f5 => ?_)
  rw [hat] at f1 f5
  have hcA : cA = gA g t := Option.some.inj (f5.symm.trans (hT.2.2.2.2.1 t htn))
  rw [hcA] at f1
  have hP1 : HP g (nw w t z.toNat) H1 := by
    rcases ht with e | e | e | e
    · exact hP.newRow htn (by omega) (dv := .int 0) (fun q => zero_el (by omega)) (by rw [e] at f1 ⊢; exact f1) f2 f3
    · exact hP.newRow htn (by omega) (dv := .int 0) (fun q => zero_el (by omega)) (by rw [e] at f1 ⊢; exact f1) f2 f3
    · subst e; exact hP.newRow htn (by omega) (dv := .long 0) (fun q => zero_elL) f1 f2 f3
    · exact hP.newRow htn (by omega) (dv := .int 0) (fun q => zero_el (by omega)) (by rw [e] at f1 ⊢; exact f1) f2 f3
  have h9 := kk H1 locs lsC hP1 ⟨Nat.le_trans hS.1 (by omega), fun q h1 h2 => (f3 q (Nat.lt_of_lt_of_le h1 hS.1)).trans (hS.2.1 q h1 h2), hS.2.2⟩ hL (okl_cons trivial (okl_tail ho)) hol
  rw [List.map_cons, cv_ref (by omega), had] at h9
  exact h9
theorem rn_anew (hi : ins m pc = some (.anewarray j, npc, t, y)) (ht : t = 24 ∨ t = 25) (h : nwA w t z = some w1) (k : Rn g l d m npc ls (.inr (.inr (wn w)) :: st) w1 v w') : Rn g l d m pc ls (.inl z :: st) w v w' := by
  obtain ⟨hd, hn⟩ := ins_d hi rfl
  obtain ⟨-, -, hk, -, -⟩ := ins_dec hi
  subst hn
  have hcl := cls_in2 (pc := pc) rfl ht (show clsTab.any _ = true from hk)
  obtain ⟨⟨h0, h1⟩, rfl⟩ := ite_some h
  refine Rn.by (w1 := nw w t z.toNat) (Nat.le_succ _) (Nat.le_add_right _ _) k (fun p e R s mid args below meth c0 hC hd0 hl0 H locs lsC cells slots Q hc1 hc2 hP hS hL ho hol kk => ?_)
  obtain ⟨hx, hb, hml, hr, hown, hts, hlk, hnm, hT, hZ⟩ := hC
  have e1 : wn (nw w t z.toNat) - wn w = 1 := Nat.add_sub_cancel_left _ _
  have e2 : wz (nw w t z.toNat) - wz w = z.toNat := Nat.add_sub_cancel_left _ _
  rw [e1] at hc1 kk
  rw [e2] at hc2 kk
  have hz : rg z := okl_head ho
  have htn : t ∈ tgn := by rcases ht with e | e <;> rw [e] <;> decide
  have het : ety t = .object (cN (33 - t)) := by rcases ht with e | e <;> rw [e] <;> rfl
  have hov := hT.2.2.2.2.2.2.1 t (by rcases ht with e | e <;> rw [e] <;> decide)
  have hfa := hT.2.2.2.2.1 t htn
  rw [het] at hov hfa
  have had := hp_ad hP
  have hw6 : 6 ≤ wn w := hP.1
  refine W.anew hx hb hown (hts _ hcl) (va_AO.use (va_AO.of hov)) rfl hd rfl (fun q => by rw [← i32_zero, i32_lt hz rg_zero] at q; omega) (by rw [i32_clamp hz]; omega) hc1 (by rw [i32_clamp hz]; exact hc2) (fun cA kA comp f1 f2 f3 f4 => ?_)
  rw [i32_clamp hz]
  have hcA : cA = gA g t := Option.some.inj (f1.symm.trans hfa)
  rw [hcA, arrV_new]
  generalize hH1 : Array.push H (arrV (gA g t) z.toNat (fun _ => Value.null)) = H1
  have g1 : H1[H.size]? = some (arrV (gA g t) z.toNat (fun _ => Value.null)) := by rw [← hH1]; simp
  have g2 : H1.size = H.size + 1 := by rw [← hH1]; simp
  have g3 : ∀ q, q < H.size → H1[q]? = H[q]? := fun q hq => by rw [← hH1, Array.getElem?_push, if_neg (Nat.ne_of_lt hq)]
  have hP1 : HP g (nw w t z.toNat) H1 := hP.newRow htn (by omega) (dv := .null) (fun q => zero_elR (by omega)) g1 g2 g3
  have h9 := kk H1 locs lsC hP1 ⟨Nat.le_trans hS.1 (by omega), fun q h1 h2 => (g3 q (Nat.lt_of_lt_of_le h1 hS.1)).trans (hS.2.1 q h1 h2), hS.2.2⟩ hL (okl_cons trivial (okl_tail ho)) hol
  rw [List.map_cons, cv_ref (by omega), had] at h9
  exact h9
theorem rn_objInit (hi : ins m pc = some (.invokespecial j, npc, 1000, y)) (ha : a ≠ 0) (hcs : catS st ≤ 8) (k : Rn g l (d + 1) m npc ls st w v w') : Rn g l (d + 1) m pc ls (.inr (.inr a) :: st) w v w' := by
  obtain ⟨hd, hn⟩ := ins_d hi rfl
  obtain ⟨-, -, hk, -, -⟩ := ins_dec hi
  subst hn
  have hk : mthTab.any (fun q => q.1 == mO m && q.2.1 == j && q.2.2.1 == 1000 && ((q.2.2.2.1 : Nat) : Int) == y) = true := hk
  obtain ⟨q, hq, h1⟩ := List.any_eq_true.mp hk
  simp only [Bool.and_eq_true, beq_iff_eq] at h1
  obtain ⟨⟨⟨h1, h2⟩, h3⟩, -⟩ := h1
  have hw := mth_1000 q hq h3
  rw [h1, h2] at hw
  refine Rn.by (Nat.le_refl _) (Nat.le_refl _) k (fun p e R s mid args below meth c0 hC hd0 hl0 H locs lsC cells slots Q hc1 hc2 hP hS hL ho hol kk => ?_)
  obtain ⟨hx, hb, hml, hr, hown, hts, hlk, hnm, hT, hZ⟩ := hC
  have e2 := kk H locs lsC hP hS hL (okl_tail ho) hol
  rw [Nat.sub_self, Nat.sub_self] at e2
  rw [List.map_cons, cv_ref ha]
  refine W.objInit hx hb hown (hts _ (gw_at _ hw rfl)) (hts _ w_oi1) (hts _ w_oi2) rfl (by rw [hml]; exact hL.1) rfl hd (by omega) ?_ e2
  show 2 * 0 + ((st.map (cv g)).map fun v => v.category).sum + 12 ≤ R.locals
  rw [catS_eq]
  omega
theorem rn_copy {i n jj : Int} (hi : ins m pc = some (.invokestatic j, npc, 1001, y)) (hcs : catS st ≤ 8) (h : cpyI w a i b jj n = some w1) (k : Rn g l (d + 1) m npc ls st w1 v w') : Rn g l (d + 1) m pc ls (.inl n :: .inl jj :: .inr (.inr b) :: .inl i :: .inr (.inr a) :: st) w v w' := by
  obtain ⟨hd, hn⟩ := ins_d hi rfl
  obtain ⟨-, -, hk, -, -⟩ := ins_dec hi
  subst hn
  have hk : mthTab.any (fun q => q.1 == mO m && q.2.1 == j && q.2.2.1 == 1001 && ((q.2.2.2.1 : Nat) : Int) == y) = true := hk
  obtain ⟨q, hq, h1⟩ := List.any_eq_true.mp hk
  simp only [Bool.and_eq_true, beq_iff_eq] at h1
  obtain ⟨⟨⟨h1, h2⟩, h3⟩, -⟩ := h1
  have hw := mth_1001 q hq h3
  rw [h1, h2] at hw
  obtain ⟨⟨hsa, hsb, i0, j0, n0, il, jl⟩, rfl⟩ := ite_some h
  refine Rn.by (w1 := cpI w a i.toNat b jj.toNat n.toNat) (Nat.le_refl _) (Nat.le_refl _) k (fun p e R s mid args below meth c0 hC hd0 hl0 H locs lsC cells slots Q hc1 hc2 hP hS hL ho hol kk => ?_)
  obtain ⟨hx, hb, hml, hr, hown, hts, hlk, hnm, hT, hZ⟩ := hC
  have hrn : rg n := okl_head ho
  have hrj : rg jj := okl_head (okl_tail ho)
  have hri : rg i := okl_head (okl_tail (okl_tail (okl_tail ho)))
  obtain ⟨a1, a2, cellA, p1, p2, p3, p4, p5, p6, p7, p8⟩ := hP.row hsa (by decide)
  obtain ⟨b1, b2, cellB, q1, q2, q3, q4, q5, q6, q7, q8⟩ := hP.row hsb (by decide)
  have a6 := hP.six hsa (by omega)
  have b6 := hP.six hsb (by omega)
  have ecA := p8 a6
  have ecB := q8 b6
  obtain ⟨kA, comp, k1, k2⟩ := hT.2.2.2.1 20 (by decide)
  rw [List.map_cons, List.map_cons, List.map_cons, List.map_cons, List.map_cons, cv_ref (a := a) (by omega), cv_ref (a := b) (by omega)]
  have hneg : ∀ z : Int, rg z → 0 ≤ z → ¬ i32 z < 0 := fun z hz h0 q => by rw [← i32_zero, i32_lt hz rg_zero] at q; omega
  have hfA : ∀ q, el g w 20 a q = .int (i32 (wI w a q)) := fun q => rfl
  have hfB : ∀ q, el g w 20 b q = .int (i32 (wI w b q)) := fun q => rfl
  have sA : cellA.slots.size = (wsh w a).2 := by rw [ecA, arrV_size]
  have sB : cellB.slots.size = (wsh w b).2 := by rw [ecB, arrV_size]
  intro T hT0 X
  obtain ⟨vm', X', step⟩ := X.arraycopy hx hown (hts _ (gw_at _ hw rfl)) (hts _ w_ac2) (hts _ w_ac1) (hts _ w_ac3) (src := ad g a) (dst := ad g b) (cs := cellA) (cd := cellB) (srcPos := i32 i) (destPos := i32 jj) (n := i32 n) (by rw [hT0]; exact p1) (by rw [hT0]; exact q1)
    (noStat p4) (noStat q4) p3 q3 (by rw [p2]; exact k1) (by rw [q2]; exact k1) k2 k2 (by decide) (hneg i hri i0) (hneg jj hrj j0) (hneg n hrn n0)
    (by rw [i32_toInt hri, i32_toInt hrn, sA]; omega) (by rw [i32_toInt hrj, i32_toInt hrn, sB]; omega)
    (fun vm₁ _ r hr => by
      rw [i32_clamp hrn] at hr
      have e9 : cellA.slots.getD ((i32 i).toNatClampNeg + r) .null = .int (i32 (wI w a (i.toNat + r))) := by
        rw [Array.getD_eq_getD_getElem?, i32_clamp hri, p7 _ (by omega)]
        rfl
      refine ⟨?_, ?_⟩
      · rw [e9]; rfl
      · rw [e9]; exact trivial)
    (g := F0 mid pc lsC _) rfl (by rw [hml]; exact hL.1) (rest := st.map (cv g)) rfl (by rw [hb]; exact hd) (by omega) (by
      show 2 * 0 + ((st.map (cv g)).map fun v => v.category).sum + _ ≤ R.locals
      rw [catS_eq]
      have := ac_words
      omega)
  have hnew : copied cellA cellB (i32 i) (i32 jj) (i32 n) = arrV (gA g 20) (wsh w b).2 (fun q => el g (cpI w a i.toNat b jj.toNat n.toNat) 20 b q) := by
    have e9 := va_copied (fun z => Value.int z) (gA g 20) (gA g 20) (n0 := (wsh w a).2) (n1 := (wsh w b).2) (sp := i.toNat) (dp := jj.toNat) (n := n.toNat) (fun q => i32 (wI w a q)) (fun q => i32 (wI w b q)) (by omega)
    have e8 : copied cellA cellB (i32 i) (i32 jj) (i32 n) = cellB.storeRun jj.toNat (cellA.stretch i.toNat n.toNat) := by
      unfold copied
      rw [i32_clamp hri, i32_clamp hrj, i32_clamp hrn]
    rw [e8, ecA, ecB]
    refine e9.trans ?_
    congr 1
    funext q
    show Value.int (va_cpy _ _ _ _ _ q) = Value.int (i32 (if b = b ∧ jj.toNat ≤ q ∧ q < jj.toNat + n.toNat then wI w a (i.toNat + (q - jj.toNat)) else wI w b q))
    unfold va_cpy
    by_cases hq : jj.toNat ≤ q ∧ q < jj.toNat + n.toNat
    · rw [if_pos hq, if_pos ⟨rfl, hq⟩]
    · rw [if_neg hq, if_neg (fun h => hq h.2)]
  rw [hnew] at X' step
  have hl : ad g b < H.size := (Array.getElem?_eq_some_iff.mp q1).1
  generalize hcn : arrV (gA g 20) (wsh w b).2 (fun q => el g (cpI w a i.toNat b jj.toNat n.toNat) 20 b q) = cellN at X' step
  have hheap : ((T.setVm vm').setCell (ad g b) cellN).heap = H.setIfInBounds (ad g b) cellN := by rw [← hT0]; rfl
  have oq : ∀ q : Nat, q ≠ ad g b → (H.setIfInBounds (ad g b) cellN)[q]? = H[q]? := fun q hq => by simp [Array.getElem?_setIfInBounds, Ne.symm hq]
  have osz : (H.setIfInBounds (ad g b) cellN).size = H.size := by simp
  have oat : (H.setIfInBounds (ad g b) cellN)[ad g b]? = some cellN := by simp [Array.getElem?_setIfInBounds, hl]
  have hP1 : HP g (cpI w a i.toNat b jj.toNat n.toNat) (H.setIfInBounds (ad g b) cellN) := by
    refine hP.upd b6 rfl rfl (fun c hc => ⟨fun q => if_neg (fun h => hc h.1), fun _ => rfl, fun _ => rfl⟩) (fun q => ?_) (hP.2.2.2.2.2.2.2 b) osz oq (Or.inr ⟨?_, ?_⟩)
    · show rg (if b = b ∧ jj.toNat ≤ q ∧ q < jj.toNat + n.toNat then wI w a (i.toNat + (q - jj.toNat)) else wI w b q)
      split
      · exact hP.2.2.2.2.2.2.1 a _
      · exact hP.2.2.2.2.2.2.1 b q
    · show (wsh w b).1 ∈ tgs
      rw [hsb]; decide
    · show HR g (cpI w a i.toNat b jj.toNat n.toNat) _ (wsh w b).1 (wsh w b).2 b
      rw [hsb]
      refine ⟨_, oat, by rw [← hcn]; rfl, by rw [← hcn]; exact fun h => (by cases h), by rw [← hcn]; rfl, by rw [← hcn, arrV_size]; exact Nat.le_refl _, by rw [← hcn, arrV_size], fun r hr => by rw [← hcn, arrV_read _ _ hr], fun _ => hcn.symm⟩
  have h9 := kk _ (locs ++ List.map (fun q => { base := ad g b, slot := (i32 jj).toNatClampNeg + q.snd }) (cellA.stretch (i32 i).toNatClampNeg (i32 n).toNatClampNeg).zipIdx) lsC hP1 ⟨by rw [osz]; exact hS.1, fun q g1 g2 => by
      rw [oq q (fun e => g2 (by rw [e]; exact ad_A b6))]
      exact hS.2.1 q g1 g2, fun q hq => by
      rcases List.mem_append.mp hq with h | h
      · exact hS.2.2 q h
      · obtain ⟨z9, -, hz9⟩ := List.mem_map.mp h
        rw [← hz9]
        exact ad_A b6⟩ hL (okl_tail (okl_tail (okl_tail (okl_tail (okl_tail ho))))) hol
  rw [show wn (cpI w a i.toNat b jj.toNat n.toNat) - wn w = 0 from Nat.sub_self _, show wz (cpI w a i.toNat b jj.toNat n.toNat) - wz w = 0 from Nat.sub_self _] at h9
  obtain ⟨t9, s1, s2⟩ := h9 _ hheap X'
  exact ⟨t9, step t9 s1, s2⟩
end RM
