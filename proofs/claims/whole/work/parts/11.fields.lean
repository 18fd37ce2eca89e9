/-! fields -/
section RF
variable {g : Gp} {l : Launch} {d m pc npc : Nat} {ls : List (Nat × AV)} {st : List AV} {w w' w1 : Wd} {v : Option AV} {j c k a : Nat}
theorem rn_getA {z : AV} (hi : ins m pc = some (.getfield j, npc, c, ((k : Nat) : Int))) (hs : (wsh w a).1 = c) (hz : fv g w c a k = cv g z) (hok : ∀ H, HP g w H → okv z) (kk : Rn g l d m npc ls (z :: st) w v w') : Rn g l d m pc ls (.inr (.inr a) :: st) w v w' := by
  obtain ⟨hd, hn⟩ := ins_d hi rfl
  obtain ⟨-, -, hk, -, -⟩ := ins_dec hi
  subst hn
  obtain ⟨hc, hkW, hin⟩ := fld_in (pc := pc) (npc := pc) rfl rfl (show fldTab.any _ = true from hk)
  refine Rn.on kk (fun p e R s mid args below meth c0 hC H locs lsC cells slots Q hP hS hL ho hol k2 => ?_)
  obtain ⟨hx, hb, hml, hr, hown, hts, hlk, hnm, hT, hZ⟩ := hC
  obtain ⟨a1, a2, cell, q1, q2, q3, q4, q5, q6⟩ := hP.obj hs hc
  obtain ⟨cf, kf, fi, fd, f1, f2, f3⟩ := hT.2.2.1 c k hc hkW
  rw [List.map_cons, cv_ref (by omega)]
  refine W.getf hx hb hown (hts _ hin) f1 f3 q1 q3 (v := cv g z) (by rw [f2, q6 k hkW, hz]) rfl rfl hd ?_
  exact k2 lsC hL (okl_cons (hok H hP) (okl_tail ho)) hol
theorem rn_getI (hi : ins m pc = some (.getfield j, npc, c, ((k : Nat) : Int))) (ht : fty c k = 0 ∨ fty c k = 3) (hs : (wsh w a).1 = c) (kk : Rn g l d m npc ls (.inl (wI w a k) :: st) w v w') : Rn g l d m pc ls (.inr (.inr a) :: st) w v w' :=
  rn_getA (z := .inl (wI w a k)) hi hs (by unfold fv; rcases ht with h | h <;> rw [h] <;> rfl) (fun H hP => hP.2.2.2.2.2.2.1 a k) kk
theorem rn_getL (hi : ins m pc = some (.getfield j, npc, c, ((k : Nat) : Int))) (ht : fty c k = 1) (hs : (wsh w a).1 = c) (kk : Rn g l d m npc ls (.inr (.inl (wL w a k)) :: st) w v w') : Rn g l d m pc ls (.inr (.inr a) :: st) w v w' :=
  rn_getA (z := .inr (.inl (wL w a k))) hi hs (by unfold fv; rw [ht]; rfl) (fun H hP => hP.2.2.2.2.2.2.2 a k) kk
theorem rn_getR (hi : ins m pc = some (.getfield j, npc, c, ((k : Nat) : Int))) (ht : fty c k = 2) (hs : (wsh w a).1 = c) (h0 : wR w a k ≠ 0) (kk : Rn g l d m npc ls (.inr (.inr (wR w a k)) :: st) w v w') : Rn g l d m pc ls (.inr (.inr a) :: st) w v w' :=
  rn_getA (z := .inr (.inr (wR w a k))) hi hs (by unfold fv; rw [ht, hv_ref h0, cv_ref h0]; rfl) (fun H hP => trivial) kk
theorem rn_putA {z : AV} (hi : ins m pc = some (.putfield j, npc, c, ((k : Nat) : Int))) (hc : c < 13) (hfin : (cE c k).2.2.1 = false ∨ ((cE c k).2.2.1 = true ∧ (mY m).name = "<init>" ∧ mO m = c)) (hs : (wsh w a).1 = c) (hnar : narrow (cTy c k) (cv g z) = cv g z) (hfit : fits (cTy c k) (cv g z) = true)
    (h1 : wn w1 = wn w) (h2 : wz w1 = wz w) (h3 : wsh w1 = wsh w) (ho : ∀ b, b ≠ a → (∀ j, wI w1 b j = wI w b j) ∧ (∀ j, wL w1 b j = wL w b j) ∧ ∀ j, wR w1 b j = wR w b j) (hI : okv z → (∀ j, rg (wI w a j)) → ∀ j, rg (wI w1 a j)) (hLr : okv z → (∀ j, rl (wL w a j)) → ∀ j, rl (wL w1 a j)) (hfv : ∀ j, fv g w1 c a j = updV (fv g w c a) k (cv g z) j)
    (kk : Rn g l d m npc ls st w1 v w') : Rn g l d m pc ls (z :: .inr (.inr a) :: st) w v w' := by
  obtain ⟨hd, hn⟩ := ins_d hi rfl
  obtain ⟨-, -, hk, -, -⟩ := ins_dec hi
  subst hn
  obtain ⟨-, hkW, hin⟩ := fld_in (pc := pc) (npc := pc) rfl rfl (show fldTab.any _ = true from hk)
  refine Rn.by (Nat.le_of_eq h1.symm) (Nat.le_of_eq h2.symm) kk (fun p e R s mid args below meth c0 hC hd0 hl0 H locs lsC cells slots Q hc1 hc2 hP hS hL ho0 hol k2 => ?_)
  obtain ⟨hx, hb, hml, hr, hown, hts, hlk, hnm, hT, hZ⟩ := hC
  obtain ⟨a1, a2, cell, q1, q2, q3, q4, q5, q6⟩ := hP.obj hs (by omega)
  have a6 := hP.six hs (Or.inl hc)
  have hvm := q5 a6
  obtain ⟨cf, kf, fi, fd, f1, f2, f3⟩ := hT.2.2.1 c k (by omega) hkW
  have hfc := hT.1 c (by omega)
  obtain ⟨kC, k1, k3⟩ := hT.2.1 c hc
  have hlays : ∀ k', k' < cW c → (Cond.lays (cN c) (cT c k').1 (cT c k').2.1 (cT c k').2.2.1).before args s = true ∨ (Cond.laysFinal (cN c) (cT c k').1 (cT c k').2.1 (cT c k').2.2.1).before args s = true := fun k' hk' => u_lays hts (lays_in hc) hk'
  have hap : ∀ x y, x < cW c → y < cW c → x ≠ y → gI g c x ≠ gI g c y := fun x y hx1 hy1 hne => by
    obtain ⟨_, _, _, fa, hia, ea, -⟩ := hT.2.2.1 c x (by omega) hx1
    obtain ⟨_, _, _, fb, hib, eb, -⟩ := hT.2.2.1 c y (by omega) hy1
    rw [← ea, ← eb]
    refine u_apart (hlays x hx1) (hlays y hy1) hia hib ?_
    rw [(State.fieldFound?_type hia (typ_ok c hc x hx1)).1, (State.fieldFound?_type hib (typ_ok c hc y hy1)).1]
    exact nam_ok c hc x hx1 y hy1 hne
  have hlt : fd.slot < cell.slots.size := by rw [f2]; exact (Array.getElem?_eq_some_iff.mp (q6 k hkW)).1
  have hF : narrow fd.type (cv g z) = cv g z ∧ s.fitsSlot (gC g c) .none fd.slot (cv g z) = true := u_fits hfc k1 k3 (hlays k hkW) f1 (typ_ok c hc k hkW) hnar hfit
  have fin : ∀ H' : Heap, H'[ad g a]? = some (cell.setSlot fd.slot (cv g z)) → H'.size = H.size → (∀ q, q ≠ ad g a → H'[q]? = H[q]?) → W p l e R s mid args below meth c0 H' (locs ++ [⟨ad g a, fd.slot⟩]) cells slots Q (F0 mid (pc + 3) lsC (st.map (cv g))) := fun H' e1 e2 e3 => by
    have hok := okl_head ho0
    have hP1 : HP g w1 H' := hP.upd a6 h1 h3 ho (hI hok (hP.2.2.2.2.2.2.1 a)) (hLr hok (hP.2.2.2.2.2.2.2 a)) e2 e3 (Or.inl ⟨by rw [h3, hs]; omega, by
      rw [h3, hs]
      refine ⟨_, e1, q2, q3, q4, q5, fun k' hk' => ?_⟩
      rw [hfv k', f2]
      exact t_set q6 hap hkW (cv g z) k' hk'⟩)
    have h9 := k2 H' (locs ++ [⟨ad g a, fd.slot⟩]) lsC hP1 (hS.put e2 e3 (ad_A a6)) hL (okl_tail (okl_tail ho0)) hol
    rw [h1, h2, Nat.sub_self, Nat.sub_self] at h9
    exact h9
  rw [List.map_cons, List.map_cons, cv_ref (a := a) (by omega)]
  rcases hfin with hf | ⟨hf, hnm2, hmo⟩
  · have hlay := hts _ (lay_in hc hkW)
    unfold u_lay at hlay
    rw [if_neg (by show ¬ (cE c k).2.2.1 = true; rw [hf]; decide)] at hlay
    have h6 := u_store hfc k1 k3 hlay f1 (typ_ok c hc k hkW) hnar hfit
    exact W.putK hx hb (f := fd) ⟨hown, hts _ hin, ⟨_, _, _, f1⟩, f3⟩ (by rw [q2]; exact h6) q1 hvm hlt rfl rfl hd fin
  · have hlay := hts _ (lay_in hc hkW)
    unfold u_lay at hlay
    rw [if_pos (show (cT c k).2.2.2 = true from hf)] at hlay
    have hcf : mid.cls = cf := by
      obtain ⟨_, _, c', _, _, _, -, -, hf', -, -, -, hown2, -⟩ := Cond.laysFinal_spec hlay
      have e1 : c' = cf := by have := f1.symm.trans hf'; simp at this; exact this.1.symm
      rw [← e1]
      rw [hmo] at hown
      exact Option.some.inj (hown.symm.trans hown2)
    exact W.putFinK hx hb hown (hts _ hin) f1 f3 hcf (hnm hnm2) (by rw [q2]; exact hF) q1 hvm hlt rfl rfl hd fin
theorem up2_ne {α : Type} {f : Nat → Nat → α} {a k b : Nat} {x : α} (h : b ≠ a) (j : Nat) : up2 f a k x b j = f b j := if_neg (fun q => h q.1)
theorem up2_self {α : Type} {f : Nat → Nat → α} {a k : Nat} {x : α} (j : Nat) : up2 f a k x a j = if j = k then x else f a j := by
  unfold up2
  by_cases h : j = k
  · rw [if_pos ⟨rfl, h⟩, if_pos h]
  · rw [if_neg (fun q => h q.2), if_neg h]
theorem fv_I (h : fty c k = 0 ∨ fty c k = 3) (z : Int) (j : Nat) : fv g (sI w a k z) c a j = updV (fv g w c a) k (.int (i32 z)) j := by
  unfold updV
  by_cases e : j = k
  · rw [if_pos e, e]
    have h9 : wI (sI w a k z) a k = z := (up2_self k).trans (if_pos rfl)
    unfold fv
    rcases h with h | h <;> rw [h, h9] <;> rfl
  · rw [if_neg e]
    have h9 : wI (sI w a k z) a j = wI w a j := (up2_self j).trans (if_neg e)
    unfold fv
    rw [h9]
    rfl
theorem fv_L (h : fty c k = 1) (z : Int) (j : Nat) : fv g (sL w a k z) c a j = updV (fv g w c a) k (.long (i64 z)) j := by
  unfold updV
  by_cases e : j = k
  · rw [if_pos e, e]
    have h9 : wL (sL w a k z) a k = z := (up2_self k).trans (if_pos rfl)
    unfold fv
    rw [h, h9]
    rfl
  · rw [if_neg e]
    have h9 : wL (sL w a k z) a j = wL w a j := (up2_self j).trans (if_neg e)
    unfold fv
    rw [h9]
    rfl
theorem fv_R (h : fty c k = 2) (z : Nat) (j : Nat) : fv g (sR w a k z) c a j = updV (fv g w c a) k (hv g z) j := by
  unfold updV
  by_cases e : j = k
  · rw [if_pos e, e]
    have h9 : wR (sR w a k z) a k = z := (up2_self k).trans (if_pos rfl)
    unfold fv
    rw [h, h9]
    rfl
  · rw [if_neg e]
    have h9 : wR (sR w a k z) a j = wR w a j := (up2_self j).trans (if_neg e)
    unfold fv
    rw [h9]
    rfl
theorem rn_putI {z : Int} (hi : ins m pc = some (.putfield j, npc, c, ((k : Nat) : Int))) (hc : c < 13) (hkc : k < cW c) (ht : fty c k = 0 ∨ (fty c k = 3 ∧ (z = 0 ∨ z = 1))) (hfin : (cE c k).2.2.1 = false ∨ ((cE c k).2.2.1 = true ∧ (mY m).name = "<init>" ∧ mO m = c)) (hs : (wsh w a).1 = c) (kk : Rn g l d m npc ls st (sI w a k z) v w') : Rn g l d m pc ls (.inl z :: .inr (.inr a) :: st) w v w' := by
  have hty : (narrow (cTy c k) (.int (i32 z)) = .int (i32 z)) ∧ fits (cTy c k) (.int (i32 z)) = true := by
    rcases def_ok c hc k hkc with ⟨h, e⟩ | ⟨h, e⟩ | ⟨h, e⟩ | ⟨h, e⟩
    · rw [h] at ht; omega
    · rw [h] at ht; omega
    · rw [e]; exact ⟨rfl, rfl⟩
    · rw [h] at ht
      rcases ht with ht | ⟨-, rfl | rfl⟩
      · omega
      · rw [e]; exact ⟨rfl, rfl⟩
      · rw [e]; exact ⟨rfl, rfl⟩
  exact rn_putA (w1 := sI w a k z) hi hc hfin hs hty.1 hty.2 rfl rfl rfl (fun b hb => ⟨fun j => up2_ne hb j, fun _ => rfl, fun _ => rfl⟩)
    (fun hok h j => by show rg (up2 (wI w) a k z a j); rw [up2_self]; split; exact hok; exact h j) (fun _ h => h) (fv_I (by omega) z) kk
theorem rn_putL {z : Int} (hi : ins m pc = some (.putfield j, npc, c, ((k : Nat) : Int))) (hc : c < 13) (hkc : k < cW c) (ht : fty c k = 1) (hfin : (cE c k).2.2.1 = false ∨ ((cE c k).2.2.1 = true ∧ (mY m).name = "<init>" ∧ mO m = c)) (hs : (wsh w a).1 = c) (kk : Rn g l d m npc ls st (sL w a k z) v w') : Rn g l d m pc ls (.inr (.inl z) :: .inr (.inr a) :: st) w v w' := by
  have hty : (narrow (cTy c k) (.long (i64 z)) = .long (i64 z)) ∧ fits (cTy c k) (.long (i64 z)) = true := by
    rcases def_ok c hc k hkc with ⟨h, e⟩ | ⟨h, e⟩ | ⟨h, e⟩ | ⟨h, e⟩
    · rw [e]; exact ⟨rfl, rfl⟩
    · rw [h] at ht; omega
    · rw [h] at ht; omega
    · rw [h] at ht; omega
  exact rn_putA (w1 := sL w a k z) hi hc hfin hs hty.1 hty.2 rfl rfl rfl (fun b hb => ⟨fun _ => rfl, fun j => up2_ne hb j, fun _ => rfl⟩)
    (fun _ h => h) (fun hok h j => by show rl (up2 (wL w) a k z a j); rw [up2_self]; split; exact hok; exact h j) (fv_L ht z) kk
theorem rn_putR {b : Nat} (hi : ins m pc = some (.putfield j, npc, c, ((k : Nat) : Int))) (hc : c < 13) (hkc : k < cW c) (ht : fty c k = 2) (hfin : (cE c k).2.2.1 = false ∨ ((cE c k).2.2.1 = true ∧ (mY m).name = "<init>" ∧ mO m = c)) (hs : (wsh w a).1 = c) (hb0 : b ≠ 0) (kk : Rn g l d m npc ls st (sR w a k b) v w') : Rn g l d m pc ls (.inr (.inr b) :: .inr (.inr a) :: st) w v w' := by
  have hty : (narrow (cTy c k) (.ref (ad g b)) = .ref (ad g b)) ∧ fits (cTy c k) (.ref (ad g b)) = true := by
    rcases def_ok c hc k hkc with ⟨h, e⟩ | ⟨h, e⟩ | ⟨h, e⟩ | ⟨h, e⟩
    · rw [h] at ht; omega
    · cases hq : cTy c k <;> rw [hq] at e <;> first | exact ⟨rfl, rfl⟩ | (simp [defaultValue] at e)
    · rw [h] at ht; omega
    · rw [h] at ht; omega
  exact rn_putA (w1 := sR w a k b) hi hc hfin hs (by rw [cv_ref hb0]; exact hty.1) (by rw [cv_ref hb0]; exact hty.2) rfl rfl rfl (fun b' hb => ⟨fun _ => rfl, fun _ => rfl, fun j => up2_ne hb j⟩)
    (fun _ h => h) (fun _ h => h) (fun j => by rw [cv_ref hb0, ← hv_ref hb0]; exact fv_R ht b j) kk
end RF
