/-! Level 3, read: the class's reader, its small steps. -/
def PRd (dr a : Nat) (_ : Nat) : Prop := a = 8 ∨ (dr ≤ a ∧ a ≤ dr + 9)
def QRd (a : Nat) (_ : Nat) : Prop := a = 8 ∨ a = 27
/-- a fault, or what is sound -/
def RES {α : Type} (pl : Nat → Nat) (dr : Nat) (w : Wd) (res : Sum Ft α) (ok : α → Wd → Prop) (r : Int × Wd) : Prop := FL (PRd dr) QRd w r.2 ∧ match res with
  | .inl e => r.1 = 0 ∧ wI r.2 8 2 = (e.1 : Int) ∧ wI r.2 8 0 = (pl e.2 : Int)
  | .inr a => r.1 = 1 ∧ ok a r.2
theorem wp_res {α β : Type} {pl : Nat → Nat} {dr : Nat} {w : Wd} {o : Option (Int × Wd)} {res : Sum Ft α} {f : α → Sum Ft β} {k : Int × Wd → Option (Int × Wd)} {ok : α → Wd → Prop} {ok' : β → Wd → Prop} (h : Wp o (RES pl dr w res ok)) (hk : ∀ a r, res = .inr a → FL (PRd dr) QRd w r.2 → r.1 = 1 → ok a r.2 → Wp (k r) (RES pl dr w (f a) ok')) : Wp (o.bind fun r => if (r.1 : Int) = 0 then some (0, r.2) else k r) (RES pl dr w (sb res f) ok') := by
  refine wp_call h (fun r hr => ?_)
  cases res with
  | inl e => exact wp_pos hr.2.1 (wp_ret ⟨hr.1, rfl, hr.2.2⟩)
  | inr a =>
    obtain ⟨h1, h2, h3⟩ := hr
    exact wp_neg (by rw [h2]; decide) (hk a r rfl h1 h2 h3)
theorem res_tr {α : Type} {pl : Nat → Nat} {dr : Nat} {w w1 : Wd} {res : Sum Ft α} {ok ok' : α → Wd → Prop} {r : Int × Wd} (f : FL (PRd dr) QRd w w1) (h : RES pl dr w1 res ok r) (hk : ∀ a, res = .inr a → ok a r.2 → ok' a r.2) : RES pl dr w res ok' r := by
  obtain ⟨h1, h2⟩ := h
  refine ⟨f.tr h1, ?_⟩
  cases res with
  | inl e => exact h2
  | inr a => exact ⟨h2.1, hk a rfl h2.2⟩
section CR
variable {L wl dr : Nat} {c : Nat → Int} {N : Nat}
/-- the token that is looked at -/
def CUR (c : Nat → Int) (N : Nat) (w : Wd) (t : Nat) : Prop := (t ≤ 400 ∧ goes c N t) ∧ wI w 8 5 = (t : Int) ∧ wI w 8 6 = ck (kK c N t) ∧ (kK c N t = 2 → wL w 8 7 = kV c N t) ∧ (kK c N t = 1 → wL w 8 7 = kN c N t)
theorem CUR.eq {w w1 : Wd} {t : Nat} (h : CUR c N w t) (e : ∀ k, k = 5 ∨ k = 6 → wI w1 8 k = wI w 8 k) (e2 : wL w1 8 7 = wL w 8 7) : CUR c N w1 t := ⟨h.1, (e 5 (by omega)).trans h.2.1, (e 6 (by omega)).trans h.2.2.1, fun q => e2.trans (h.2.2.2.1 q), fun q => e2.trans (h.2.2.2.2 q)⟩
theorem CUR.is {w : Wd} {t k : Nat} (h : CUR c N w t) (hk : kv k) : wI w 8 6 = ck k ↔ kK c N t = k := by
  rw [h.2.2.1]
  exact ck_inj (kv_kK c N t) hk
theorem c_refuse {w : Wd} {t x : Nat} (hO : Ok L wl dr 7 w) (hT : CT c N w) (h5 : wI w 8 5 = (t : Int)) (ht : t ≤ 400) (hg : goes c N t) : Wp (Rd_refuse 8 (x : Int) w) (fun r => r.1 = 0 ∧ FL (fun a k => a = 8 ∧ (k = 0 ∨ k = 2)) (fun _ _ => False) w r.2 ∧ wI r.2 8 2 = (x : Int) ∧ wI r.2 8 0 = (kP c N t : Int)) := by
  unfold Rd_refuse Rd_refuse_0
  refine wp_gd hO rfl (wp_pI hO rfl ?_)
  generalize hw1 : sI w 8 2 (x : Int) = w1
  have hO1 : Ok L wl dr 7 w1 := by rw [← hw1]; exact hO.sI
  refine wp_R6_3 hO1 (wp_R7_1 hO1 (wp_gI hO1 rfl ?_))
  rw [show wI w1 8 5 = (t : Int) by rw [← hw1, wI_ne (by omega), h5]]
  refine wp_rI hO1 rfl (by omega) ?_
  rw [Int.toNat_natCast, show wI w1 23 t = (kP c N t : Int) by rw [← hw1, wI_ne (by omega)]; exact (hT t ht hg).2.1]
  refine wp_pI hO1 rfl (wp_ret ⟨rfl, ?_, ?_, wI_eq _ _ _ _⟩)
  · rw [← hw1]
    exact ((FL.rf w).sI (by omega)).sI (by omega)
  · rw [wI_ne (by omega), ← hw1, wI_eq]
theorem refuse_res {α : Type} {w : Wd} {t x : Nat} {ok : α → Wd → Prop} (hO : Ok L wl dr 7 w) (hT : CT c N w) (hC : CUR c N w t) : Wp (Rd_refuse 8 (x : Int) w) (RES (kP c N) dr w (.inl (x, t)) ok) := wp_use (c_refuse hO hT hC.2.1 hC.1.1 hC.1.2) (fun r hr => ⟨hr.2.1.mono (fun a k q => Or.inl q.1) (fun a k q => absurd q id), hr.1, hr.2.2⟩)
/-- what a step forward may change -/
def PSt (a k : Nat) : Prop := a = 8 ∧ (k = 5 ∨ k = 6)
def QSt (a k : Nat) : Prop := a = 8 ∧ k = 7
theorem st_rd {w w1 : Wd} (f : FL PSt QSt w w1) : FL (PRd dr) QRd w w1 := f.mono (fun a k q => Or.inl q.1) (fun a k q => Or.inl q.1)
theorem c_pass {w : Wd} {t : Nat} (hO : Ok L wl dr 7 w) (hT : CT c N w) (hC : CUR c N w t) (hk : kK c N t ≠ 0 ∧ kK c N t ≠ 3) : Wp (Rd_pass 8 w) (RES (kP c N) dr w (ps1 t) (fun t' w1 => CUR c N w1 t' ∧ FL PSt QSt w w1)) := by
  unfold Rd_pass Rd_pass_0
  have h4 := hC.1.1
  refine wp_gd hO rfl (wp_gI hO rfl ?_)
  rw [hC.2.1]
  unfold ps1
  by_cases q : t < 400
  · rw [if_pos q]
    have hg : goes c N (t + 1) := fun i hi => by
      by_cases e : i = t
      · rw [e]; exact hk
      · exact hC.1.2 i (by omega)
    obtain ⟨r1, r2, r3, r4⟩ := hT (t + 1) (by omega) hg
    refine wp_pos (by omega) (wp_gI hO rfl ?_)
    rw [hC.2.1, w32_id (by omega) (by omega), show (t : Int) + 1 = ((t + 1 : Nat) : Int) by omega]
    refine wp_pI hO rfl ?_
    generalize hw1 : sI w 8 5 ((t + 1 : Nat) : Int) = w1
    have hO1 : Ok L wl dr 7 w1 := by rw [← hw1]; exact hO.sI
    have f1 : FL PSt QSt w w1 := by rw [← hw1]; exact (FL.rf w).sI (by unfold PSt; omega)
    have e5 : wI w1 8 5 = ((t + 1 : Nat) : Int) := by rw [← hw1, wI_eq]
    refine wp_R6_3 hO1 (wp_R7_0 hO1 (wp_gI hO1 rfl ?_))
    rw [e5]
    refine wp_rI hO1 rfl (by omega) ?_
    rw [Int.toNat_natCast, f1.i 22 _ (by unfold PSt; omega), r1]
    refine wp_pI hO1 rfl ?_
    generalize hw2 : sI w1 8 6 (ck (kK c N (t + 1))) = w2
    have hO2 : Ok L wl dr 7 w2 := by rw [← hw2]; exact hO1.sI
    have f2 : FL PSt QSt w w2 := by rw [← hw2]; exact f1.sI (by unfold PSt; omega)
    have e52 : wI w2 8 5 = ((t + 1 : Nat) : Int) := by rw [← hw2, wI_ne (by omega), e5]
    have e62 : wI w2 8 6 = ck (kK c N (t + 1)) := by rw [← hw2, wI_eq]
    refine wp_R6_3 hO2 (wp_R7_2 hO2 (wp_gI hO2 rfl ?_))
    rw [e52]
    refine wp_rL hO2 rfl (by omega) ?_
    rw [Int.toNat_natCast, f2.l 24 _ (by unfold QSt; omega)]
    refine wp_pL hO2 rfl (wp_ret ?_)
    have f3 : FL PSt QSt w (sL w2 8 7 (wL w 24 (t + 1))) := f2.sL (by unfold QSt; omega)
    refine ⟨st_rd f3, rfl, ⟨⟨by omega, hg⟩, ?_, ?_, fun k => ?_, fun k => ?_⟩, f3⟩
    · rw [wI_sL]; exact e52
    · rw [wI_sL]; exact e62
    · rw [wL_eq]; exact r3 k
    · rw [wL_eq]; exact r4 k
  · rw [if_neg q]
    refine wp_neg (by omega) (wp_call (refuse_res (x := 2) (ok := fun (t' : Nat) w1 => CUR c N w1 t' ∧ FL PSt QSt w w1) hO hT hC) (fun r hr => ?_))
    rw [hr.2.1]
    exact wp_rZr (Or.inl rfl) ⟨hr.1, rfl, hr.2.2⟩
theorem c_take {w : Wd} {t k : Nat} (hO : Ok L wl dr 7 w) (hT : CT c N w) (hC : CUR c N w t) (hk : kv k) (hk2 : k ≠ 0 ∧ k ≠ 3) {z : Int} (hz : z = ck k) : Wp (Rd_take 8 z w) (RES (kP c N) dr w (ex (kK c N) k t) (fun t' w1 => CUR c N w1 t' ∧ FL PSt QSt w w1)) := by
  unfold Rd_take Rd_take_0 Rd_take_20 ex
  rw [hz]
  refine wp_gd hO rfl (wp_gI hO rfl ?_)
  by_cases q : kK c N t = k
  · rw [if_pos q]
    refine wp_pos ((hC.is hk).mpr q) (wp_call (c_pass hO hT hC (by rw [q]; exact hk2)) (fun r hr => ?_))
    refine wp_rZr ?_ hr
    obtain ⟨-, h2⟩ := hr
    generalize ps1 t = s at h2
    cases s with
    | inl e => exact Or.inl h2.1
    | inr a => exact Or.inr h2.1
  · rw [if_neg q]
    refine wp_neg (fun h => q ((hC.is hk).mp h)) (wp_call (refuse_res (x := 1) (ok := fun (t' : Nat) w1 => CUR c N w1 t' ∧ FL PSt QSt w w1) hO hT hC) (fun r hr => ?_))
    refine wp_rZr (Or.inl hr.2.1) hr
theorem res_01 {α : Type} {pl : Nat → Nat} {w : Wd} {res : Sum Ft α} {ok : α → Wd → Prop} {r : Int × Wd} (h : RES pl dr w res ok r) : r.1 = 0 ∨ r.1 = 1 := by
  obtain ⟨-, h2⟩ := h
  cases res with
  | inl e => exact Or.inl h2.1
  | inr a => exact Or.inr h2.1
/-- one step more is put to the laws -/
theorem c_put {w : Wd} {b z : Nat} {x y : Int} (hb : isLw b) (hO : Ok L wl dr 7 w) (hz : z < 400) (h0 : wI w b 0 = (z : Int)) : Wp (Lw_put b x y w) (fun w1 => Fr (fun a k => (a = b ∧ k = 0) ∨ ((a = b + 1 ∨ a = b + 2) ∧ k = z)) w w1 ∧ wI w1 b 0 = ((z + 1 : Nat) : Int) ∧ wI w1 (b + 1) z = x ∧ wI w1 (b + 2) z = y) := by
  unfold Lw_put Lw_put_0 Lw_put_40
  refine wp_gd hO (sh_Lw L hb) (wp_gI hO (sh_Lw L hb) ?_)
  rw [h0]
  refine wp_neg (by omega) (wp_R2_1 hO hb (wp_gI hO (sh_Lw L hb) ?_))
  rw [h0]
  refine wp_wI hO (sh_Lw_1 L hb) (by omega) ?_
  rw [Int.toNat_natCast]
  generalize hw1 : sI w (b + 1) z x = w1
  have hO1 : Ok L wl dr 7 w1 := by rw [← hw1]; exact hO.sI
  have z1 : wI w1 b 0 = (z : Int) := by rw [← hw1, wI_ne (by omega), h0]
  refine wp_R2_2 hO1 hb (wp_gI hO1 (sh_Lw L hb) ?_)
  rw [z1]
  refine wp_wI hO1 (sh_Lw_2 L hb) (by omega) ?_
  rw [Int.toNat_natCast]
  generalize hw2 : sI w1 (b + 2) z y = w2
  have hO2 : Ok L wl dr 7 w2 := by rw [← hw2]; exact hO1.sI
  have z2 : wI w2 b 0 = (z : Int) := by rw [← hw2, wI_ne (by omega), z1]
  refine wp_gI hO2 (sh_Lw L hb) ?_
  rw [z2, w32_id (by omega) (by omega)]
  refine wp_pI hO2 (sh_Lw L hb) (wp_ret ⟨?_, ?_, ?_, ?_⟩)
  · rw [← hw2, ← hw1]
    exact ((fr_sI (by omega)).sI (by omega)).sI (by omega)
  · rw [wI_eq]; omega
  · rw [wI_ne (by omega), ← hw2, wI_ne (by omega), ← hw1, wI_eq]
  · rw [wI_ne (by omega), ← hw2, wI_eq]
end CR
