/-! Level 4: the law's loop. -/
section LW
variable {L : Nat} {w : Wd} {Y Y1 : Int} {Q : Int × Wd → Prop} {K : Wd → Option (Int × Wd)}
theorem rd_1 {j : Int} {β : Type} {F : Int → Option β} {R : β → Prop} (hs : wsh w 1 = (30, L)) (hj : 0 ≤ j ∧ j < (L : Int)) (kk : Wp (F (wI w 1 j.toNat)) R) : Wp ((rdI w 1 j).bind F) R := wp_eq (by unfold rdI; rw [hs, if_pos ⟨Or.inr rfl, hj⟩]) kk
theorem k0_rf (hs : wsh w 1 = (30, L)) : K0 w w := ⟨by rw [hs], rfl, rfl⟩
theorem rd_2 {w1 : Wd} {j : Int} {β : Type} {F : Int → Option β} {R : β → Prop} (hs : wsh w 1 = (30, L)) (hk : K0 w w1) (hj : 0 ≤ j ∧ j < (L : Int)) (kk : Wp (F (wI w 1 j.toNat)) R) : Wp ((rdI w1 1 j).bind F) R := rd_1 (hk.2.1.trans hs) hj (by rw [hk.2.2]; exact kk)
theorem st_end {f g : Wd → Option (Int × Wd)} {r : Int × Wd} (hc : Wp (g r.2) (fun q => q.1 = r.1 ∧ INV L q.2 Y1 ∧ wn q.2 = wn w ∧ wz q.2 = wz w)) (kk : ∀ w2, INV L w2 Y1 → wn w2 = wn w → wz w2 = wz w → Wp (K w2) Q) : Wp ((g r.2).bind fun q => if r.1 = q.1 then K q.2 else some (0, q.2)) Q :=
  wp_call hc (fun q h => wp_pos h.1.symm (kk q.2 h.2.1 h.2.2.1 h.2.2.2))
theorem st_0 {f g : Wd → Option (Int × Wd)} (hc : CALL L w Y1 f g) (kk : ∀ w2, INV L w2 Y1 → wn w2 = wn w → wz w2 = wz w → Wp (K w2) Q) : Wp ((f w).bind fun r => (g r.2).bind fun q => if r.1 = q.1 then K q.2 else some (0, q.2)) Q :=
  wp_call hc (fun r h => st_end (f := f) h kk)
theorem st_1 {f g : Int → Wd → Option (Int × Wd)} {j0 : Int} (hs : wsh w 1 = (30, L)) (h0 : 0 ≤ j0 ∧ j0 < (L : Int)) (hc : ∀ v0, CALL L w Y1 (f v0) (g v0)) (hg : ∀ v0, GkP w (f v0 w)) (kk : ∀ w2, INV L w2 Y1 → wn w2 = wn w → wz w2 = wz w → Wp (K w2) Q) : Wp ((rdI w 1 j0).bind fun v0 => (f v0 w).bind fun r => (rdI r.2 1 j0).bind fun u0 => (g u0 r.2).bind fun q => if r.1 = q.1 then K q.2 else some (0, q.2)) Q := by
  refine rd_1 hs h0 (?_)
  obtain ⟨r, e, h⟩ := hc (wI w 1 j0.toNat)
  have k := hg (wI w 1 j0.toNat) r e
  refine wp_eq e (rd_2 hs k h0 (?_))
  exact st_end (f := f (wI w 1 j0.toNat)) (g := g (wI w 1 j0.toNat)) h kk
theorem st_2 {f g : Int → Int → Wd → Option (Int × Wd)} {j0 j1 : Int} (hs : wsh w 1 = (30, L)) (h0 : 0 ≤ j0 ∧ j0 < (L : Int)) (h1 : 0 ≤ j1 ∧ j1 < (L : Int)) (hc : ∀ v0 v1, CALL L w Y1 (f v0 v1) (g v0 v1)) (hg : ∀ v0 v1, GkP w (f v0 v1 w)) (kk : ∀ w2, INV L w2 Y1 → wn w2 = wn w → wz w2 = wz w → Wp (K w2) Q) : Wp ((rdI w 1 j0).bind fun v0 => (rdI w 1 j1).bind fun v1 => (f v0 v1 w).bind fun r => (rdI r.2 1 j0).bind fun u0 => (rdI r.2 1 j1).bind fun u1 => (g u0 u1 r.2).bind fun q => if r.1 = q.1 then K q.2 else some (0, q.2)) Q := by
  refine rd_1 hs h0 (rd_1 hs h1 (?_))
  obtain ⟨r, e, h⟩ := hc (wI w 1 j0.toNat) (wI w 1 j1.toNat)
  have k := hg (wI w 1 j0.toNat) (wI w 1 j1.toNat) r e
  refine wp_eq e (rd_2 hs k h0 (rd_2 hs k h1 (?_)))
  exact st_end (f := f (wI w 1 j0.toNat) (wI w 1 j1.toNat)) (g := g (wI w 1 j0.toNat) (wI w 1 j1.toNat)) h kk
theorem st_3 {f g : Int → Int → Int → Wd → Option (Int × Wd)} {j0 j1 j2 : Int} (hs : wsh w 1 = (30, L)) (h0 : 0 ≤ j0 ∧ j0 < (L : Int)) (h1 : 0 ≤ j1 ∧ j1 < (L : Int)) (h2 : 0 ≤ j2 ∧ j2 < (L : Int)) (hc : ∀ v0 v1 v2, CALL L w Y1 (f v0 v1 v2) (g v0 v1 v2)) (hg : ∀ v0 v1 v2, GkP w (f v0 v1 v2 w)) (kk : ∀ w2, INV L w2 Y1 → wn w2 = wn w → wz w2 = wz w → Wp (K w2) Q) : Wp ((rdI w 1 j0).bind fun v0 => (rdI w 1 j1).bind fun v1 => (rdI w 1 j2).bind fun v2 => (f v0 v1 v2 w).bind fun r => (rdI r.2 1 j0).bind fun u0 => (rdI r.2 1 j1).bind fun u1 => (rdI r.2 1 j2).bind fun u2 => (g u0 u1 u2 r.2).bind fun q => if r.1 = q.1 then K q.2 else some (0, q.2)) Q := by
  refine rd_1 hs h0 (rd_1 hs h1 (rd_1 hs h2 (?_)))
  obtain ⟨r, e, h⟩ := hc (wI w 1 j0.toNat) (wI w 1 j1.toNat) (wI w 1 j2.toNat)
  have k := hg (wI w 1 j0.toNat) (wI w 1 j1.toNat) (wI w 1 j2.toNat) r e
  refine wp_eq e (rd_2 hs k h0 (rd_2 hs k h1 (rd_2 hs k h2 (?_))))
  exact st_end (f := f (wI w 1 j0.toNat) (wI w 1 j1.toNat) (wI w 1 j2.toNat)) (g := g (wI w 1 j0.toNat) (wI w 1 j1.toNat) (wI w 1 j2.toNat)) h kk
theorem st_5 {f g : Int → Int → Int → Int → Int → Wd → Option (Int × Wd)} {j0 j1 j2 j3 j4 : Int} (hs : wsh w 1 = (30, L)) (h0 : 0 ≤ j0 ∧ j0 < (L : Int)) (h1 : 0 ≤ j1 ∧ j1 < (L : Int)) (h2 : 0 ≤ j2 ∧ j2 < (L : Int)) (h3 : 0 ≤ j3 ∧ j3 < (L : Int)) (h4 : 0 ≤ j4 ∧ j4 < (L : Int)) (hc : ∀ v0 v1 v2 v3 v4, CALL L w Y1 (f v0 v1 v2 v3 v4) (g v0 v1 v2 v3 v4)) (hg : ∀ v0 v1 v2 v3 v4, GkP w (f v0 v1 v2 v3 v4 w)) (kk : ∀ w2, INV L w2 Y1 → wn w2 = wn w → wz w2 = wz w → Wp (K w2) Q) : Wp ((rdI w 1 j0).bind fun v0 => (rdI w 1 j1).bind fun v1 => (rdI w 1 j2).bind fun v2 => (rdI w 1 j3).bind fun v3 => (rdI w 1 j4).bind fun v4 => (f v0 v1 v2 v3 v4 w).bind fun r => (rdI r.2 1 j0).bind fun u0 => (rdI r.2 1 j1).bind fun u1 => (rdI r.2 1 j2).bind fun u2 => (rdI r.2 1 j3).bind fun u3 => (rdI r.2 1 j4).bind fun u4 => (g u0 u1 u2 u3 u4 r.2).bind fun q => if r.1 = q.1 then K q.2 else some (0, q.2)) Q := by
  refine rd_1 hs h0 (rd_1 hs h1 (rd_1 hs h2 (rd_1 hs h3 (rd_1 hs h4 (?_)))))
  obtain ⟨r, e, h⟩ := hc (wI w 1 j0.toNat) (wI w 1 j1.toNat) (wI w 1 j2.toNat) (wI w 1 j3.toNat) (wI w 1 j4.toNat)
  have k := hg (wI w 1 j0.toNat) (wI w 1 j1.toNat) (wI w 1 j2.toNat) (wI w 1 j3.toNat) (wI w 1 j4.toNat) r e
  refine wp_eq e (rd_2 hs k h0 (rd_2 hs k h1 (rd_2 hs k h2 (rd_2 hs k h3 (rd_2 hs k h4 (?_))))))
  exact st_end (f := f (wI w 1 j0.toNat) (wI w 1 j1.toNat) (wI w 1 j2.toNat) (wI w 1 j3.toNat) (wI w 1 j4.toNat)) (g := g (wI w 1 j0.toNat) (wI w 1 j1.toNat) (wI w 1 j2.toNat) (wI w 1 j3.toNat) (wI w 1 j4.toNat)) h kk
theorem w32_ix {i : Nat} {k : Int} (c : 6 * (i : Int) ≤ (L : Int) - 6) (hL : L ≤ 3072) (hk : 1 ≤ k ∧ k ≤ 5) : 0 ≤ w32 (6 * (i : Int) + k) ∧ w32 (6 * (i : Int) + k) < (L : Int) := by
  rw [w32_id (by omega) (by omega)]
  omega
theorem law_loop (hL : L ≤ 3072) {w0 : Wd} : ∀ (r m i : Nat) (w : Wd), i + r = 513 → r < m → INV L w (100 * (i : Int)) → wn w = wn w0 → wz w = wz w0 → Wp (La_law_18 m 1 6 223 (6 * (i : Int)) w) (fun q => q.1 = 1 ∧ wn q.2 = wn w0 ∧ wz q.2 = wz w0)
  | r, 0, i, w, _, hm, _, _, _ => absurd hm (by omega)
  | r, m + 1, i, w, hi, hm, h, hn, hz => by
    have hO : ∃ wl dr tx, Ok L wl dr tx w := by
      obtain ⟨wl, dr, tx, s, V, σ, h1, -⟩ := h
      exact ⟨wl, dr, tx, h1⟩
    have hs : wsh w 1 = (30, L) := by
      obtain ⟨wl, dr, tx, h1⟩ := hO
      rw [h1.1]
      rfl
    have hk := k0_rf hs
    rw [La_law_18]
    refine x_al hs (by decide) ?_
    rw [w32_id (z := (L : Int) - 6) (by omega) (by omega)]
    refine wp_ite (fun _ => wp_ret ⟨rfl, hn, hz⟩) (fun c => ?_)
    have c : 6 * (i : Int) ≤ (L : Int) - 6 := by omega
    have j1 := w32_ix (k := 1) c hL (by omega)
    have j2 := w32_ix (k := 2) c hL (by omega)
    have j3 := w32_ix (k := 3) c hL (by omega)
    have j4 := w32_ix (k := 4) c hL (by omega)
    have j5 := w32_ix (k := 5) c hL (by omega)
    have kz : ∀ v, INV L v (100 * (i : Int) + 100) → wn v = wn w → wz v = wz w → Wp (La_law_1045 (La_law_18 m) 1 6 223 (6 * (i : Int)) v) (fun q => q.1 = 1 ∧ wn q.2 = wn w0 ∧ wz q.2 = wz w0) := fun v hv q1 q2 => by
      unfold La_law_1045
      rw [w32_id (by omega) (by omega), show 6 * (i : Int) + 6 = 6 * ((i + 1 : Nat) : Int) by omega]
      exact law_loop hL (r - 1) m (i + 1) v (by omega) (by omega) (by rw [show 100 * ((i + 1 : Nat) : Int) = 100 * (i : Int) + 100 by omega]; exact hv) (q1.trans hn) (q2.trans hz)
    have kk : ∀ v, INV L v (100 * (i : Int)) → wn v = wn w → wz v = wz w → Wp (La_law_1045 (La_law_18 m) 1 6 223 (6 * (i : Int)) v) (fun q => q.1 = 1 ∧ wn q.2 = wn w0 ∧ wz q.2 = wz w0) := fun v hv => kz v (inv_mono hv (by omega))
    refine rd_1 hs (by omega) ?_
    generalize oand (wI w 1 (6 * (i : Int)).toNat) 31 = z
    refine wp_ite (fun _ => st_5 (f := Hh_feed 6) (g := Mo_feed 223) hs j1 j2 j3 j4 j5 (fun _ _ _ _ _ => call_feed h) (fun _ _ _ _ _ => g_Hh_feed hk) kk) (fun _ => ?_)
    refine wp_ite (fun _ => st_1 (f := Hh_back 6) (g := Mo_back 223) hs j1 (fun _ => call_back h) (fun _ => g_Hh_back hk) kk) (fun _ => ?_)
    refine wp_ite (fun _ => st_0 (f := Hh_read 6) (g := Mo_read 223) (call_read h) kk) (fun _ => ?_)
    refine wp_ite (fun _ => st_0 (f := Hh_place 6) (g := Mo_place 223) (call_place h) kk) (fun _ => ?_)
    refine wp_ite (fun _ => st_1 (f := Hh_hand 6) (g := Mo_hand 223) hs j1 (fun _ => call_hand h) (fun _ => g_Hh_hand hk) kk) (fun _ => ?_)
    refine wp_ite (fun _ => st_3 (f := Hh_shape 6) (g := Mo_shape 223) hs j1 j2 j3 (fun _ _ _ => call_shape h) (fun _ _ _ => g_Hh_shape hk) kk) (fun _ => ?_)
    refine wp_ite (fun _ => st_2 (f := Hh_heir 6) (g := Mo_heir 223) hs j1 j2 (fun _ _ => call_heir h) (fun _ _ => g_Hh_heir hk) kk) (fun _ => ?_)
    refine wp_ite (fun _ => st_2 (f := Hh_unlike 6) (g := Mo_unlike 223) hs j1 j2 (fun _ _ => call_unlike h) (fun _ _ => g_Hh_unlike hk) kk) (fun _ => ?_)
    refine wp_ite (fun _ => st_1 (f := Hh_vote 6) (g := Mo_vote 223) hs j1 (fun _ => call_vote h) (fun _ => g_Hh_vote hk) kk) (fun _ => ?_)
    refine wp_ite (fun _ => st_0 (f := Hh_judge 6) (g := Mo_judge 223) (call_judge h) kk) (fun _ => ?_)
    refine wp_ite (fun _ => st_3 (f := Hh_lesson 6) (g := Mo_lesson 223) hs j1 j2 j3 (fun _ _ _ => call_lesson h) (fun _ _ _ => g_Hh_lesson hk) kk) (fun _ => ?_)
    refine wp_ite (fun _ => st_1 (f := Hh_years 6) (g := Mo_years 223) hs j1 (fun _ => call_years h (by omega)) (fun _ => g_Hh_years hk) kz) (fun _ => ?_)
    refine wp_ite (fun _ => st_0 (f := Hh_undo 6) (g := Mo_undo 223) (call_undo h) kk) (fun _ => ?_)
    refine wp_ite (fun _ => st_2 (f := Hh_book 6) (g := Mo_book 223) hs j1 j2 (fun _ _ => call_book h) (fun _ _ => g_Hh_book hk) kk) (fun _ => ?_)
    refine wp_ite (fun _ => st_2 (f := Hh_plan 6) (g := Mo_plan 223) hs j1 j2 (fun _ _ => call_plan h) (fun _ _ => g_Hh_plan hk) kk) (fun _ => ?_)
    refine wp_ite (fun _ => st_3 (f := Hh_planOf 6) (g := Mo_planOf 223) hs j1 j2 j3 (fun _ _ _ => call_planOf h) (fun _ _ _ => g_Hh_planOf hk) kk) (fun _ => ?_)
    refine wp_ite (fun _ => st_1 (f := Hh_needs 6) (g := Mo_needs 223) hs j1 (fun _ => call_needs h) (fun _ => g_Hh_needs hk) kk) (fun _ => ?_)
    refine wp_ite (fun _ => st_1 (f := Hh_swing 6) (g := Mo_swing 223) hs j1 (fun _ => call_swing h) (fun _ => g_Hh_swing hk) kk) (fun _ => ?_)
    refine wp_ite (fun _ => st_2 (f := Hh_chance 6) (g := Mo_chance 223) hs j1 j2 (fun _ _ => call_chance h) (fun _ _ => g_Hh_chance hk) kk) (fun _ => ?_)
    refine wp_ite (fun _ => st_1 (f := Hh_without 6) (g := Mo_without 223) hs j1 (fun _ => call_without h) (fun _ => g_Hh_without hk) kk) (fun _ => ?_)
    refine wp_ite (fun _ => st_2 (f := Hh_bias 6) (g := Mo_bias 223) hs j1 j2 (fun _ _ => call_bias h) (fun _ _ => g_Hh_bias hk) kk) (fun _ => ?_)
    refine wp_ite (fun _ => st_3 (f := Hh_bestLetter 6) (g := Mo_bestLetter 223) hs j1 j2 j3 (fun _ _ _ => call_bestLetter h) (fun _ _ _ => g_Hh_bestLetter hk) kk) (fun _ => ?_)
    refine wp_ite (fun _ => st_1 (f := Hh_reign 6) (g := Mo_reign 223) hs j1 (fun _ => call_reign h) (fun _ => g_Hh_reign hk) kk) (fun _ => ?_)
    refine wp_ite (fun _ => st_2 (f := Hh_copied 6) (g := Mo_copied 223) hs j1 j2 (fun _ _ => call_copied h) (fun _ _ => g_Hh_copied hk) kk) (fun _ => ?_)
    refine wp_ite (fun _ => st_0 (f := Hh_nobody 6) (g := Mo_nobody 223) (call_nobody h) kk) (fun _ => ?_)
    refine wp_ite (fun _ => st_2 (f := Hh_tell 6) (g := Mo_tell 223) hs j1 j2 (fun _ _ => call_tell h) (fun _ _ => g_Hh_tell hk) kk) (fun _ => ?_)
    refine wp_ite (fun _ => st_0 (f := Hh_forget 6) (g := Mo_forget 223) (call_forget h) kk) (fun _ => ?_)
    refine wp_ite (fun _ => st_3 (f := Hh_dated 6) (g := Mo_dated 223) hs j1 j2 j3 (fun _ _ _ => call_dated h) (fun _ _ _ => g_Hh_dated hk) kk) (fun _ => ?_)
    refine wp_ite (fun _ => st_1 (f := Hh_hold 6) (g := Mo_hold 223) hs j1 (fun _ => call_hold h) (fun _ => g_Hh_hold hk) kk) (fun _ => ?_)
    refine wp_ite (fun _ => st_1 (f := Hh_restore 6) (g := Mo_restore 223) hs j1 (fun _ => call_restore h) (fun _ => g_Hh_restore hk) kk) (fun _ => ?_)
    refine wp_ite (fun _ => st_1 (f := Hh_count 6) (g := Mo_count 223) hs j1 (fun _ => call_count h) (fun _ => g_Hh_count hk) kk) (fun _ => ?_)
    exact kk w h rfl rfl
end LW
