/-! Level 3, the reference: votes and the judgement. -/
theorem vo_ne (U : Nat → Nat → Int) (m : Nat) (no : Int) : ∀ n, 0 ≤ vo U m no n → vo U m no n ≠ no
  | 0, h => by unfold vo at h; omega
  | n + 1, h => by
    have := vo_ne U m no n
    unfold vo at h ⊢
    split
    · rename_i q; rw [if_pos q] at h; exact this h
    · rename_i q
      rw [if_neg q] at h
      split
      · exact q
      · rename_i q2
        rw [if_neg q2] at h
        split
        · exact q
        · rename_i q3; rw [if_neg q3] at h; exact this h
theorem vo_none (U : Nat → Nat → Int) (m : Nat) (no : Int) : ∀ n, vo U m no n < 0 → ∀ h : Nat, h < n → (h : Int) = no
  | 0, _, h, hh => absurd hh (by omega)
  | n + 1, hv, h, hh => by
    have ih := vo_none U m no n
    unfold vo at hv
    split at hv
    · rename_i q
      by_cases p : h = n
      · rw [p]; exact q
      · exact ih hv h (by omega)
    · split at hv
      · omega
      · split at hv
        · omega
        · rename_i q2 _; exact absurd hv q2
theorem tl_zero {U : Nat → Nat → Int} {hs : Nat} {noH noM : Int} {h : Nat} : ∀ n, (∀ m : Nat, m < n → (m : Int) ≠ noM → vo U m noH hs ≠ (h : Int)) → tl U hs noH noM h n = 0
  | 0, _ => rfl
  | n + 1, hn => by
    unfold tl
    rw [if_neg (fun p => hn n (by omega) p.1 p.2)]
    exact tl_zero n (fun m hm => hn m (by omega))
theorem tl_pos {U : Nat → Nat → Int} {hs : Nat} {noH noM : Int} {h : Nat} : ∀ n (m : Nat), m < n → (m : Int) ≠ noM → vo U m noH hs = (h : Int) → 0 < tl U hs noH noM h n
  | 0, m, hm, _, _ => absurd hm (by omega)
  | n + 1, m, hm, h1, h2 => by
    have tb := tl_bd U hs noH noM h n
    unfold tl
    by_cases p : m = n
    · subst p
      rw [if_pos ⟨h1, h2⟩]; omega
    · have := tl_pos (U := U) (hs := hs) (noH := noH) (noM := noM) (h := h) n m (by omega) h1 h2
      split <;> omega
/-- the best as the reference seeks it -/
def mb (T S : Nat → Int) (nH : Int) : Nat → Int
  | 0 => -1
  | n + 1 => if (n : Int) = nH ∨ (0 ≤ mb T S nH n ∧ T n < T (mb T S nH n).toNat) then mb T S nH n else if 0 ≤ mb T S nH n ∧ T n = T (mb T S nH n).toNat ∧ S (mb T S nH n).toNat ≤ S n then mb T S nH n else (n : Int)
theorem mb_bd (T S : Nat → Int) (nH : Int) : ∀ n, -1 ≤ mb T S nH n ∧ mb T S nH n < (n : Int)
  | 0 => by unfold mb; omega
  | n + 1 => by
    have := mb_bd T S nH n
    unfold mb
    split
    · omega
    · split <;> omega
theorem aw_pos (T S : Nat → Int) : ∀ n, 0 ≤ aw T S n → 0 < T (aw T S n).toNat
  | 0, h => by unfold aw at h; omega
  | n + 1, h => by
    have := aw_pos T S n
    have e1 : aw T S (n + 1) = if 0 < T n ∧ (aw T S n < 0 ∨ (if T n = T (aw T S n).toNat then S n < S (aw T S n).toNat else T (aw T S n).toNat < T n)) then (n : Int) else aw T S n := rfl
    by_cases c : (0 < T n ∧ (aw T S n < 0 ∨ (if T n = T (aw T S n).toNat then S n < S (aw T S n).toNat else T (aw T S n).toNat < T n)))
    · rw [if_pos c] at e1; rw [e1, Int.toNat_natCast]; exact c.1
    · rw [if_neg c] at e1; rw [e1] at h ⊢; exact this h
theorem aw_none (T S : Nat → Int) : ∀ n, aw T S n < 0 → ∀ h, h < n → T h ≤ 0
  | 0, _, h, hh => absurd hh (by omega)
  | n + 1, ha, h, hh => by
    have ih := aw_none T S n
    have e1 : aw T S (n + 1) = if 0 < T n ∧ (aw T S n < 0 ∨ (if T n = T (aw T S n).toNat then S n < S (aw T S n).toNat else T (aw T S n).toNat < T n)) then (n : Int) else aw T S n := rfl
    by_cases c : (0 < T n ∧ (aw T S n < 0 ∨ (if T n = T (aw T S n).toNat then S n < S (aw T S n).toNat else T (aw T S n).toNat < T n)))
    · rw [if_pos c] at e1; omega
    · rw [if_neg c] at e1
      rw [e1] at ha
      by_cases p : h = n
      · rw [p]
        exact Decidable.byContradiction (fun x => c ⟨by omega, Or.inl ha⟩)
      · exact ih ha h (by omega)
theorem mb_aw {T S : Nat → Int} {nH : Int} (h0 : ∀ h, 0 ≤ T h) (hn : ∀ h : Nat, (h : Int) = nH → T h = 0) : ∀ n, (0 ≤ aw T S n → mb T S nH n = aw T S n) ∧ (aw T S n < 0 → mb T S nH n < 0 ∨ T (mb T S nH n).toNat = 0)
  | 0 => ⟨fun _ => rfl, fun _ => Or.inl (by unfold mb; omega)⟩
  | n + 1 => by
    obtain ⟨i1, i2⟩ := mb_aw (S := S) h0 hn n
    have ap := aw_pos T S n
    have b1 := mb_bd T S nH n
    have b2 := aw_bd T S n
    have tn := h0 n
    have e1 : aw T S (n + 1) = if 0 < T n ∧ (aw T S n < 0 ∨ (if T n = T (aw T S n).toNat then S n < S (aw T S n).toNat else T (aw T S n).toNat < T n)) then (n : Int) else aw T S n := rfl
    have e2 : mb T S nH (n + 1) = if (n : Int) = nH ∨ (0 ≤ mb T S nH n ∧ T n < T (mb T S nH n).toNat) then mb T S nH n else if 0 ≤ mb T S nH n ∧ T n = T (mb T S nH n).toNat ∧ S (mb T S nH n).toNat ≤ S n then mb T S nH n else (n : Int) := rfl
    by_cases ha : 0 ≤ aw T S n
    · have em := i1 ha
      have hp := ap ha
      rw [em] at e2
      have key : aw T S (n + 1) = mb T S nH (n + 1) ∧ 0 ≤ aw T S (n + 1) := by
        by_cases q : (n : Int) = nH
        · have := hn n q
          rw [if_neg (by omega)] at e1
          rw [if_pos (Or.inl q)] at e2
          omega
        · by_cases q1 : T n < T (aw T S n).toNat
          · rw [if_neg (fun p => by
              rcases p.2 with p2 | p2
              · omega
              · rw [if_neg (by omega)] at p2; omega)] at e1
            rw [if_pos (Or.inr ⟨ha, q1⟩)] at e2
            omega
          · rw [if_neg (by omega)] at e2
            by_cases q2 : T n = T (aw T S n).toNat
            · by_cases q3 : S n < S (aw T S n).toNat
              · rw [if_pos ⟨by omega, Or.inr (by rw [if_pos q2]; exact q3)⟩] at e1
                rw [if_neg (by omega)] at e2
                omega
              · rw [if_neg (fun p => by
                  rcases p.2 with p2 | p2
                  · omega
                  · rw [if_pos q2] at p2; omega)] at e1
                rw [if_pos ⟨ha, q2, by omega⟩] at e2
                omega
            · rw [if_pos ⟨by omega, Or.inr (by rw [if_neg q2]; omega)⟩] at e1
              rw [if_neg (by omega)] at e2
              omega
      exact ⟨fun _ => key.1.symm, fun x => absurd x (by omega)⟩
    · have i2' := i2 (by omega)
      by_cases q0 : 0 < T n
      · rw [if_pos ⟨q0, Or.inl (by omega)⟩] at e1
        have q : ¬ (n : Int) = nH := fun q => by have := hn n q; omega
        rw [if_neg (by
          intro p
          rcases p with p | p
          · exact q p
          · rcases i2' with x | x <;> omega)] at e2
        rw [if_neg (by
          intro p
          rcases i2' with x | x <;> omega)] at e2
        exact ⟨fun _ => by rw [e1, e2], fun x => absurd x (by omega)⟩
      · rw [if_neg (by omega)] at e1
        refine ⟨fun x => absurd x (by omega), fun _ => ?_⟩
        rw [e2]
        split
        · exact i2'
        · split
          · exact i2'
          · rw [Int.toNat_natCast]; exact Or.inr (by omega)
theorem mb_no {T S : Nat → Int} {nH : Int} : ∀ n, (∀ h : Nat, h < n → (h : Int) = nH) → mb T S nH n = -1
  | 0, _ => rfl
  | n + 1, h => by
    unfold mb
    rw [if_pos (Or.inl (h n (by omega)))]
    exact mb_no n (fun x hx => h x (by omega))
/-- what the reference answers is the judgement -/
theorem jd_mb {U : Nat → Nat → Int} {hs ms : Nat} {lim noH noM : Int} (hx : ∃ m : Nat, m < ms ∧ (m : Int) ≠ noM) :
    (if 0 ≤ mb (fun h => tl U hs noH noM h ms) (fun h => usk (U h) noM ms) noH hs ∧ lim < usk (U (mb (fun h => tl U hs noH noM h ms) (fun h => usk (U h) noM ms) noH hs).toNat) noM ms then -1 else mb (fun h => tl U hs noH noM h ms) (fun h => usk (U h) noM ms) noH hs) = jd U hs ms lim noH noM := by
  have h0 : ∀ h, 0 ≤ tl U hs noH noM h ms := fun h => (tl_bd U hs noH noM h ms).1
  have hn : ∀ h : Nat, (h : Int) = noH → tl U hs noH noM h ms = 0 := fun h hh => tl_zero ms (fun m _ _ hv => vo_ne U m noH hs (by omega) (by omega))
  have key := mb_aw (T := fun h => tl U hs noH noM h ms) (S := fun h => usk (U h) noM ms) h0 hn hs
  unfold jd
  by_cases q : 0 ≤ aw (fun h => tl U hs noH noM h ms) (fun h => usk (U h) noM ms) hs
  · rw [key.1 q]
  · have an := aw_none (fun h => tl U hs noH noM h ms) (fun h => usk (U h) noM ms) hs (by omega)
    have ab' := aw_bd (fun h => tl U hs noH noM h ms) (fun h => usk (U h) noM ms) hs
    obtain ⟨m, hm, hne⟩ := hx
    have vb := vo_bd U m noH hs
    have hvn : vo U m noH hs < 0 := Decidable.byContradiction (fun x => by
      have p := tl_pos (U := U) (hs := hs) (noH := noH) (noM := noM) (h := (vo U m noH hs).toNat) ms m hm hne (by omega)
      have : tl U hs noH noM (vo U m noH hs).toNat ms ≤ 0 := an (vo U m noH hs).toNat (by omega)
      omega)
    have em := mb_no (T := fun h => tl U hs noH noM h ms) (S := fun h => usk (U h) noM ms) (nH := noH) hs (vo_none U m noH hs hvn)
    rw [em, if_neg (by omega), if_neg (by omega)]
    omega
theorem jd_no {U : Nat → Nat → Int} {hs ms : Nat} {lim noH noM : Int} (hx : ∀ m : Nat, m < ms → (m : Int) = noM) : jd U hs ms lim noH noM = -1 := by
  have ab' := aw_bd (fun h => tl U hs noH noM h ms) (fun h => usk (U h) noM ms) hs
  have ap := aw_pos (fun h => tl U hs noH noM h ms) (fun h => usk (U h) noM ms) hs
  have hz : ∀ h, tl U hs noH noM h ms = 0 := fun h => tl_zero ms (fun m hm hne => absurd (hx m hm) hne)
  have hn : aw (fun h => tl U hs noH noM h ms) (fun h => usk (U h) noM ms) hs < 0 := Decidable.byContradiction (fun x => by
    have : 0 < tl U hs noH noM (aw (fun h => tl U hs noH noM h ms) (fun h => usk (U h) noM ms) hs).toNat ms := ap (by omega)
    rw [hz] at this
    omega)
  unfold jd
  rw [if_neg (by omega)]
  omega
def PM2 (a k : Nat) : Prop := a = 253 ∨ a = 254 ∨ (a = 223 ∧ k = 48) ∨ a = 257 ∨ a = 258
theorem pm12 {w w1 : Wd} (h : Fr PM1 w w1) : Fr PM2 w w1 := h.mono (fun a k q => by unfold PM1 at q; unfold PM2; omega)
theorem MC.fr2 {w w1 : Wd} {s : Nat} {V : Vl} {σ : Sg} {lt nM nH oH oL : Int} (hV : VOK V) (h : MC w s V σ lt nM nH oH oL) (f : Fr PM2 w w1) : MC w1 s V σ lt nM nH oH oL := h.eq hV (fun a k q => f.at a k (by unfold PM2; omega))
section M2
variable {L wl dr tx s : Nat} {V : Vl} {σ : Sg} {w : Wd} {lt nM nH oH oL : Int}
theorem m_vo7 {m : Nat} (hV : VOK V) (hK : SOK V σ) (hm : m < nm V) : ∀ (r n h : Nat) (x : Int) (w : Wd), h + r = nh V → r < n → Ok L wl dr tx w → MC w s V σ lt nM nH oH oL → (0 ≤ vo (ulk V σ lt) m nH h → x = ulk V σ lt (vo (ulk V σ lt) m nH h).toNat m) →
    Wp (Mo_voteOf_7 n 223 (m : Int) (vo (ulk V σ lt) m nH h) x (h : Int) w) (fun r => r.1 = vo (ulk V σ lt) m nH (nh V) ∧ Fr PM1 w r.2)
  | r, 0, h, x, w, _, hn, _, _, _ => absurd hn (by omega)
  | 0, n + 1, h, x, w, hh, hn, hO, hM, hx => by
    have hs := hM.2.1.1
    rw [Mo_voteOf_7]
    refine wp_R12_25 hO (wp_gI hO rfl ?_)
    rw [hM.1]
    refine wp_rI hO rfl (by omega) ?_
    rw [Int.toNat_natCast, hM.2.1.2.1.2.1]
    refine wp_pos (by omega) (wp_ret ⟨?_, Fr.rf w⟩)
    rw [show h = nh V by omega]
  | r + 1, n + 1, h, x, w, hh, hn, hO, hM, hx => by
    have h6 := hV.2.1
    have hs := hM.2.1.1
    rw [Mo_voteOf_7]
    refine wp_R12_25 hO (wp_gI hO rfl ?_)
    rw [hM.1]
    refine wp_rI hO rfl (by omega) ?_
    rw [Int.toNat_natCast, hM.2.1.2.1.2.1]
    refine wp_neg (by omega) (wp_gI hO rfl ?_)
    rw [hM.2.2.2.2.2.1]
    unfold Mo_voteOf_55 Mo_voteOf_61
    rw [w32_id (z := (h : Int) + 1) (by omega) (by omega), show (h : Int) + 1 = ((h + 1 : Nat) : Int) by omega]
    have e : vo (ulk V σ lt) m nH (h + 1) = if (h : Int) = nH then vo (ulk V σ lt) m nH h else if vo (ulk V σ lt) m nH h < 0 then (h : Int) else if ulk V σ lt h m < ulk V σ lt (vo (ulk V σ lt) m nH h).toNat m then (h : Int) else vo (ulk V σ lt) m nH h := rfl
    refine wp_ite (fun q => ?_) (fun q => ?_)
    · rw [if_pos q] at e
      rw [← e]
      exact m_vo7 hV hK hm r n (h + 1) x w (by omega) (by omega) hO hM (by rw [e]; exact hx)
    rw [if_neg q] at e
    refine wp_call (m_unlikeTo hV hK hO hM (by omega) hm) (fun r1 h1 => ?_)
    rw [h1.1]
    have go : ∀ y, (0 ≤ vo (ulk V σ lt) m nH (h + 1) → y = ulk V σ lt (vo (ulk V σ lt) m nH (h + 1)).toNat m) → Wp (Mo_voteOf_7 n 223 (m : Int) (vo (ulk V σ lt) m nH (h + 1)) y ((h + 1 : Nat) : Int) r1.2) (fun r => r.1 = vo (ulk V σ lt) m nH (nh V) ∧ Fr PM1 w r.2) := fun y hy =>
      wp_use (m_vo7 hV hK hm r n (h + 1) y r1.2 (by omega) (by omega) (h1.2.ok hO) (hM.fr hV h1.2) hy) (fun r2 h2 => ⟨h2.1, h1.2.tr h2.2⟩)
    refine wp_ite (fun q2 => ?_) (fun q2 => ?_)
    · rw [if_pos q2] at e
      have g := go (ulk V σ lt h m) (fun _ => by rw [e, Int.toNat_natCast])
      rw [e] at g
      exact g
    rw [if_neg q2] at e
    have ex := hx (by omega)
    refine wp_ite (fun q3 => ?_) (fun q3 => ?_)
    · rw [if_pos (by omega)] at e
      have g := go (ulk V σ lt h m) (fun _ => by rw [e, Int.toNat_natCast])
      rw [e] at g
      exact g
    · rw [if_neg (by omega)] at e
      have g := go x (fun _ => by rw [e]; exact ex)
      rw [e] at g
      exact g
theorem m_voteOf {m : Nat} (hV : VOK V) (hK : SOK V σ) (hO : Ok L wl dr tx w) (hM : MC w s V σ lt nM nH oH oL) (hm : m < nm V) : Wp (Mo_voteOf 223 (m : Int) w) (fun r => r.1 = vo (ulk V σ lt) m nH (nh V) ∧ Fr PM1 w r.2) := by
  have h6 := hV.2.1
  unfold Mo_voteOf Mo_voteOf_0
  generalize hFU : FU = fu; have hfu : 1000000 = fu := hFU
  exact wp_gd hO rfl (m_vo7 hV hK hm (nh V) fu 0 0 w (by omega) (by omega) hO hM (fun x => absurd x (by unfold vo; omega)))
end M2
