/-! Level 3: what a letter costs in a plan, and the best share. -/
def pco (V : Vl) (σ : Sg) (h l : Nat) (p : Int) : Int := usum (fun m => una V σ m l (near (sp σ h l) (hd σ l) p)) (nm V)
theorem usum_bd {f : Nat → Int} {B : Int} (hf : ∀ m, 0 ≤ f m ∧ f m ≤ B) : ∀ n : Nat, (n : Int) * B < 2000000000 → 0 ≤ B → 0 ≤ usum f n ∧ usum f n ≤ (n : Int) * B
  | 0, _, _ => by unfold usum; omega
  | n + 1, hn, hB => by
    have e : ((n + 1 : Nat) : Int) * B = (n : Int) * B + B := by rw [show ((n + 1 : Nat) : Int) = (n : Int) + 1 by omega, Int.add_mul, Int.one_mul]
    rw [e] at hn ⊢
    have ih := usum_bd hf n (by omega) hB
    have h1 := hf n
    unfold usum
    rw [w32_id (by omega) (by omega)]
    omega
theorem una_bd (V : Vl) (σ : Sg) (m l : Nat) (own : Int) : 0 ≤ una V σ m l own ∧ una V σ m l own ≤ 999 := by unfold una cl; omega
theorem pco_bd {V : Vl} {σ : Sg} {h l : Nat} {p : Int} (hV : VOK V) : 0 ≤ pco V σ h l p ∧ pco V σ h l p ≤ 2997 := by
  have h3 := hV.2.2.1
  have := usum_bd (B := 999) (fun m => una_bd V σ m l (near (sp σ h l) (hd σ l) p)) (nm V) (by omega) (by omega)
  unfold pco
  omega
/-- among 0..n the greatest k with which f is least, sought from n down -/
def bs (f : Nat → Int) (n : Nat) : Nat → Nat
  | 0 => n
  | r + 1 => if f (n - (r + 1)) < f (bs f n r) then n - (r + 1) else bs f n r
theorem bs_le (f : Nat → Int) (n : Nat) : ∀ r, bs f n r ≤ n
  | 0 => Nat.le_refl n
  | r + 1 => by
    have := bs_le f n r
    unfold bs
    split <;> omega
theorem bs_min (f : Nat → Int) (n : Nat) : ∀ r, r ≤ n → ∀ k, n - r ≤ k → k ≤ n → f (bs f n r) ≤ f k ∧ (bs f n r < k → f (bs f n r) < f k)
  | 0, _, k, h1, h2 => by
    have : k = n := by omega
    subst this
    unfold bs
    exact ⟨Int.le_refl _, fun x => absurd x (by omega)⟩
  | r + 1, hr, k, h1, h2 => by
    have ih := bs_min f n r (by omega)
    have bl := bs_le f n r
    by_cases q : f (n - (r + 1)) < f (bs f n r)
    · have e : bs f n (r + 1) = n - (r + 1) := if_pos q
      rw [e]
      by_cases p : k = n - (r + 1)
      · subst p; exact ⟨Int.le_refl _, fun x => absurd x (by omega)⟩
      · have := ih k (by omega) h2
        exact ⟨by omega, fun _ => by omega⟩
    · have e : bs f n (r + 1) = bs f n r := if_neg q
      rw [e]
      by_cases p : k = n - (r + 1)
      · subst p
        refine ⟨by omega, fun x => ?_⟩
        have : n - r ≤ bs f n r := bs_ge f n r (by omega)
        omega
      · exact ih k (by omega) h2
where
  bs_ge (f : Nat → Int) (n : Nat) : ∀ r, r ≤ n → n - r ≤ bs f n r
  | 0, _ => Nat.le_refl n
  | r + 1, hr => by
    have := bs_ge f n r (by omega)
    unfold bs
    split <;> omega
section P1
variable {L wl dr tx b v s : Nat} {V : Vl} {σ : Sg} {w : Wd} {lt nM nH oH oL : Int}
theorem c_cost22 {ρ : Nat → Int} (hV : VOK V) (hv : isWi v) : ∀ (r n m : Nat) (w : Wd), m + r = nm V → r < n → Ok L wl dr tx w → CW w v V → (∀ i : Nat, i < 7 → wI w (v + 7 + 3) (cix (i : Int)).toNat = ρ i) →
    Wp (Pl_cost_22 n v (usum (fun m => cl 0 999 (levo ρ (lo V m))) m) (m : Int) w) (fun r => r.1 = usum (fun m => cl 0 999 (levo ρ (lo V m))) (nm V) ∧ Fr (PL v) w r.2)
  | r, 0, m, w, _, hn, _, _, _ => absurd hn (by omega)
  | 0, n + 1, m, w, hm, hn, hO, hW, hr => by
    rw [Pl_cost_22]
    refine wp_gI hO (sh_Wi L hv) ?_
    rw [hW.1.2.2.1]
    refine wp_pos (by omega) (wp_ret ⟨?_, Fr.rf w⟩)
    rw [show m = nm V by omega]
  | r + 1, n + 1, m, w, hm, hn, hO, hW, hr => by
    have h3 := hV.2.2.1
    rw [Pl_cost_22]
    refine wp_gI hO (sh_Wi L hv) ?_
    rw [hW.1.2.2.1]
    refine wp_neg (by omega) (wp_call (c_toldBy hV hO hv hW (by omega) hr) (fun r1 h1 => ?_))
    rw [h1.1, w32_id (z := (m : Int) + 1) (by omega) (by omega), show (m : Int) + 1 = ((m + 1 : Nat) : Int) by omega]
    have f1 : Fr (PL v) w r1.2 := h1.2.mono (fun a k q => Or.inr q)
    exact wp_use (c_cost22 hV hv r n (m + 1) r1.2 (by omega) (by omega) (f1.ok hO) (hW.eq (fun a k q1 q2 => f1.at a k (by unfold PL; omega))) (fun i hi => (h1.2.at _ _ (by unfold PC0; omega)).trans (hr i hi))) (fun r2 h2 => ⟨h2.1, f1.tr h2.2⟩)
theorem c_cost {h l : Nat} {p : Int} (hV : VOK V) (hK : SOK V σ) (hv : isWi v) (hb : isSt b) (hO : Ok L wl dr tx w) (hW : CW w v V) (hS : CS w b V σ) (hh : h < nh V) (hl : l < nl V) (hp : 0 ≤ p) :
    Wp (Pl_cost 186 v b (h : Int) (l : Int) p w) (fun r => r.1 = pco V σ h l p ∧ Fr (PL v) w r.2) := by
  unfold Pl_cost Pl_cost_0
  generalize hFU : FU = fu; have hfu : 1000000 = fu := hFU
  refine wp_gd hO rfl (wp_eq (c_nearer hV hK hO hb hS hh hl hp) ?_)
  refine wp_call (c_show hV hK hO hb hv hS hl (near_bd (hK.2.1 h hh l hl) (hK.1 l hl) hp)) (fun w1 h1 => ?_)
  have f1 : Fr (PL v) w w1 := h1.1.mono (fun a k q => Or.inl q)
  exact wp_use (c_cost22 hV hv (nm V) fu 0 w1 (by omega) (by have := hV.2.2.1; omega) (f1.ok hO) (hW.eq (fun a k q1 q2 => f1.at a k (by unfold PL; omega))) h1.2) (fun r2 h2 => ⟨h2.1, f1.tr h2.2⟩)
theorem m_sb61 {l : Nat} {own : Int} (hV : VOK V) (hK : SOK V σ) (hl : l < nl V) (ho : 0 ≤ own ∧ own ≤ 99) : ∀ (r n m : Nat) (w : Wd), m + r = nm V → r < n → Ok L wl dr tx w → MC w s V σ lt nM nH oH oL →
    Wp (Mo_sumBehind_61 n 223 (l : Int) own (usum (fun m => una V σ m l own) m) (m : Int) w) (fun r => r.1 = usum (fun m => una V σ m l own) (nm V) ∧ Fr PM1 w r.2)
  | r, 0, m, w, _, hn, _, _ => absurd hn (by omega)
  | 0, n + 1, m, w, hm, hn, hO, hM => by
    have hs := hM.2.1.1
    rw [Mo_sumBehind_61]
    refine wp_R12_29 hO (wp_gI hO rfl ?_)
    rw [hM.1]
    refine wp_rI hO rfl (by omega) ?_
    rw [Int.toNat_natCast, hM.2.1.2.1.2.2.1]
    refine wp_pos (by omega) (wp_ret ⟨?_, Fr.rf w⟩)
    rw [show m = nm V by omega]
  | r + 1, n + 1, m, w, hm, hn, hO, hM => by
    have h3 := hV.2.2.1
    have hs := hM.2.1.1
    rw [Mo_sumBehind_61]
    refine wp_R12_29 hO (wp_gI hO rfl ?_)
    rw [hM.1]
    refine wp_rI hO rfl (by omega) ?_
    rw [Int.toNat_natCast, hM.2.1.2.1.2.2.1]
    refine wp_neg (by omega) (wp_call (m_unlikeOf hV hK hO hM (by omega) hl ho) (fun r1 h1 => ?_))
    rw [h1.1, w32_id (z := (m : Int) + 1) (by omega) (by omega), show (m : Int) + 1 = ((m + 1 : Nat) : Int) by omega]
    exact wp_use (m_sb61 hV hK hl ho r n (m + 1) r1.2 (by omega) (by omega) (h1.2.ok hO) (hM.fr hV h1.2)) (fun r2 h2 => ⟨h2.1, h1.2.tr h2.2⟩)
theorem m_sumBehind {h l N : Nat} (hV : VOK V) (hK : SOK V σ) (hO : Ok L wl dr tx w) (hM : MC w s V σ lt nM nH oH oL) (hh : h < nh V) (hl : l < nl V) (hN : N ≤ 1000) : Wp (Mo_sumBehind 223 (h : Int) (l : Int) (N : Int) w) (fun r => r.1 = pco V σ h l ((N : Int) * sk V h) ∧ Fr PM1 w r.2) := by
  have h6 := hV.1
  have h7 := hV.2.1
  have hsk := (hV.2.2.2.2.1 h hh).1
  have e1 : w32 (w32 (6 + w32 (6 * (h : Int))) + (l : Int)) = ((6 + 6 * h + l : Nat) : Int) := by
    rw [w32_id (z := 6 * (h : Int)) (by omega) (by omega), w32_id (z := 6 + 6 * (h : Int)) (by omega) (by omega), w32_id (by omega) (by omega)]; omega
  unfold Mo_sumBehind Mo_sumBehind_0
  generalize hFU : FU = fu; have hfu : 1000000 = fu := hFU
  rw [e1]
  refine wp_gd hO rfl (wp_R12_50 hO (wp_rI hO rfl (by omega) ?_))
  rw [Int.toNat_natCast]
  refine wp_call (m_lessons hV hK hO hM hh hl hN) (fun w1 g => ?_)
  have hO1 := g.1.ok hO
  refine wp_R12_50 hO1 (wp_rI hO1 rfl (by omega) (wp_R12_50 hO1 (wp_wI hO1 rfl (by omega) ?_)))
  rw [Int.toNat_natCast, g.2.1]
  generalize hw2 : sI w1 256 (6 + 6 * h + l) (wI w 256 (6 + 6 * h + l)) = w2
  have n2 : ∀ a k, wI w2 a k = wI w a k := fun a k => by
    rw [← hw2, wI_sI]
    by_cases q : a = 256 ∧ k = 6 + 6 * h + l
    · rw [if_pos q, q.1, q.2]
    · rw [if_neg q]; exact g.1.at a k (by unfold PR; omega)
  have f2 : Fr PM1 w w2 := by
    have f3 : Fr (PR (6 + 6 * h + l)) w w2 := by rw [← hw2]; exact g.1.sI ⟨rfl, rfl⟩
    exact ⟨f3.1, f3.2.1, f3.2.2.1, f3.2.2.2.1, fun a k _ => n2 a k⟩
  exact wp_use (m_sb61 hV hK hl (near_bd (hK.2.1 h hh l hl) (hK.1 l hl) (Int.mul_nonneg (by omega) hsk.1)) (nm V) fu 0 w2 (by omega) (by have := hV.2.2.1; omega) (f2.ok hO) (hM.fr hV f2)) (fun r2 h2 => ⟨h2.1, f2.tr h2.2⟩)
end P1
