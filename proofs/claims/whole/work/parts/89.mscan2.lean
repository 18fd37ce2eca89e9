/-! Level 3, read: the reference's scanner as a whole. -/
section MD
variable {L wl dr tx : Nat} {w w0 : Wd} {B : Nat → Int} {N : Nat}
theorem adv_no {p : Int → Bool} {c : Nat → Int} {r i : Nat} (h : p (c i) = false) : adv p c r i = i := by
  cases r with
  | zero => rfl
  | succ r => exact if_neg (by rw [h]; decide)
theorem kdn8 {c : Nat → Int} {i : Nat} (h : ∀ j, j < 8 → bS (c (i + j)) = true) : kdn (nmv c i 8) = 1 := by
  have hb := (nmv_bd (c := c) (i := i) 8 (by omega) h).1
  have e : nlo 8 = 10862674480 := by decide
  rcases kdn_is (nmv c i 8) with ⟨j, a, b, d⟩ | ⟨a, b⟩
  · have := ky_bd j a
    omega
  · exact b
/-- one token more -/
def NXT (w0 w1 : Wd) (c : Nat → Int) (N j : Nat) : Prop := FL PMt QMt w0 w1 ∧ wI w1 223 10 = ((j + 1 : Nat) : Int) ∧ ∀ i, i < j + 1 → MROW w1 c N i
theorem nxt {w1 : Wd} {j : Nat} {c : Nat → Int} {k p v nm' : Int} (hF : FL PMt QMt w0 w) (hR : ∀ i, i < j → MROW w c N i) (g : FL (fun a i => ((a = 226 ∨ a = 227 ∨ a = 228) ∧ i = j) ∨ (a = 223 ∧ i = 10)) (fun a i => a = 229 ∧ i = j) w w1 ∧ wI w1 226 j = k ∧ wI w1 227 j = p ∧ wI w1 228 j = v ∧ wL w1 229 j = nm' ∧ wI w1 223 10 = ((j + 1 : Nat) : Int)) (h1 : k = (kK c N j : Int)) (h2 : p = (kP c N j : Int)) (h3 : kK c N j = 2 → v = kV c N j) (h4 : kK c N j = 1 → nm' = kN c N j) : NXT w0 w1 c N j := by
  obtain ⟨f, g1, g2, g3, g4, g5⟩ := g
  refine ⟨hF.tr (f.mono (fun a k q => by unfold PMt; omega) (fun a k q => by unfold QMt; omega)), g5, fun i hi => ?_⟩
  by_cases e : i = j
  · rw [e]
    exact ⟨g1.trans h1, g2.trans h2, fun q => g3.trans (h3 q), fun q => g4.trans (h4 q)⟩
  · obtain ⟨a1, a2, a3, a4⟩ := hR i (by omega)
    exact ⟨(f.i 226 i (by omega)).trans a1, (f.i 227 i (by omega)).trans a2, fun q => (f.i 228 i (by omega)).trans (a3 q), fun q => (f.l 229 i (by omega)).trans (a4 q)⟩
theorem m_sign {j i : Nat} {x : Int} (hO : Ok L wl dr tx w) (hj : j ≤ 400) (h10 : wI w 223 10 = (j : Int)) (y : Int) : Wp (Mo_sign 223 (i : Int) x y w) (fun q => q.1 = 1 ∧ (FL (fun a i => ((a = 226 ∨ a = 227 ∨ a = 228) ∧ i = j) ∨ (a = 223 ∧ i = 10)) (fun a i => a = 229 ∧ i = j) w q.2 ∧ wI q.2 226 j = (sgk x : Int) ∧ wI q.2 227 j = (i : Int) ∧ wI q.2 228 j = 0 ∧ wL q.2 229 j = 0 ∧ wI q.2 223 10 = ((j + 1 : Nat) : Int))) := by
  have fin : ∀ k, k = (sgk x : Int) → Wp (Mo_sign_95 223 (i : Int) k w) (fun q => q.1 = 1 ∧ (FL (fun a i => ((a = 226 ∨ a = 227 ∨ a = 228) ∧ i = j) ∨ (a = 223 ∧ i = 10)) (fun a i => a = 229 ∧ i = j) w q.2 ∧ wI q.2 226 j = (sgk x : Int) ∧ wI q.2 227 j = (i : Int) ∧ wI q.2 228 j = 0 ∧ wL q.2 229 j = 0 ∧ wI q.2 223 10 = ((j + 1 : Nat) : Int))) := by
    intro k hk
    unfold Mo_sign_95
    rw [hk]
    exact wp_call (m_token hO hj h10) (fun w1 g => wp_ret ⟨rfl, g⟩)
  unfold Mo_sign Mo_sign_0 Mo_sign_43 Mo_sign_55 Mo_sign_65 Mo_sign_75 Mo_sign_85
  refine wp_gd hO rfl ?_
  unfold sgk at fin ⊢
  by_cases c1 : x = 59
  · rw [if_pos c1, if_neg (by omega), if_neg (by omega), if_neg (by omega), if_neg (by omega), if_neg (by omega)]
    rw [if_pos c1] at fin
    rw [if_pos c1]
    exact fin _ rfl
  by_cases c2 : x = 61
  · rw [if_neg c1, if_pos c2, if_neg (by omega), if_neg (by omega), if_neg (by omega), if_neg (by omega), if_neg (by omega)]
    rw [if_neg c1, if_pos c2] at fin
    rw [if_neg c1, if_pos c2]
    exact fin _ rfl
  by_cases c3 : x = 40
  · rw [if_neg c1, if_neg c2, if_pos c3, if_neg (by omega), if_neg (by omega), if_neg (by omega), if_neg (by omega), if_neg (by omega)]
    rw [if_neg c1, if_neg c2, if_pos c3] at fin
    rw [if_neg c1, if_neg c2, if_pos c3]
    exact fin _ rfl
  by_cases c4 : x = 41
  · rw [if_neg c1, if_neg c2, if_neg c3, if_pos c4, if_neg (by omega), if_neg (by omega), if_neg (by omega), if_neg (by omega), if_neg (by omega)]
    rw [if_neg c1, if_neg c2, if_neg c3, if_pos c4] at fin
    rw [if_neg c1, if_neg c2, if_neg c3, if_pos c4]
    exact fin _ rfl
  simp only [if_neg c1, if_neg c2, if_neg c3, if_neg c4] at fin ⊢
  by_cases c5 : x = 43
  · simp only [if_pos c5] at fin ⊢
    rw [if_neg (by omega), if_neg (by omega), if_neg (by omega), if_neg (by omega)]
    exact fin _ rfl
  simp only [if_neg c5] at fin ⊢
  by_cases c6 : x = 45
  · simp only [if_pos c6] at fin ⊢
    rw [if_neg (by omega), if_neg (by omega), if_neg (by omega)]
    exact fin _ rfl
  simp only [if_neg c6] at fin ⊢
  by_cases c7 : x = 42
  · simp only [if_pos c7] at fin ⊢
    rw [if_neg (by omega), if_neg (by omega)]
    exact fin _ rfl
  simp only [if_neg c7] at fin ⊢
  by_cases c8 : x = 47
  · simp only [if_pos c8] at fin ⊢
    rw [if_neg (by omega)]
    exact fin _ rfl
  simp only [if_neg c8] at fin ⊢
  by_cases c9 : x = 60
  · simp only [if_pos c9] at fin ⊢
    exact fin _ rfl
  simp only [if_neg c9] at fin ⊢
  exact fin _ rfl
theorem m_cut7 : ∀ (m i j : Nat) (w : Wd), i ≤ N → N - i + 1 < m → Ok L wl dr tx w → SMN w B N → wI w 223 10 = (j : Int) → j ≤ 401 → (j ≤ 400 → adv bB (cb B N) (N - i) i = kP (cb B N) N j) → (∀ x, x < j → kK (cb B N) N x ≠ 0) → FL PMt QMt w0 w → (∀ x, x < j → MROW w (cb B N) N x) → Wp (Mo_cut_7 m 223 (i : Int) w) (fun w1 => FL PMt QMt w0 w1 ∧ MT (cb B N) N w1)
  | 0, i, j, w, _, hm, _, _, _, _, _, _, _, _ => absurd hm (by omega)
  | m + 1, i, j, w, hi, hm, hO, hS, h10, hj, hA, hG, hF, hR => by
    have hN := hS.1
    rw [Mo_cut_7]
    refine wp_gI hO rfl ?_
    rw [h10]
    refine wp_ite (fun q => wp_ret ⟨hF, fun x hx _ => hR x (by omega)⟩) (fun q => wp_eq (q_byteAt hO hS) (wp_gI hO rfl ?_))
    have hj : j ≤ 400 := by omega
    have hA := hA hj
    rw [show wI (cb B N i, w).2 223 4 = wI w 223 4 from rfl, hS.2.1]
    show Wp (if (i : Int) < (N : Int) then _ else _) _
    have eK : kK (cb B N) N j = if N ≤ kP (cb B N) N j then 0 else if bS (cb B N (kP (cb B N) N j)) = true then (if 8 < nmE (cb B N) N (kP (cb B N) N j) - kP (cb B N) N j then 3 else kdn (nmv (cb B N) (kP (cb B N) N j) (nmE (cb B N) N (kP (cb B N) N j) - kP (cb B N) N j))) else if bD (cb B N (kP (cb B N) N j)) = true then (if 4 < inE (cb B N) N (kP (cb B N) N j) - kP (cb B N) N j then 3 else 2) else sgk (cb B N (kP (cb B N) N j)) := rfl
    have eE : ps (cb B N) N (j + 1) = if N ≤ kP (cb B N) N j then N else if bS (cb B N (kP (cb B N) N j)) = true then nmE (cb B N) N (kP (cb B N) N j) else if bD (cb B N (kP (cb B N) N j)) = true then inE (cb B N) N (kP (cb B N) N j) else kP (cb B N) N j + 1 := rfl
    have eN : kN (cb B N) N j = nmv (cb B N) (kP (cb B N) N j) (nmE (cb B N) N (kP (cb B N) N j) - kP (cb B N) N j) := rfl
    have eV : kV (cb B N) N j = ivl (cb B N) (kP (cb B N) N j) (inE (cb B N) N (kP (cb B N) N j) - kP (cb B N) N j) := rfl
    by_cases c : (i : Int) < (N : Int)
    · rw [if_pos c]
      show Wp (if cb B N i = 9 then _ else _) _
      by_cases bl : bB (cb B N i) = true
      · have nx : Wp (Mo_cut_67 (Mo_cut_7 m) 223 (i : Int) w) (fun w1 => FL PMt QMt w0 w1 ∧ MT (cb B N) N w1) := by
          unfold Mo_cut_67 Mo_cut_291
          rw [w32_id (by omega) (by omega), show (i : Int) + 1 = ((i + 1 : Nat) : Int) by omega]
          refine m_cut7 m (i + 1) j w (by omega) (by omega) hO hS h10 (by omega) (fun _ => ?_) hG hF hR
          rw [← hA, show N - i = (N - (i + 1)) + 1 by omega]
          exact (if_pos bl).symm
        have bl' : cb B N i = 9 ∨ cb B N i = 10 ∨ cb B N i = 13 ∨ cb B N i = 32 := by unfold bB at bl; simpa using bl
        refine wp_ite (fun _ => nx) (fun n1 => wp_ite (fun _ => nx) (fun n2 => wp_ite (fun _ => nx) (fun n3 => wp_ite (fun _ => nx) (fun n4 => ?_))))
        exfalso
        have n1 : ¬ cb B N i = 9 := n1
        have n2 : ¬ cb B N i = 10 := n2
        have n3 : ¬ cb B N i = 13 := n3
        have n4 : ¬ cb B N i = 32 := n4
        omega
      · have blf : bB (cb B N i) = false := by simpa using bl
        rw [adv_no blf] at hA
        rw [← hA] at eK eE eN eV
        rw [if_neg (by omega)] at eK eE
        have bl' : ¬ (cb B N i = 9 ∨ cb B N i = 10 ∨ cb B N i = 13 ∨ cb B N i = 32) := by unfold bB at blf; simpa using blf
        have fin : ∀ w1, NXT w0 w1 (cb B N) N j → Ok L wl dr tx w1 → SMN w1 B N → kK (cb B N) N j ≠ 0 → i < ps (cb B N) N (j + 1) → Wp (Mo_cut_291 (Mo_cut_7 m) 223 (ps (cb B N) N (j + 1) : Int) w1) (fun w1 => FL PMt QMt w0 w1 ∧ MT (cb B N) N w1) := by
          intro w1 g hO1 hS1 hk hp
          unfold Mo_cut_291
          have hpb := ps_bd (cb B N) N (j + 1)
          refine m_cut7 m (ps (cb B N) N (j + 1)) (j + 1) w1 hpb (by omega) hO1 hS1 g.2.1 (by omega) (fun _ => rfl) (fun x hx => ?_) g.1 g.2.2
          by_cases e : x = j
          · rw [e]; exact hk
          · exact hG x (by omega)
        have tok : ∀ k v nm', k = (kK (cb B N) N j : Int) → (kK (cb B N) N j = 2 → v = kV (cb B N) N j) → (kK (cb B N) N j = 1 → nm' = kN (cb B N) N j) → Wp (Mo_token 223 k (i : Int) v nm' w) (fun w1 => NXT w0 w1 (cb B N) N j ∧ Ok L wl dr tx w1 ∧ SMN w1 B N) := by
          intro k v nm' h1 h2 h3
          refine wp_use (m_token hO hj h10) (fun w1 g => ⟨nxt hF hR g h1 (by rw [hA]) h2 h3, g.1.ok hO, hS.fl (g.1.mono (fun a k q => by unfold PMt; omega) (fun a k q => by unfold QMt; omega))⟩)
        refine wp_neg (fun h => bl' (Or.inl h)) (wp_neg (fun h => bl' (Or.inr (Or.inl h))) (wp_neg (fun h => bl' (Or.inr (Or.inr (Or.inl h)))) (wp_neg (fun h => bl' (Or.inr (Or.inr (Or.inr h)))) (wp_eq (q_mIsLetter _ w) ?_))))
        generalize hFU : FU = fu
        have hfu : 1000000 = fu := hFU
        show Wp (if (if bS (cb B N i) = true then (1 : Int) else 0) = 0 then _ else _) _
        by_cases s : bS (cb B N i) = true
        · rw [if_pos s] at eK eE ⊢
          have hne := adv_is bS (cb B N) (N - i) i
          have hn1 : i < nmE (cb B N) N i := by
            unfold nmE
            rw [show N - i = (N - (i + 1)) + 1 by omega]
            have : adv bS (cb B N) (N - (i + 1) + 1) i = adv bS (cb B N) (N - (i + 1)) (i + 1) := if_pos s
            rw [this]
            have := (adv_is bS (cb B N) (N - (i + 1)) (i + 1)).1.1
            omega
          have hn2 : nmE (cb B N) N i ≤ N := by have := hne.1.2; unfold nmE; omega
          refine wp_neg (by decide) (m_cut85 (i := i) hO hS ?_ (N - i) fu 0 (by omega) (by omega) rfl)
          unfold Mo_cut_124 Mo_cut_135
          have last : ∀ k, k = (kK (cb B N) N j : Int) → Wp (Mo_cut_179 (Mo_cut_7 m) 223 (i : Int) ((nmE (cb B N) N i - i : Nat) : Int) (nmv (cb B N) i (min (nmE (cb B N) N i - i) 8)) k w) (fun w1 => FL PMt QMt w0 w1 ∧ MT (cb B N) N w1) := by
            intro k hk
            unfold Mo_cut_179
            refine wp_call (tok k 0 _ hk (fun h2 => ?_) (fun h1 => ?_)) (fun w1 g => ?_)
            · exfalso
              rw [eK] at h2
              split at h2
              · omega
              · rcases kdn_is (nmv (cb B N) i (nmE (cb B N) N i - i)) with ⟨y, a1, a2, a3⟩ | ⟨a1, a3⟩ <;> omega
            · rw [eN]
              rw [eK] at h1
              split at h1
              · omega
              · rw [show min (nmE (cb B N) N i - i) 8 = nmE (cb B N) N i - i by omega]
            · rw [w32_id (by omega) (by omega), show (i : Int) + ((nmE (cb B N) N i - i : Nat) : Int) = (ps (cb B N) N (j + 1) : Int) by rw [eE]; omega]
              refine fin w1 g.1 g.2.1 g.2.2 ?_ (by omega)
              rw [eK]
              split
              · omega
              · rcases kdn_is (nmv (cb B N) i (nmE (cb B N) N i - i)) with ⟨y, a1, a2, a3⟩ | ⟨a1, a3⟩ <;> omega
          refine wp_ite (fun o => wp_ite (fun o2 => last 1 ?_) (fun o2 => ?_)) (fun o => wp_ite (fun o2 => last 3 ?_) (fun o2 => absurd o2 (by omega)))
          · rw [eK, if_neg (by omega)]
            have e8 : nmE (cb B N) N i - i = 8 := by omega
            rw [e8, kdn8 (fun y hy => hne.2.1 (i + y) (by omega) (by show i + y < nmE (cb B N) N i; omega))]
            rfl
          · rw [if_neg (by omega)] at eK
            rw [hFU]
            have e8 : min (nmE (cb B N) N i - i) 8 = nmE (cb B N) N i - i := by omega
            rw [e8] at last ⊢
            exact m_cut146 hO hS (last _ (by rw [eK])) 17 fu 0 1 (by omega) (by omega) (Or.inl ⟨rfl, fun y hy => absurd hy (by omega)⟩)
          · rw [eK, if_pos (by omega)]
            rfl
        · rw [if_neg s] at eK eE ⊢
          refine wp_pos rfl (wp_eq (q_mIsDigit _ w) ?_)
          show Wp (if (if bD (cb B N i) = true then (1 : Int) else 0) = 0 then _ else _) _
          by_cases d : bD (cb B N i) = true
          · rw [if_pos d] at eK eE ⊢
            have hne := adv_is bD (cb B N) (N - i) i
            have hn1 : i < inE (cb B N) N i := by
              unfold inE
              rw [show N - i = (N - (i + 1)) + 1 by omega]
              have : adv bD (cb B N) (N - (i + 1) + 1) i = adv bD (cb B N) (N - (i + 1)) (i + 1) := if_pos d
              rw [this]
              have := (adv_is bD (cb B N) (N - (i + 1)) (i + 1)).1.1
              omega
            have hn2 : inE (cb B N) N i ≤ N := by have := hne.1.2; unfold inE; omega
            refine wp_neg (by decide) (m_cut208 (i := i) hO hS ?_ (N - i) fu 0 (by omega) (by omega) (fun y hy => absurd hy (by omega)) rfl)
            unfold Mo_cut_250 Mo_cut_261
            have last : ∀ k, k = (kK (cb B N) N j : Int) → Wp ((Mo_token 223 k (i : Int) (ivl (cb B N) i (min (inE (cb B N) N i - i) 4)) 0 w).bind fun r265 => Mo_cut_291 (Mo_cut_7 m) 223 (w32 ((i : Int) + ((inE (cb B N) N i - i : Nat) : Int))) r265) (fun w1 => FL PMt QMt w0 w1 ∧ MT (cb B N) N w1) := by
              intro k hk
              refine wp_call (tok k _ 0 hk (fun h2 => ?_) (fun h1 => ?_)) (fun w1 g => ?_)
              · rw [eV]
                rw [eK] at h2
                split at h2
                · omega
                · rw [show min (inE (cb B N) N i - i) 4 = inE (cb B N) N i - i by omega]
              · exfalso
                rw [eK] at h1
                split at h1 <;> omega
              · rw [w32_id (by omega) (by omega), show (i : Int) + ((inE (cb B N) N i - i : Nat) : Int) = (ps (cb B N) N (j + 1) : Int) by rw [eE]; omega]
                refine fin w1 g.1 g.2.1 g.2.2 ?_ (by omega)
                rw [eK]
                split <;> omega
            refine wp_ite (fun o => last 2 ?_) (fun o => last 3 ?_)
            · rw [eK, if_neg (by omega)]; rfl
            · rw [eK, if_pos (by omega)]; rfl
          · rw [if_neg d] at eK eE ⊢
            refine wp_pos rfl ?_
            rw [w32_id (z := (i : Int) + 1) (by omega) (by omega), show (i : Int) + 1 = ((i + 1 : Nat) : Int) by omega]
            refine wp_eq (q_byteAt hO hS) (wp_call (m_sign (i := i) (x := cb B N i) hO hj h10 _) (fun r g => ?_))
            obtain ⟨g0, g⟩ := g
            rw [g0, w32_id (by omega) (by omega), show (i : Int) + 1 = (ps (cb B N) N (j + 1) : Int) by rw [eE]; omega]
            have hsk : ∀ z : Nat, z = sgk (cb B N i) → z ≠ 0 ∧ z ≠ 1 ∧ z ≠ 2 := by
              intro z hz
              unfold sgk at hz
              repeat' split at hz
              all_goals omega
            have hsk := hsk _ eK
            refine fin r.2 (nxt hF hR g (by rw [eK]) (by rw [hA]) (fun h => absurd h hsk.2.2) (fun h => absurd h hsk.2.1)) (g.1.ok hO) (hS.fl (g.1.mono (fun a k q => by unfold PMt; omega) (fun a k q => by unfold QMt; omega))) hsk.1 (by omega)
    · have ei : i = N := by omega
      rw [if_neg c]
      unfold Mo_cut_31
      refine wp_gI hO rfl ?_
      rw [show wI (cb B N i, w).2 223 4 = wI w 223 4 from rfl, hS.2.1]
      have e0 : kP (cb B N) N j = N := by
        rw [← hA, ei, show N - N = 0 by omega]
        rfl
      rw [if_pos (by omega)] at eK
      refine wp_call (m_token hO hj h10) (fun w1 g => wp_ret ?_)
      have g2 := nxt hF hR g (by rw [eK]; rfl) (by rw [e0]) (fun h => by omega) (fun h => by omega)
      refine ⟨g2.1, fun x hx hg => g2.2.2 x ?_⟩
      by_cases e : x ≤ j
      · omega
      · exact absurd eK (hg j (by omega))
theorem m_cut (hO : Ok L wl dr tx w) (hS : SMN w B N) : Wp (Mo_cut 223 w) (fun w1 => FL PMt QMt w w1 ∧ MT (cb B N) N w1) := by
  have hN := hS.1
  unfold Mo_cut Mo_cut_0
  generalize hFU : FU = fu; have hfu : 1000000 = fu := hFU
  refine wp_gd hO rfl (wp_pI hO rfl ?_)
  generalize hw1 : sI w 223 10 0 = w1
  have f1 : FL PMt QMt w w1 := by rw [← hw1]; exact (FL.rf w).sI (by unfold PMt; omega)
  exact m_cut7 (w0 := w) fu 0 0 w1 (by omega) (by omega) (f1.ok hO) (hS.fl f1) (by rw [← hw1, wI_eq]; rfl) (by omega) (fun _ => rfl) (fun x hx => absurd hx (by omega)) f1 (fun x hx => absurd hx (by omega))
end MD
