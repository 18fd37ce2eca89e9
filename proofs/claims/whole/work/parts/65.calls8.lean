/-! Level 3: calls, chance, the reference's half. -/
section K8
variable {L wl dr tx s : Nat} {w : Wd} {V : Vl} {σ : Sg} {x y z Y : Int}
theorem mc_lots {w1 : Wd} {lt nM nH oH oL : Int} (hV : VOK V) (h : MC w s V σ lt nM nH oH oL) (t : Int) (hw : sI w 223 51 t = w1) : MC w1 s V σ t nM nH oH oL := by
  have n1 : ∀ a j, a ≠ 223 ∨ j ≠ 51 → wI w1 a j = wI w a j := fun a j q => by rw [← hw]; exact wI_ne q
  obtain ⟨h0, h1, h2, h3, h4, h5, h6, h7⟩ := h
  exact ⟨(n1 _ _ (by omega)).trans h0, h1.eq (fun a j q1 q2 => n1 a j (by omega)), h2.eq hV (fun j _ => n1 256 _ (by omega)), by rw [← hw]; exact wI_eq _ _ _ _, (n1 _ _ (by omega)).trans h4, (n1 _ _ (by omega)).trans h5, (n1 _ _ (by omega)).trans h6, (n1 _ _ (by omega)).trans h7⟩
theorem m_ch31 {a N : Nat} {w0 : Wd} (hV : VOK V) (hK : SOK V σ) (hN : N ≤ 50) : ∀ (r m n : Nat) (w : Wd), n + r = N → r < m → Ok L wl dr tx w → MC w s V σ (n : Int) (-1) (-1) (-1) (-1) → Fr PS w0 w → Wp (Mo_chance_31 m 223 (a : Int) (N : Int) (chn V σ a n) w) (fun r => r.1 = chn V σ a N ∧ Fr PS w0 r.2)
  | r, 0, n, w, _, hm, _, _, _ => absurd hm (by omega)
  | 0, m + 1, n, w, hr, hm, hO, hM, hF => by
    rw [Mo_chance_31]
    refine wp_gI hO rfl ?_
    rw [hM.2.2.2.1]
    refine wp_pos (by omega) (wp_ret ⟨?_, hF⟩)
    rw [show n = N by omega]
  | r + 1, m + 1, n, w, hr, hm, hO, hM, hF => by
    rw [Mo_chance_31]
    refine wp_gI hO rfl ?_
    rw [hM.2.2.2.1]
    refine wp_neg (by omega) (wp_call (m_judged hV hK hO hM) (fun r1 h1 => ?_))
    have hO1 := h1.2.1.ok hO
    have hM1 := hM.fr2 hV h1.2.1
    have f1 : Fr PS w0 r1.2 := hF.tr (h1.2.1.mono (fun a k q => by unfold PM2 at q; unfold PS; omega))
    have ec : r1.1 = jdg V σ (n : Int) := h1.1
    have e : chn V σ a (n + 1) = if jdg V σ (n : Int) = (a : Int) then w32 (chn V σ a n + 1) else chn V σ a n := rfl
    have go : ∀ c, c = chn V σ a (n + 1) → Wp (Mo_chance_50 (Mo_chance_31 m) 223 (a : Int) (N : Int) c r1.2) (fun r => r.1 = chn V σ a N ∧ Fr PS w0 r.2) := by
      intro c hc
      unfold Mo_chance_50
      refine wp_gI hO1 rfl ?_
      rw [hM1.2.2.2.1, w32_id (by omega) (by omega), show (n : Int) + 1 = ((n + 1 : Nat) : Int) by omega]
      refine wp_pI hO1 rfl ?_
      generalize hw2 : sI r1.2 223 51 ((n + 1 : Nat) : Int) = w2
      have f2 : Fr PS w0 w2 := by rw [← hw2]; exact f1.sI (by unfold PS; omega)
      rw [hc]
      exact m_ch31 hV hK hN r m (n + 1) w2 (by omega) (by omega) (by rw [← hw2]; exact Ok.sI hO1) (mc_lots hV hM1 _ hw2) f2
    refine wp_ite (fun q => go _ ?_) (fun q => go _ ?_)
    · rw [e, if_pos (ec ▸ q)]
    · rw [e, if_neg (fun p => q (ec ▸ p))]
end K8
