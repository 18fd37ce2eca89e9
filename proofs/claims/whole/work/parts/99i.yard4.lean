/-! Level 3, read: the reference's products, sums, terms. -/
section YD
variable {L wl dr tx : Nat} {c : Nat → Int} {N cb z0 : Nat} {w0 : Wd}
theorem outs_q {q : List Nat} (h : q = [] ∨ q = [10] ∨ q = [15]) (b : Bool) : outs b q := by
  intro k hk
  rcases h with rfl | rfl | rfl
  · exact absurd hk List.not_mem_nil
  · rw [List.mem_singleton.mp hk]; exact ⟨by omega, fun g => by omega⟩
  · rw [List.mem_singleton.mp hk]; exact ⟨by omega, fun g => by omega⟩
theorem outs_r {r : List Nat} (h : r = [] ∨ r = [8] ∨ r = [9]) : outs false r := by
  intro k hk
  rcases h with rfl | rfl | rfl
  · exact absurd hk List.not_mem_nil
  · rw [List.mem_singleton.mp hk]; exact ⟨by omega, fun g => by cases g.1⟩
  · rw [List.mem_singleton.mp hk]; exact ⟨by omega, fun g => by cases g.1⟩
theorem outs_app {b : Bool} {p q : List Nat} (h : outs b p) (h2 : outs b q) : outs b (p ++ q) := fun k hk => (List.mem_append.mp hk).elim (h k) (h2 k)
theorem y_prl {rs : Nat → Nat → Xr} {d : Nat} {Q : Wd → Prop} {S : List Nat} {cc : Nat} {wS : Wd} (hcb : cb ≤ 420) (hO0 : Ok L wl dr tx w0) (hT0 : MT c N w0) (hu : YU c N cb z0 w0 (un (kK c N) (kV c N) rs) d) (hg : ∀ t1 t2 e2, un (kK c N) (kV c N) rs d t1 = .inr (t2, e2) → GD (kK c N) (13 - 2 * d) t1 t2 e2) (hs : stops true S) (hS : S.length ≤ 3 * d + 1) (h0 : z0 ≤ cc) : ∀ (j n m t : Nat) (e e1 : List Op) (q : List Nat) (w : Wd), 400 < j + t → 401 < n + t → 401 < m + t → (q = [] ∨ q = [10] ∨ q = [15]) → YS c N cb w (q ++ S) (cc + e1.length) t d → mcode w cc e1 → e = e1 ++ fls q → KEEP wS w cc → Fr (PE cb z0) w0 w →
    (∀ e', prl (kK c N) (kV c N) rs d j t e = .inl e' → ∀ w1, ERR c N w1 e' → Fr (PE cb z0) w0 w1 → Q w1) →
    (∀ t' e', prl (kK c N) (kV c N) rs d j t e = .inr (t', e') → kK c N t' ≠ 10 ∧ kK c N t' ≠ 15 → ∀ n' m' w1 q' e1', 401 < n' + t' → 401 < m' + t' → (q' = [] ∨ q' = [10] ∨ q' = [15]) → YS c N cb w1 (q' ++ S) (cc + e1'.length) t' d → mcode w1 cc e1' → e' = e1' ++ fls q' → KEEP wS w1 cc → Fr (PE cb z0) w0 w1 → Wp (Mo_expression_96 (Mo_expression_12 n') m' 223 0 w1) Q) →
    Wp (Mo_expression_96 (Mo_expression_12 n) m 223 0 w) Q
  | 0, n, m, t, e, e1, q, w, hj, _, _, _, hY, _, _, _, _, _, _ => absurd hj (by have := hY.2.1.1.1; omega)
  | j + 1, n, m, t, e, e1, q, w, hj, hn, hm, hq, hY, hM, he, hK, hF, hinl, hinr => by
    have t4 := hY.2.1.1.1
    have ep : prl (kK c N) (kV c N) rs d (j + 1) t e = if kK c N t = 10 ∨ kK c N t = 15 then sb (ps1 t) (fun t1 => sb (un (kK c N) (kV c N) rs d t1) (fun q => prl (kK c N) (kV c N) rs d j q.1 (e ++ q.2 ++ [(if kK c N t = 10 then 4 else 5, 0)]))) else .inr (t, e) := rfl
    rw [ep] at hinl hinr
    by_cases hk : kK c N t = 10 ∨ kK c N t = 15
    · rw [if_pos hk] at hinl hinr
      obtain ⟨n0, rfl⟩ : ∃ n0, n = n0 + 1 := ⟨n - 1, by omega⟩
      refine y_op (b := true) hcb hO0 hT0 (by omega) hY hF (by omega) ⟨fun _ => hk, fun _ => rfl⟩ (by omega) (outs_q hq true) hs hS (fun e' he' w1 h1 f1 => hinl e' (by rw [he']; rfl) w1 h1 f1) (fun hp w1 Y1 M1 K1 F1 => ?_)
      rw [hp] at hinl hinr
      refine hu Q n0 FU (t + 1) (cc + e1.length + q.length) (kK c N t :: S) w1 (by omega) (by unfold FU; omega) Y1 F1 (by omega) (fun e' he' w2 h2 f2 => hinl e' (by show sb (un (kK c N) (kV c N) rs d (t + 1)) _ = _; rw [he']; rfl) w2 h2 f2) (fun t2 e2 he2 n' m' w2 hn' hm' Y2 M2 K2 F2 => ?_)
      have G := hg _ _ _ he2
      have hinl : ∀ e', prl (kK c N) (kV c N) rs d j t2 (e ++ e2 ++ [(if kK c N t = 10 then 4 else 5, 0)]) = .inl e' → ∀ w1, ERR c N w1 e' → Fr (PE cb z0) w0 w1 → Q w1 := fun e' h1 => hinl e' (by show sb (un (kK c N) (kV c N) rs d (t + 1)) _ = _; rw [he2]; exact h1)
      have hinr := fun t' e' (h1 : prl (kK c N) (kV c N) rs d j t2 (e ++ e2 ++ [(if kK c N t = 10 then 4 else 5, 0)]) = .inr (t', e')) => hinr t' e' (by show sb (un (kK c N) (kV c N) rs d (t + 1)) _ = _; rw [he2]; exact h1)
      have g1 := G.1
      refine y_prl hcb hO0 hT0 hu hg hs hS h0 j n' m' t2 _ (e ++ e2) [kK c N t] w2 (by omega) hn' hm' (by rcases hk with k | k <;> simp [k]) ?_ ?_ ?_ (fun k hk' => ?_) F2 hinl hinr
      · rw [he, List.length_append, List.length_append, fls_len, ← Nat.add_assoc, ← Nat.add_assoc]
        exact Y2
      · rw [he]
        refine mcode_app _ _ _ (mcode_ag _ _ (fun k k1 k2 => K2 k (by rw [List.length_append, fls_len] at k2; omega)) (mcode_app _ _ _ (mcode_ag _ _ (fun k k1 k2 => K1 k (by omega)) hM) M1)) ?_
        rw [List.length_append, fls_len, ← Nat.add_assoc]
        exact M2
      · have : fls [kK c N t] = [(if kK c N t = 10 then 4 else 5, 0)] := by
          rcases hk with k | k <;> (rw [k]; rfl)
        rw [this]
      · have a1 := hK k hk'
        have a2 := K1 k (by omega)
        have a3 := K2 k (by omega)
        exact ⟨a3.1.trans (a2.1.trans a1.1), a3.2.trans (a2.2.trans a1.2)⟩
    · rw [if_neg hk] at hinl hinr
      exact hinr t e rfl ⟨fun h => hk (Or.inl h), fun h => hk (Or.inr h)⟩ n m w q e1 hn hm hq hY hM he hK hF
theorem y_prd {rs : Nat → Nat → Xr} {d : Nat} (hcb : cb ≤ 420) (hO0 : Ok L wl dr tx w0) (hT0 : MT c N w0) (hu : YU c N cb z0 w0 (un (kK c N) (kV c N) rs) d) (hg : ∀ t1 t2 e2, un (kK c N) (kV c N) rs d t1 = .inr (t2, e2) → GD (kK c N) (13 - 2 * d) t1 t2 e2) : YP c N cb z0 w0 (prd (kK c N) (kV c N) rs) d := by
  intro Q n m t cc S w hn hm hs hS hY hF h0 hinl hinr
  refine hu Q n m t cc S w hn hm hY hF h0 (fun e he w1 h1 f1 => hinl e (by unfold prd; rw [he]; rfl) w1 h1 f1) (fun t2 e2 he n' m' w1 hn' hm' Y1 M1 K1 F1 => ?_)
  have t4 := Y1.2.1.1.1
  have ep : prd (kK c N) (kV c N) rs d t = prl (kK c N) (kV c N) rs d 401 t2 e2 := by unfold prd; rw [he]; rfl
  rw [ep] at hinl hinr
  exact y_prl (wS := w) hcb hO0 hT0 hu hg hs hS h0 401 n' m' t2 e2 e2 [] w1 (by omega) hn' hm' (Or.inl rfl) Y1 M1 (by show e2 = e2 ++ []; rw [List.append_nil]) K1 F1 hinl hinr
theorem y_sml {rs : Nat → Nat → Xr} {d : Nat} {Q : Wd → Prop} {S : List Nat} {cc : Nat} {wS : Wd} (hcb : cb ≤ 420) (hO0 : Ok L wl dr tx w0) (hT0 : MT c N w0) (hp : YP c N cb z0 w0 (prd (kK c N) (kV c N) rs) d) (hg : ∀ t1 t2 e2, prd (kK c N) (kV c N) rs d t1 = .inr (t2, e2) → GD (kK c N) (14 - 2 * d) t1 t2 e2) (hs : stops false S) (hS : S.length ≤ 3 * d) (h0 : z0 ≤ cc) : ∀ (j n m t : Nat) (e e1 : List Op) (q r : List Nat) (w : Wd), 400 < j + t → 401 < n + t → 401 < m + t → (q = [] ∨ q = [10] ∨ q = [15]) → (r = [] ∨ r = [8] ∨ r = [9]) → kK c N t ≠ 10 ∧ kK c N t ≠ 15 → YS c N cb w ((q ++ r) ++ S) (cc + e1.length) t d → mcode w cc e1 → e = e1 ++ fls (q ++ r) → KEEP wS w cc → Fr (PE cb z0) w0 w →
    (∀ e', sml (kK c N) (kV c N) rs d j t e = .inl e' → ∀ w1, ERR c N w1 e' → Fr (PE cb z0) w0 w1 → Q w1) →
    (∀ t' e', sml (kK c N) (kV c N) rs d j t e = .inr (t', e') → (kK c N t' ≠ 8 ∧ kK c N t' ≠ 9 ∧ kK c N t' ≠ 10 ∧ kK c N t' ≠ 15) → ∀ n' m' w1 q' e1', 401 < n' + t' → 401 < m' + t' → outs false q' → YS c N cb w1 (q' ++ S) (cc + e1'.length) t' d → mcode w1 cc e1' → e' = e1' ++ fls q' → KEEP wS w1 cc → Fr (PE cb z0) w0 w1 → Wp (Mo_expression_96 (Mo_expression_12 n') m' 223 0 w1) Q) →
    Wp (Mo_expression_96 (Mo_expression_12 n) m 223 0 w) Q
  | 0, n, m, t, e, e1, q, r, w, hj, _, _, _, _, _, hY, _, _, _, _, _, _ => absurd hj (by have := hY.2.1.1.1; omega)
  | j + 1, n, m, t, e, e1, q, r, w, hj, hn, hm, hq, hr, hk10, hY, hM, he, hK, hF, hinl, hinr => by
    have t4 := hY.2.1.1.1
    have oqr : outs false (q ++ r) := outs_app (outs_q hq false) (outs_r hr)
    have ep : sml (kK c N) (kV c N) rs d (j + 1) t e = if kK c N t = 8 ∨ kK c N t = 9 then sb (ps1 t) (fun t1 => sb (prd (kK c N) (kV c N) rs d t1) (fun q => sml (kK c N) (kV c N) rs d j q.1 (e ++ q.2 ++ [(if kK c N t = 8 then 2 else 3, 0)]))) else .inr (t, e) := rfl
    rw [ep] at hinl hinr
    by_cases hk : kK c N t = 8 ∨ kK c N t = 9
    · rw [if_pos hk] at hinl hinr
      obtain ⟨n0, rfl⟩ : ∃ n0, n = n0 + 1 := ⟨n - 1, by omega⟩
      refine y_op (b := false) hcb hO0 hT0 (by omega) hY hF (by omega) ⟨fun h => absurd h (by decide), fun h => by omega⟩ (by omega) oqr hs (by omega) (fun e' he' w1 h1 f1 => hinl e' (by rw [he']; rfl) w1 h1 f1) (fun hp' w1 Y1 M1 K1 F1 => ?_)
      rw [hp'] at hinl hinr
      refine hp Q n0 FU (t + 1) (cc + e1.length + (q ++ r).length) (kK c N t :: S) w1 (by omega) (by unfold FU; omega) (Or.inr ⟨rfl, hk⟩) (by show S.length + 1 ≤ _; omega) Y1 F1 (by omega) (fun e' he' w2 h2 f2 => hinl e' (by show sb (prd (kK c N) (kV c N) rs d (t + 1)) _ = _; rw [he']; rfl) w2 h2 f2) (fun t2 e2 he2 hk2 n' m' w2 q' e1' hn' hm' hq' Y2 M2 he1' K2 F2 => ?_)
      have G := hg _ _ _ he2
      have hinl : ∀ e', sml (kK c N) (kV c N) rs d j t2 (e ++ e2 ++ [(if kK c N t = 8 then 2 else 3, 0)]) = .inl e' → ∀ w1, ERR c N w1 e' → Fr (PE cb z0) w0 w1 → Q w1 := fun e' h1 => hinl e' (by show sb (prd (kK c N) (kV c N) rs d (t + 1)) _ = _; rw [he2]; exact h1)
      have hinr := fun t' e' (h1 : sml (kK c N) (kV c N) rs d j t2 (e ++ e2 ++ [(if kK c N t = 8 then 2 else 3, 0)]) = .inr (t', e')) => hinr t' e' (by show sb (prd (kK c N) (kV c N) rs d (t + 1)) _ = _; rw [he2]; exact h1)
      have g1 := G.1
      refine y_sml hcb hO0 hT0 hp hg hs hS h0 j n' m' t2 _ (e ++ e1') q' [kK c N t] w2 (by omega) hn' hm' hq' (by rcases hk with k | k <;> simp [k]) hk2 ?_ ?_ ?_ (fun k hk' => ?_) F2 hinl hinr
      · rw [he, List.append_assoc q', List.length_append, List.length_append, fls_len, ← Nat.add_assoc, ← Nat.add_assoc]
        exact Y2
      · rw [he]
        refine mcode_app _ _ _ (mcode_ag _ _ (fun k k1 k2 => K2 k (by rw [List.length_append, fls_len] at k2; omega)) (mcode_app _ _ _ (mcode_ag _ _ (fun k k1 k2 => K1 k (by omega)) hM) M1)) ?_
        rw [List.length_append, fls_len, ← Nat.add_assoc]
        exact M2
      · have : fls [kK c N t] = [(if kK c N t = 8 then 2 else 3, 0)] := by
          rcases hk with k | k <;> (rw [k]; rfl)
        rw [fls_app, this, he1']
        simp [List.append_assoc]
      · have a1 := hK k hk'
        have a2 := K1 k (by omega)
        have a3 := K2 k (by omega)
        exact ⟨a3.1.trans (a2.1.trans a1.1), a3.2.trans (a2.2.trans a1.2)⟩
    · rw [if_neg hk] at hinl hinr
      exact hinr t e rfl ⟨fun h => hk (Or.inl h), fun h => hk (Or.inr h), hk10.1, hk10.2⟩ n m w (q ++ r) e1 hn hm oqr hY hM he hK hF
theorem y_smd {rs : Nat → Nat → Xr} {d : Nat} (hcb : cb ≤ 420) (hO0 : Ok L wl dr tx w0) (hT0 : MT c N w0) (hp : YP c N cb z0 w0 (prd (kK c N) (kV c N) rs) d) (hg : ∀ t1 t2 e2, prd (kK c N) (kV c N) rs d t1 = .inr (t2, e2) → GD (kK c N) (14 - 2 * d) t1 t2 e2) : YX c N cb z0 w0 (smd (kK c N) (kV c N) rs) d := by
  intro Q n m t cc S w hn hm hs hS hY hF h0 hinl hinr
  have st : stops true S := by
    cases S with
    | nil => trivial
    | cons k S => exact hs.elim Or.inl (fun h => absurd h.1 (by decide))
  refine hp Q n m t cc S w hn hm st (by omega) hY hF h0 (fun e he w1 h1 f1 => hinl e (by unfold smd; rw [he]; rfl) w1 h1 f1) (fun t2 e2 he hk n' m' w1 q e1 hn' hm' hq Y1 M1 he1 K1 F1 => ?_)
  have t4 := Y1.2.1.1.1
  have ep : smd (kK c N) (kV c N) rs d t = sml (kK c N) (kV c N) rs d 401 t2 e2 := by unfold smd; rw [he]; rfl
  rw [ep] at hinl hinr
  refine y_sml (wS := w) hcb hO0 hT0 hp hg hs hS h0 401 n' m' t2 e2 e1 q [] w1 (by omega) hn' hm' hq (Or.inl rfl) hk ?_ M1 ?_ K1 F1 hinl hinr
  · rw [List.append_nil]; exact Y1
  · rw [List.append_nil]; exact he1
theorem y_smx (hcb : cb ≤ 420) (hO0 : Ok L wl dr tx w0) (hT0 : MT c N w0) : ∀ (n d : Nat), d ≤ 6 → 7 ≤ d + n → YX c N cb z0 w0 (smx (kK c N) (kV c N) n) d
  | 0, d, h1, h2 => absurd h2 (by omega)
  | n + 1, d, h1, h2 => by
    have hgu : ∀ t1 t2 e2, un (kK c N) (kV c N) (smx (kK c N) (kV c N) n) d t1 = .inr (t2, e2) → GD (kK c N) (13 - 2 * d) t1 t2 e2 := fun t1 t2 e2 h => gd_un h1 (fun h6 t3 t4 e4 h3 => by
      have := gd_smx n (d + 1) t3 t4 e4 (by omega) h3
      rw [show 15 - 2 * (d + 1) = 13 - 2 * d by omega] at this
      exact this) h
    have hgp : ∀ t1 t2 e2, prd (kK c N) (kV c N) (smx (kK c N) (kV c N) n) d t1 = .inr (t2, e2) → GD (kK c N) (14 - 2 * d) t1 t2 e2 := fun t1 t2 e2 h => gd_prd hgu h1 h
    exact y_smd hcb hO0 hT0 (y_prd hcb hO0 hT0 (y_un hcb hO0 hT0 (fun h6 => y_smx hcb hO0 hT0 n (d + 1) (by omega) (by omega))) hgu) hgp
/-- a term of the reference, from code cc on -/
theorem m_expr {w : Wd} {t cc : Nat} (hcb : cb ≤ 420) (hO : Ok L wl dr tx w) (hT : MT c N w) (h13 : wI w 223 13 = 0) (hC : MCU c N w t) (h12 : wI w 223 12 = 0) (h41 : wI w 223 41 = (cc : Int)) (hz : cc + 2 ≤ cb + t) : Wp (Mo_expression 223 w) (fun w1 => Fr (PE cb cc) w w1 ∧ match smx (kK c N) (kV c N) 20 0 t with
    | .inl e => ERR c N w1 e
    | .inr q => wI w1 223 13 = 0 ∧ MCU c N w1 q.1 ∧ wI w1 223 12 = 0 ∧ wI w1 223 41 = ((cc + q.2.length : Nat) : Int) ∧ mcode w1 cc q.2) := by
  have h4 := hC.1.1
  unfold Mo_expression Mo_expression_0
  generalize hFU : FU = fu; have hfu : 1000000 = fu := hFU
  obtain ⟨fv, rfl⟩ : ∃ fv, fu = fv + 1 := ⟨fu - 1, by omega⟩
  refine wp_gd hO rfl (wp_pI hO rfl ?_)
  generalize hw1 : sI w 223 45 0 = w1
  have f1 : Fr (PE cb cc) w w1 := by rw [← hw1]; exact fr_sI (by unfold PE; omega)
  have n1 : ∀ a k, a ≠ 223 ∨ k ≠ 45 → wI w1 a k = wI w a k := fun a k q => by rw [← hw1, wI_ne (by omega)]
  have v1 : wI w1 223 45 = 0 := by rw [← hw1, wI_eq]
  clear hw1
  have hO1 := f1.ok hO
  refine wp_gI hO1 rfl ?_
  rw [n1 _ _ (by omega), h12, Mo_expression_12]
  refine wp_neg one_ne (wp_gI hO1 rfl (wp_pos ((n1 _ _ (by omega)).trans h13) ?_))
  have Y1 : YS c N cb w1 [] cc t 0 := ⟨(n1 _ _ (by omega)).trans h13, ⟨hC.1, (n1 _ _ (by omega)).trans hC.2⟩, (n1 _ _ (by omega)).trans h12, ⟨v1, trivial, fun k hk => absurd hk List.not_mem_nil⟩, (n1 _ _ (by omega)).trans h41, by show cc + 0 + 2 ≤ cb + t; omega, by show 0 ≤ 3 * 0 + 2; omega, by omega⟩
  refine y_smx (z0 := cc) (w0 := w) hcb hO hT 20 0 (by omega) (by omega) _ fv FU t cc [] w1 (by omega) (by unfold FU; omega) trivial (by show 0 ≤ 3 * 0; omega) Y1 f1 (Nat.le_refl _) (fun e he w2 h2 f2 => ⟨f2, by rw [he]; exact h2⟩) (fun t2 e2 he hk n' m' w2 q e1 hn' hm' hq Y2 M2 he1 K2 F2 => ?_)
  have t24 := Y2.2.1.1.1
  refine y_end (z0 := cc) hcb hO hT (by omega) Y2 F2 (by omega) hk (Or.inr rfl) (fun h => absurd h (by omega)) (fun _ q' S1 w3 e3 o3 s3 g13 gC g12 g41 gM gK gF => ⟨gF, ?_⟩)
  rw [he]
  -- nothing else waits
  have hS1 : S1 = [] ∧ q' = q := by
    rw [List.append_nil] at e3
    cases S1 with
    | nil => rw [List.append_nil] at e3; exact ⟨rfl, e3.symm⟩
    | cons k S1 =>
      exfalso
      have hk6 : k = 6 := s3.elim id (fun h => absurd h.1 (by decide))
      have : k ∈ q := by rw [e3]; exact List.mem_append_right _ List.mem_cons_self
      have := (hq k this).1
      omega
  obtain ⟨-, rfl⟩ := hS1
  refine ⟨g13, gC, g12, ?_, ?_⟩
  · show wI w3 223 41 = ((cc + e2.length : Nat) : Int)
    rw [g41, he1, List.length_append, fls_len, Nat.add_assoc]
  · show mcode w3 cc e2
    rw [he1]
    exact mcode_app _ _ _ (mcode_ag _ _ (fun k k1 k2 => gK k (by omega)) M2) gM
end YD
