/-! the heap beside a world: reading, writing, making -/
def layTab : List (List Nat) := [[412], [469, 471, 473], [148, 150, 152, 154, 156], [449, 451, 453], [428, 430, 432], [487, 489, 491], [340, 342, 344, 346, 348, 350, 352, 354, 356, 358], [312, 314, 316, 318, 320, 322, 324], [509, 511, 513], [392, 394, 396, 398, 400, 402], [214, 216, 218, 220, 222, 224, 226, 228, 230, 232, 234, 236, 238, 240], [535, 537, 539, 541, 543, 545, 547, 549, 551, 553, 555, 557], [1205, 1207, 1209, 1211, 1213, 1215, 1217, 1219, 1221, 1223, 1225, 1227, 1229, 1231, 1233, 1235, 1237, 1239, 1241, 1243, 1245, 1247, 1249, 1251, 1253, 1255, 1257, 1259, 1261, 1263, 1265, 1267, 1269, 1271, 1273, 1275, 1277, 1279, 1281, 1283, 1285, 1287, 1289, 1291, 1293, 1295, 1297, 1299, 1301, 1303, 1305, 1307, 1309, 1311, 1313, 1315, 1317, 1319, 1321, 1323, 1325, 1327, 1329, 1331, 1333, 1335, 1337, 1339]]
def layP (c k : Nat) : Nat := (layTab.getD c []).getD k 0
def insP : List (Nat × Nat) := [(406, 105), (457, 108), (136, 98), (438, 107), (416, 106), (477, 109), (124, 96), (244, 99), (494, 110), (364, 104), (130, 97), (116, 95), (1117, 112)]
theorem lay_ok : ∀ c, c < 13 → ∀ k, k < cW c → lw_tbl[layP c k]? = some (u_lay (cN c) (cT c) k) := by decide +kernel
theorem ins_ok : ∀ c, c < 13 → lw_tbl[(insP.getD c (0, 0)).1]? = some (.instantiable (cN c) (cW c)) ∧ lw_tbl[(insP.getD c (0, 0)).2]? = some (.initialized (cN c)) := by decide +kernel
theorem nam_ok : ∀ c, c < 13 → ∀ a, a < cW c → ∀ b, b < cW c → a ≠ b → (cT c a).2.1 ≠ (cT c b).2.1 := by decide +kernel
theorem typ_ok : ∀ c, c < 13 → ∀ k, k < cW c → parseFieldDescriptor (cT c k).2.2.1 = some (cTy c k) := by decide +kernel
theorem def_ok : ∀ c, c < 13 → ∀ k, k < cW c → (fty c k = 1 ∧ cTy c k = .long) ∨ (fty c k = 2 ∧ defaultValue (cTy c k) = .null) ∨ (fty c k = 0 ∧ cTy c k = .int) ∨ (fty c k = 3 ∧ cTy c k = .boolean) := by decide +kernel
theorem fld_ok : ∀ q ∈ fldTab, q.2.2.1 < 14 ∧ q.2.2.2.1 < cW q.2.2.1 ∧ lw_tbl[q.2.2.2.2]? = some (.fieldLink (cN q.1) q.2.1 (cN q.2.2.1) (cE q.2.2.1 q.2.2.2.1).1 (cE q.2.2.1 q.2.2.2.1).2.1) := by decide +kernel
theorem lay_in {c k : Nat} (hc : c < 13) (hk : k < cW c) : u_lay (cN c) (cT c) k ∈ GW := gw_at _ (lay_ok c hc k hk) (by unfold u_lay; split <;> rfl)
theorem lays_in {c : Nat} (hc : c < 13) : ∀ q ∈ u_ws (cN c) (cT c) (cW c), q ∈ GW := fun q hq => by
  obtain ⟨k, hk, rfl⟩ := List.mem_map.mp hq
  exact lay_in hc (List.mem_range.mp hk)
theorem fld_in {own pc npc j c k : Nat} {e : Ent} (he : e.2.2.1 = c) (hy : e.2.2.2 = ((k : Nat) : Int)) (h : fldTab.any (fun q => q.1 == own && q.2.1 == j && q.2.2.1 == e.2.2.1 && ((q.2.2.2.1 : Nat) : Int) == e.2.2.2) = true) : c < 14 ∧ k < cW c ∧ Cond.fieldLink (cN own) j (cN c) (cE c k).1 (cE c k).2.1 ∈ GW := by
  obtain ⟨q, hq, h1⟩ := List.any_eq_true.mp h
  simp only [Bool.and_eq_true, beq_iff_eq] at h1
  obtain ⟨⟨⟨h1, h2⟩, h3⟩, h4⟩ := h1
  have hck : q.2.2.2.1 = k := by rw [hy] at h4; exact Int.ofNat.inj h4
  obtain ⟨f1, f2, f3⟩ := fld_ok q hq
  rw [h3, he] at f1 f2 f3
  rw [hck] at f2 f3
  rw [h1, h2] at f3
  exact ⟨f1, f2, gw_at _ f3 rfl⟩
section HPS
variable {g : Gp} {w w1 : Wd} {H H1 : Heap} {a c k n t : Nat}
theorem HP.lt (hP : HP g w H) (h : (wsh w a).1 ≠ 99) : 1 ≤ a ∧ a < wn w := by
  obtain ⟨-, -, -, -, h5, -⟩ := hP
  refine ⟨?_, ?_⟩
  · rcases Nat.eq_zero_or_pos a with q | q
    · exact absurd (h5 a (Or.inl q)) h
    · exact q
  · rcases Nat.lt_or_ge a (wn w) with q | q
    · exact q
    · exact absurd (h5 a (Or.inr q)) h
theorem HP.obj (hP : HP g w H) (h : (wsh w a).1 = c) (hc : c < 14) : 1 ≤ a ∧ a < wn w ∧ HO g w H c a := by
  obtain ⟨h1, h2⟩ := hP.lt (a := a) (by omega)
  refine ⟨h1, h2, ?_⟩
  rcases hP.2.2.1 a h1 h2 with ⟨-, q⟩ | ⟨q, -⟩
  · rw [h] at q; exact q
  · exact absurd q (by rw [h]; intro q9; simp only [tgs, List.mem_cons, List.not_mem_nil, or_false] at q9; omega)
theorem HP.row (hP : HP g w H) (h : (wsh w a).1 = t) (ht : t ∈ tgs) : 1 ≤ a ∧ a < wn w ∧ HR g w H t (wsh w a).2 a := by
  have h14 : 14 ≤ t ∧ t ≠ 99 := by simp only [tgs, List.mem_cons, List.not_mem_nil, or_false] at ht; omega
  obtain ⟨h1, h2⟩ := hP.lt (a := a) (by rw [h]; exact h14.2)
  refine ⟨h1, h2, ?_⟩
  rcases hP.2.2.1 a h1 h2 with ⟨q, -⟩ | ⟨-, q⟩
  · exact absurd q (by rw [h]; omega)
  · rw [h] at q; exact q
theorem HP.six (hP : HP g w H) (h : (wsh w a).1 = t) (ht : t < 13 ∨ (20 ≤ t ∧ t < 27)) : 6 ≤ a := by
  rcases Nat.lt_or_ge a 6 with q | q
  · have := (hP.2.2.2.1 a q).2
    omega
  · exact q
theorem ad_ne (hP : HP g w H) {b : Nat} (ha : 6 ≤ a) (hb : b ≠ a) : ad g b ≠ ad g a := by
  unfold ad
  rw [if_neg (show ¬ a < 6 by omega)]
  by_cases h : b < 6
  · rw [if_pos h]
    have := (hP.2.2.2.1 b h).1
    omega
  · rw [if_neg h]
    omega
theorem ad_A (ha : 6 ≤ a) : Ar g (ad g a) := by
  unfold Ar ad
  rw [if_neg (show ¬ a < 6 by omega)]
  omega
/-- a cell has changed, all others stay -/
theorem HP.upd (hP : HP g w H) (ha : 6 ≤ a) (h1 : wn w1 = wn w) (h3 : wsh w1 = wsh w) (ho : ∀ b, b ≠ a → (∀ j, wI w1 b j = wI w b j) ∧ (∀ j, wL w1 b j = wL w b j) ∧ ∀ j, wR w1 b j = wR w b j) (hI : ∀ j, rg (wI w1 a j)) (hL : ∀ j, rl (wL w1 a j)) (hz : H1.size = H.size) (hq : ∀ q, q ≠ ad g a → H1[q]? = H[q]?) (hc : HC g w1 H1 a) : HP g w1 H1 := by
  have hne := @ad_ne g w H a hP
  obtain ⟨p1, p2, p3, p4, p5, p6, p7, p8⟩ := hP
  refine ⟨by rw [h1]; exact p1, by rw [h1, hz]; exact p2, fun b hb1 hb2 => ?_, by rw [h3]; exact p4, by rw [h1, h3]; exact p5, by rw [h3]; exact p6, fun b j => ?_, fun b j => ?_⟩
  · by_cases e : b = a
    · rw [e]; exact hc
    · obtain ⟨o1, o2, o3⟩ := ho b e
      have hk : H1[ad g b]? = H[ad g b]? := hq _ (hne ha e)
      have e1 : ∀ t j, el g w1 t b j = el g w t b j := fun t j => by unfold el; rw [o1, o2, o3]
      have e2 : ∀ c j, fv g w1 c b j = fv g w c b j := fun c j => by unfold fv; rw [o1, o2, o3]
      rw [h1] at hb2
      rcases p3 b hb1 hb2 with ⟨q1, cell, q2⟩ | ⟨q1, cell, q2⟩
      · refine Or.inl ⟨by rw [h3]; exact q1, cell, ?_⟩
        rw [h3, hk]
        simp only [e2]
        exact q2
      · refine Or.inr ⟨by rw [h3]; exact q1, cell, ?_⟩
        rw [h3, hk]
        simp only [e1]
        exact q2
  · by_cases e : b = a
    · rw [e]; exact hI j
    · rw [(ho b e).1]; exact p7 b j
  · by_cases e : b = a
    · rw [e]; exact hL j
    · rw [(ho b e).2.1]; exact p8 b j
/-- a new cell -/
theorem HP.new (hP : HP g w H) (hn : n < 2147483648) (h99 : t ≠ 13 ∧ t ≠ 30 ∧ t ≠ 31 ∧ t ≠ 32) (hz : H1.size = H.size + 1) (hq : ∀ q, q < H.size → H1[q]? = H[q]?) (hc : HC g (nw w t n) H1 (wn w)) : HP g (nw w t n) H1 := by
  obtain ⟨p1, p2, p3, p4, p5, p6, p7, p8⟩ := hP
  have hs : ∀ b, b ≠ wn w → wsh (nw w t n) b = wsh w b := fun b hb => if_neg hb
  refine ⟨by show 6 ≤ wn w + 1; omega, by show H1.size = gb g + (wn w + 1 - 6); omega, fun b hb1 hb2 => ?_, fun b hb => ?_, fun b hb => ?_, fun b => ?_, fun b j => ?_, fun b j => ?_⟩
  · by_cases e : b = wn w
    · rw [e]; exact hc
    · have hb3 : b < wn w := by have : b < wn w + 1 := hb2; omega
      have o1 : ∀ j, wI (nw w t n) b j = wI w b j := fun j => if_neg e
      have o2 : ∀ j, wL (nw w t n) b j = wL w b j := fun j => if_neg e
      have o3 : ∀ j, wR (nw w t n) b j = wR w b j := fun j => if_neg e
      have hlt : ad g b < H.size := by
        unfold ad
        by_cases h6 : b < 6
        · rw [if_pos h6]
          have := (p4 b h6).1
          omega
        · rw [if_neg h6]
          omega
      have hk : H1[ad g b]? = H[ad g b]? := hq _ hlt
      have e1 : ∀ t' j, el g (nw w t n) t' b j = el g w t' b j := fun t' j => by unfold el; rw [o1, o2, o3]
      have e2 : ∀ c j, fv g (nw w t n) c b j = fv g w c b j := fun c j => by unfold fv; rw [o1, o2, o3]
      rcases p3 b hb1 hb3 with ⟨q1, cell, q2⟩ | ⟨q1, cell, q2⟩
      · refine Or.inl ⟨by rw [hs b e]; exact q1, cell, ?_⟩
        rw [hs b e, hk]
        simp only [e2]
        exact q2
      · refine Or.inr ⟨by rw [hs b e]; exact q1, cell, ?_⟩
        rw [hs b e, hk]
        simp only [e1]
        exact q2
  · rw [hs b (by omega)]; exact p4 b hb
  · rw [hs b (by rcases hb with hb | hb; omega; have : wn w + 1 ≤ b := hb; omega)]
    exact p5 b (by rcases hb with hb | hb; exact Or.inl hb; have : wn w + 1 ≤ b := hb; exact Or.inr (by omega))
  · by_cases e : b = wn w
    · rw [e]; show (if wn w = wn w then (t, n) else wsh w (wn w)).2 < _; rw [if_pos rfl]; exact hn
    · rw [hs b e]; exact p6 b
  · show rg (if b = wn w then 0 else wI w b j)
    split
    · exact rg_zero
    · exact p7 b j
  · show rl (if b = wn w then 0 else wL w b j)
    split
    · exact ⟨by omega, by omega⟩
    · exact p8 b j
theorem hp_ad (hP : HP g w H) : ad g (wn w) = H.size := by
  obtain ⟨p1, p2, -⟩ := hP
  unfold ad
  rw [if_neg (by omega), p2]
end HPS
