/-! calls -/
theorem mth_ok : ∀ q ∈ mthTab, q.2.2.1 < 241 → (q.2.2.2.1 = 0 ∧ lw_tbl[q.2.2.2.2]? = some (.methodLink (cN q.1) q.2.1 (mY q.2.2.1))) ∨ (q.2.2.2.1 = 1 ∧ lw_tbl[q.2.2.2.2]? = some (.methodLinkNest (cN q.1) q.2.1 (mY q.2.2.1) "HandHeirs")) := by decide +kernel
def mwc (k : Nat) : Bool := decide (lw_tbl[(mP k).2.2.2.1]? = some (if (mP k).1 = 1 then .static (mY k) else .instanceMethod (mY k))) && (decide ((mP k).1 ≠ 0) || decide (lw_tbl[(mP k).2.2.2.2.1]? = some (.selects (mY k).cls (mY k) (mY k)))) && decide (lw_tbl[(mP k).2.2.2.2.2]? = some (.initialized (mY k).cls)) && decide ((parseMethodDescriptor (mY k).desc).map (fun d => d.parameters.length) = some (mP k).2.1) && plainName (mY k).cls && decide ((mY k).cls ≠ "java/lang/invoke/MethodHandle" ∧ (mY k).cls ≠ "java/lang/invoke/VarHandle") && decide (mL k ≤ 45) && (decide ((mP k).1 ≠ 2) || (decide ((mY k).name = "<init>") && decide (mR k = none)))
theorem mwc_0 : ∀ k, k < 17 → mwc (k + 3) = true := by decide +kernel
theorem mwc_1 : ∀ k, k < 20 → mwc (k + 20) = true := by decide +kernel
theorem mwc_2 : ∀ k, k < 20 → mwc (k + 40) = true := by decide +kernel
theorem mwc_3 : ∀ k, k < 20 → mwc (k + 60) = true := by decide +kernel
theorem mwc_4 : ∀ k, k < 20 → mwc (k + 80) = true := by decide +kernel
theorem mwc_5 : ∀ k, k < 20 → mwc (k + 100) = true := by decide +kernel
theorem mwc_6 : ∀ k, k < 20 → mwc (k + 120) = true := by decide +kernel
theorem mwc_7 : ∀ k, k < 20 → mwc (k + 140) = true := by decide +kernel
theorem mwc_8 : ∀ k, k < 20 → mwc (k + 160) = true := by decide +kernel
theorem mwc_9 : ∀ k, k < 20 → mwc (k + 180) = true := by decide +kernel
theorem mwc_10 : ∀ k, k < 20 → mwc (k + 200) = true := by decide +kernel
theorem mwc_11 : ∀ k, k < 21 → mwc (k + 220) = true := by decide +kernel
theorem mwc_all (k : Nat) (h3 : 3 ≤ k) (h : k < 241) : mwc k = true := by
  by_cases h_11 : 220 ≤ k
  · have h9 := mwc_11 (k - 220) (by omega); rw [Nat.sub_add_cancel h_11] at h9; exact h9
  by_cases h_10 : 200 ≤ k
  · have h9 := mwc_10 (k - 200) (by omega); rw [Nat.sub_add_cancel h_10] at h9; exact h9
  by_cases h_9 : 180 ≤ k
  · have h9 := mwc_9 (k - 180) (by omega); rw [Nat.sub_add_cancel h_9] at h9; exact h9
  by_cases h_8 : 160 ≤ k
  · have h9 := mwc_8 (k - 160) (by omega); rw [Nat.sub_add_cancel h_8] at h9; exact h9
  by_cases h_7 : 140 ≤ k
  · have h9 := mwc_7 (k - 140) (by omega); rw [Nat.sub_add_cancel h_7] at h9; exact h9
  by_cases h_6 : 120 ≤ k
  · have h9 := mwc_6 (k - 120) (by omega); rw [Nat.sub_add_cancel h_6] at h9; exact h9
  by_cases h_5 : 100 ≤ k
  · have h9 := mwc_5 (k - 100) (by omega); rw [Nat.sub_add_cancel h_5] at h9; exact h9
  by_cases h_4 : 80 ≤ k
  · have h9 := mwc_4 (k - 80) (by omega); rw [Nat.sub_add_cancel h_4] at h9; exact h9
  by_cases h_3 : 60 ≤ k
  · have h9 := mwc_3 (k - 60) (by omega); rw [Nat.sub_add_cancel h_3] at h9; exact h9
  by_cases h_2 : 40 ≤ k
  · have h9 := mwc_2 (k - 40) (by omega); rw [Nat.sub_add_cancel h_2] at h9; exact h9
  by_cases h_1 : 20 ≤ k
  · have h9 := mwc_1 (k - 20) (by omega); rw [Nat.sub_add_cancel h_1] at h9; exact h9
  by_cases h_0 : 3 ≤ k
  · have h9 := mwc_0 (k - 3) (by omega); rw [Nat.sub_add_cancel h_0] at h9; exact h9
  exact absurd h3 (by omega)
