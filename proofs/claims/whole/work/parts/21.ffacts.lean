/-! printed by genF.py: facts of fields, calls, constants -/
def tgd (w : Wd) (a c : Nat) : Option Unit := if (wsh w a).1 = c then some () else none
theorem fr_objI {g : Gp} {l : Launch} {d m pc npc j a c : Nat} {y : Int} {ls : List (Nat × AV)} {st : List AV} {w w' : Wd} {v : Option AV} {u : Unit} (hi : ins m pc = some (.invokespecial j, npc, 1000, y)) (h : tgd w a c = some u) (hc : c ≠ 99) (hcs : catS st ≤ 8) (k : Rn g l (d + 1) m npc ls st w v w') : Rn g l (d + 1) m pc ls (.inr (.inr a) :: st) w v w' := fr_objInit hi (ite_some h).1 hc hcs k
theorem fr_lconst0 {g : Gp} {l : Launch} {d m pc npc x : Nat} {y : Int} {ls : List (Nat × AV)} {st : List AV} {w w' : Wd} {v : Option AV} (hi : ins m pc = some (.lconst 0, npc, x, y)) (k : Rn g l d m npc ls (.inr (.inl 0) :: st) w v w') : Rn g l d m pc ls st w v w' := rn_lconst hi k
theorem tf0_0 : fty 0 0 = 2 := by decide +kernel
theorem tf1_0 : fty 1 0 = 2 := by decide +kernel
theorem tf1_1 : fty 1 1 = 2 := by decide +kernel
theorem tf1_2 : fty 1 2 = 2 := by decide +kernel
theorem tf2_0 : fty 2 0 = 0 ∨ fty 2 0 = 3 := by decide +kernel
theorem tf2_1 : fty 2 1 = 2 := by decide +kernel
theorem tf2_2 : fty 2 2 = 2 := by decide +kernel
theorem tf2_3 : fty 2 3 = 2 := by decide +kernel
theorem tf2_4 : fty 2 4 = 2 := by decide +kernel
theorem tf3_0 : fty 3 0 = 0 ∨ fty 3 0 = 3 := by decide +kernel
theorem tf3_1 : fty 3 1 = 2 := by decide +kernel
theorem tf3_2 : fty 3 2 = 2 := by decide +kernel
theorem tf4_0 : fty 4 0 = 0 ∨ fty 4 0 = 3 := by decide +kernel
theorem tf4_1 : fty 4 1 = 0 ∨ fty 4 1 = 3 := by decide +kernel
theorem tf4_2 : fty 4 2 = 2 := by decide +kernel
theorem tf5_0 : fty 5 0 = 2 := by decide +kernel
theorem tf5_1 : fty 5 1 = 2 := by decide +kernel
theorem tf5_2 : fty 5 2 = 2 := by decide +kernel
theorem tf6_0 : fty 6 0 = 0 ∨ fty 6 0 = 3 := by decide +kernel
theorem tf6_1 : fty 6 1 = 2 := by decide +kernel
theorem tf6_2 : fty 6 2 = 0 ∨ fty 6 2 = 3 := by decide +kernel
theorem tf6_3 : fty 6 3 = 2 := by decide +kernel
theorem tf6_4 : fty 6 4 = 2 := by decide +kernel
theorem tf6_5 : fty 6 5 = 0 ∨ fty 6 5 = 3 := by decide +kernel
theorem tf6_6 : fty 6 6 = 0 ∨ fty 6 6 = 3 := by decide +kernel
theorem tf6_7 : fty 6 7 = 1 := by decide +kernel
theorem tf6_8 : fty 6 8 = 0 ∨ fty 6 8 = 3 := by decide +kernel
theorem tf6_9 : fty 6 9 = 0 ∨ fty 6 9 = 3 := by decide +kernel
theorem tf7_0 : fty 7 0 = 2 := by decide +kernel
theorem tf7_1 : fty 7 1 = 2 := by decide +kernel
theorem tf7_2 : fty 7 2 = 2 := by decide +kernel
theorem tf7_3 : fty 7 3 = 2 := by decide +kernel
theorem tf7_4 : fty 7 4 = 2 := by decide +kernel
theorem tf7_5 : fty 7 5 = 0 ∨ fty 7 5 = 3 := by decide +kernel
theorem tf7_6 : fty 7 6 = 0 ∨ fty 7 6 = 3 := by decide +kernel
theorem tf8_0 : fty 8 0 = 0 ∨ fty 8 0 = 3 := by decide +kernel
theorem tf8_1 : fty 8 1 = 2 := by decide +kernel
theorem tf8_2 : fty 8 2 = 2 := by decide +kernel
theorem tf9_0 : fty 9 0 = 0 ∨ fty 9 0 = 3 := by decide +kernel
theorem tf9_1 : fty 9 1 = 0 ∨ fty 9 1 = 3 := by decide +kernel
theorem tf9_2 : fty 9 2 = 0 ∨ fty 9 2 = 3 := by decide +kernel
theorem tf9_3 : fty 9 3 = 2 := by decide +kernel
theorem tf9_4 : fty 9 4 = 2 := by decide +kernel
theorem tf9_5 : fty 9 5 = 2 := by decide +kernel
theorem tf10_0 : fty 10 0 = 0 ∨ fty 10 0 = 3 := by decide +kernel
theorem tf10_1 : fty 10 1 = 0 ∨ fty 10 1 = 3 := by decide +kernel
theorem tf10_2 : fty 10 2 = 0 ∨ fty 10 2 = 3 := by decide +kernel
theorem tf10_3 : fty 10 3 = 0 ∨ fty 10 3 = 3 := by decide +kernel
theorem tf10_4 : fty 10 4 = 0 ∨ fty 10 4 = 3 := by decide +kernel
theorem tf10_5 : fty 10 5 = 0 ∨ fty 10 5 = 3 := by decide +kernel
theorem tf10_6 : fty 10 6 = 0 ∨ fty 10 6 = 3 := by decide +kernel
theorem tf10_7 : fty 10 7 = 2 := by decide +kernel
theorem tf10_8 : fty 10 8 = 2 := by decide +kernel
theorem tf10_9 : fty 10 9 = 2 := by decide +kernel
theorem tf10_10 : fty 10 10 = 2 := by decide +kernel
theorem tf10_11 : fty 10 11 = 2 := by decide +kernel
theorem tf10_12 : fty 10 12 = 2 := by decide +kernel
theorem tf10_13 : fty 10 13 = 2 := by decide +kernel
theorem tf11_0 : fty 11 0 = 2 := by decide +kernel
theorem tf11_1 : fty 11 1 = 0 ∨ fty 11 1 = 3 := by decide +kernel
theorem tf11_2 : fty 11 2 = 2 := by decide +kernel
theorem tf11_3 : fty 11 3 = 2 := by decide +kernel
theorem tf11_4 : fty 11 4 = 2 := by decide +kernel
theorem tf11_5 : fty 11 5 = 2 := by decide +kernel
theorem tf11_6 : fty 11 6 = 2 := by decide +kernel
theorem tf11_7 : fty 11 7 = 2 := by decide +kernel
theorem tf11_8 : fty 11 8 = 2 := by decide +kernel
theorem tf11_9 : fty 11 9 = 2 := by decide +kernel
theorem tf11_10 : fty 11 10 = 2 := by decide +kernel
theorem tf11_11 : fty 11 11 = 2 := by decide +kernel
theorem tf12_1 : fty 12 1 = 2 := by decide +kernel
theorem tf12_2 : fty 12 2 = 0 ∨ fty 12 2 = 3 := by decide +kernel
theorem tf12_3 : fty 12 3 = 2 := by decide +kernel
theorem tf12_4 : fty 12 4 = 0 ∨ fty 12 4 = 3 := by decide +kernel
theorem tf12_5 : fty 12 5 = 2 := by decide +kernel
theorem tf12_6 : fty 12 6 = 2 := by decide +kernel
theorem tf12_7 : fty 12 7 = 2 := by decide +kernel
theorem tf12_8 : fty 12 8 = 2 := by decide +kernel
theorem tf12_9 : fty 12 9 = 2 := by decide +kernel
theorem tf12_10 : fty 12 10 = 0 ∨ fty 12 10 = 3 := by decide +kernel
theorem tf12_11 : fty 12 11 = 0 ∨ fty 12 11 = 3 := by decide +kernel
theorem tf12_12 : fty 12 12 = 0 ∨ fty 12 12 = 3 := by decide +kernel
theorem tf12_13 : fty 12 13 = 0 ∨ fty 12 13 = 3 := by decide +kernel
theorem tf12_14 : fty 12 14 = 0 ∨ fty 12 14 = 3 := by decide +kernel
theorem tf12_15 : fty 12 15 = 0 ∨ fty 12 15 = 3 := by decide +kernel
theorem tf12_16 : fty 12 16 = 0 ∨ fty 12 16 = 3 := by decide +kernel
theorem tf12_17 : fty 12 17 = 0 ∨ fty 12 17 = 3 := by decide +kernel
theorem tf12_18 : fty 12 18 = 0 ∨ fty 12 18 = 3 := by decide +kernel
theorem tf12_19 : fty 12 19 = 0 ∨ fty 12 19 = 3 := by decide +kernel
theorem tf12_20 : fty 12 20 = 0 ∨ fty 12 20 = 3 := by decide +kernel
theorem tf12_21 : fty 12 21 = 2 := by decide +kernel
theorem tf12_22 : fty 12 22 = 2 := by decide +kernel
theorem tf12_23 : fty 12 23 = 2 := by decide +kernel
theorem tf12_24 : fty 12 24 = 2 := by decide +kernel
theorem tf12_25 : fty 12 25 = 2 := by decide +kernel
theorem tf12_26 : fty 12 26 = 2 := by decide +kernel
theorem tf12_27 : fty 12 27 = 2 := by decide +kernel
theorem tf12_28 : fty 12 28 = 2 := by decide +kernel
theorem tf12_29 : fty 12 29 = 2 := by decide +kernel
theorem tf12_30 : fty 12 30 = 2 := by decide +kernel
theorem tf12_31 : fty 12 31 = 2 := by decide +kernel
theorem tf12_32 : fty 12 32 = 2 := by decide +kernel
theorem tf12_33 : fty 12 33 = 2 := by decide +kernel
theorem tf12_34 : fty 12 34 = 2 := by decide +kernel
theorem tf12_35 : fty 12 35 = 0 ∨ fty 12 35 = 3 := by decide +kernel
theorem tf12_36 : fty 12 36 = 2 := by decide +kernel
theorem tf12_37 : fty 12 37 = 2 := by decide +kernel
theorem tf12_38 : fty 12 38 = 2 := by decide +kernel
theorem tf12_39 : fty 12 39 = 2 := by decide +kernel
theorem tf12_40 : fty 12 40 = 2 := by decide +kernel
theorem tf12_41 : fty 12 41 = 0 ∨ fty 12 41 = 3 := by decide +kernel
theorem tf12_42 : fty 12 42 = 2 := by decide +kernel
theorem tf12_43 : fty 12 43 = 2 := by decide +kernel
theorem tf12_44 : fty 12 44 = 2 := by decide +kernel
theorem tf12_45 : fty 12 45 = 0 ∨ fty 12 45 = 3 := by decide +kernel
theorem tf12_46 : fty 12 46 = 2 := by decide +kernel
theorem tf12_47 : fty 12 47 = 2 := by decide +kernel
theorem tf12_48 : fty 12 48 = 0 ∨ fty 12 48 = 3 := by decide +kernel
theorem tf12_49 : fty 12 49 = 2 := by decide +kernel
theorem tf12_50 : fty 12 50 = 2 := by decide +kernel
theorem tf12_51 : fty 12 51 = 0 ∨ fty 12 51 = 3 := by decide +kernel
theorem tf12_52 : fty 12 52 = 0 ∨ fty 12 52 = 3 := by decide +kernel
theorem tf12_53 : fty 12 53 = 0 ∨ fty 12 53 = 3 := by decide +kernel
theorem tf12_54 : fty 12 54 = 0 ∨ fty 12 54 = 3 := by decide +kernel
theorem tf12_55 : fty 12 55 = 0 ∨ fty 12 55 = 3 := by decide +kernel
theorem tf12_56 : fty 12 56 = 2 := by decide +kernel
theorem tf12_57 : fty 12 57 = 2 := by decide +kernel
theorem tf12_58 : fty 12 58 = 0 ∨ fty 12 58 = 3 := by decide +kernel
theorem tf12_59 : fty 12 59 = 2 := by decide +kernel
theorem tf12_60 : fty 12 60 = 2 := by decide +kernel
theorem tf12_61 : fty 12 61 = 2 := by decide +kernel
theorem tf12_62 : fty 12 62 = 2 := by decide +kernel
theorem tf12_63 : fty 12 63 = 0 ∨ fty 12 63 = 3 := by decide +kernel
theorem tf12_64 : fty 12 64 = 2 := by decide +kernel
theorem tf12_65 : fty 12 65 = 2 := by decide +kernel
theorem tf12_66 : fty 12 66 = 2 := by decide +kernel
theorem tf12_67 : fty 12 67 = 2 := by decide +kernel
theorem tf13_0 : fty 13 0 = 2 := by decide +kernel
theorem tf13_1 : fty 13 1 = 0 ∨ fty 13 1 = 3 := by decide +kernel
theorem pf2_0 (m : Nat) : 2 < 13 ∧ 0 < cW 2 ∧ fty 2 0 = 0 ∧ ((cE 2 0).2.2.1 = false ∨ ((cE 2 0).2.2.1 = true ∧ (mY m).name = "<init>" ∧ mO m = 2)) := ⟨by decide, by decide +kernel, by decide +kernel, Or.inl (by decide +kernel)⟩
theorem pf3_0 (m : Nat) : 3 < 13 ∧ 0 < cW 3 ∧ fty 3 0 = 0 ∧ ((cE 3 0).2.2.1 = false ∨ ((cE 3 0).2.2.1 = true ∧ (mY m).name = "<init>" ∧ mO m = 3)) := ⟨by decide, by decide +kernel, by decide +kernel, Or.inl (by decide +kernel)⟩
theorem pf4_0 (m : Nat) : 4 < 13 ∧ 0 < cW 4 ∧ fty 4 0 = 0 ∧ ((cE 4 0).2.2.1 = false ∨ ((cE 4 0).2.2.1 = true ∧ (mY m).name = "<init>" ∧ mO m = 4)) := ⟨by decide, by decide +kernel, by decide +kernel, Or.inl (by decide +kernel)⟩
theorem pf4_1 (m : Nat) : 4 < 13 ∧ 1 < cW 4 ∧ fty 4 1 = 0 ∧ ((cE 4 1).2.2.1 = false ∨ ((cE 4 1).2.2.1 = true ∧ (mY m).name = "<init>" ∧ mO m = 4)) := ⟨by decide, by decide +kernel, by decide +kernel, Or.inl (by decide +kernel)⟩
theorem pf6_0 (m : Nat) : 6 < 13 ∧ 0 < cW 6 ∧ fty 6 0 = 0 ∧ ((cE 6 0).2.2.1 = false ∨ ((cE 6 0).2.2.1 = true ∧ (mY m).name = "<init>" ∧ mO m = 6)) := ⟨by decide, by decide +kernel, by decide +kernel, Or.inl (by decide +kernel)⟩
theorem pf6_1 (m : Nat) : 6 < 13 ∧ 1 < cW 6 ∧ fty 6 1 = 2 ∧ ((cE 6 1).2.2.1 = false ∨ ((cE 6 1).2.2.1 = true ∧ (mY m).name = "<init>" ∧ mO m = 6)) := ⟨by decide, by decide +kernel, by decide +kernel, Or.inl (by decide +kernel)⟩
theorem pf6_2 (m : Nat) : 6 < 13 ∧ 2 < cW 6 ∧ fty 6 2 = 0 ∧ ((cE 6 2).2.2.1 = false ∨ ((cE 6 2).2.2.1 = true ∧ (mY m).name = "<init>" ∧ mO m = 6)) := ⟨by decide, by decide +kernel, by decide +kernel, Or.inl (by decide +kernel)⟩
theorem pf6_5 (m : Nat) : 6 < 13 ∧ 5 < cW 6 ∧ fty 6 5 = 0 ∧ ((cE 6 5).2.2.1 = false ∨ ((cE 6 5).2.2.1 = true ∧ (mY m).name = "<init>" ∧ mO m = 6)) := ⟨by decide, by decide +kernel, by decide +kernel, Or.inl (by decide +kernel)⟩
theorem pf6_6 (m : Nat) : 6 < 13 ∧ 6 < cW 6 ∧ fty 6 6 = 0 ∧ ((cE 6 6).2.2.1 = false ∨ ((cE 6 6).2.2.1 = true ∧ (mY m).name = "<init>" ∧ mO m = 6)) := ⟨by decide, by decide +kernel, by decide +kernel, Or.inl (by decide +kernel)⟩
theorem pf6_7 (m : Nat) : 6 < 13 ∧ 7 < cW 6 ∧ fty 6 7 = 1 ∧ ((cE 6 7).2.2.1 = false ∨ ((cE 6 7).2.2.1 = true ∧ (mY m).name = "<init>" ∧ mO m = 6)) := ⟨by decide, by decide +kernel, by decide +kernel, Or.inl (by decide +kernel)⟩
theorem pf6_8 (m : Nat) : 6 < 13 ∧ 8 < cW 6 ∧ fty 6 8 = 0 ∧ ((cE 6 8).2.2.1 = false ∨ ((cE 6 8).2.2.1 = true ∧ (mY m).name = "<init>" ∧ mO m = 6)) := ⟨by decide, by decide +kernel, by decide +kernel, Or.inl (by decide +kernel)⟩
theorem pf6_9 (m : Nat) : 6 < 13 ∧ 9 < cW 6 ∧ fty 6 9 = 0 ∧ ((cE 6 9).2.2.1 = false ∨ ((cE 6 9).2.2.1 = true ∧ (mY m).name = "<init>" ∧ mO m = 6)) := ⟨by decide, by decide +kernel, by decide +kernel, Or.inl (by decide +kernel)⟩
theorem pf7_4 (m : Nat) : 7 < 13 ∧ 4 < cW 7 ∧ fty 7 4 = 2 ∧ ((cE 7 4).2.2.1 = false ∨ ((cE 7 4).2.2.1 = true ∧ (mY m).name = "<init>" ∧ mO m = 7)) := ⟨by decide, by decide +kernel, by decide +kernel, Or.inl (by decide +kernel)⟩
theorem pf7_5 (m : Nat) : 7 < 13 ∧ 5 < cW 7 ∧ fty 7 5 = 0 ∧ ((cE 7 5).2.2.1 = false ∨ ((cE 7 5).2.2.1 = true ∧ (mY m).name = "<init>" ∧ mO m = 7)) := ⟨by decide, by decide +kernel, by decide +kernel, Or.inl (by decide +kernel)⟩
theorem pf7_6 (m : Nat) : 7 < 13 ∧ 6 < cW 7 ∧ fty 7 6 = 0 ∧ ((cE 7 6).2.2.1 = false ∨ ((cE 7 6).2.2.1 = true ∧ (mY m).name = "<init>" ∧ mO m = 7)) := ⟨by decide, by decide +kernel, by decide +kernel, Or.inl (by decide +kernel)⟩
theorem pf8_0 (m : Nat) : 8 < 13 ∧ 0 < cW 8 ∧ fty 8 0 = 3 ∧ ((cE 8 0).2.2.1 = false ∨ ((cE 8 0).2.2.1 = true ∧ (mY m).name = "<init>" ∧ mO m = 8)) := ⟨by decide, by decide +kernel, by decide +kernel, Or.inl (by decide +kernel)⟩
theorem pf9_0 (m : Nat) : 9 < 13 ∧ 0 < cW 9 ∧ fty 9 0 = 0 ∧ ((cE 9 0).2.2.1 = false ∨ ((cE 9 0).2.2.1 = true ∧ (mY m).name = "<init>" ∧ mO m = 9)) := ⟨by decide, by decide +kernel, by decide +kernel, Or.inl (by decide +kernel)⟩
theorem pf9_1 (m : Nat) : 9 < 13 ∧ 1 < cW 9 ∧ fty 9 1 = 0 ∧ ((cE 9 1).2.2.1 = false ∨ ((cE 9 1).2.2.1 = true ∧ (mY m).name = "<init>" ∧ mO m = 9)) := ⟨by decide, by decide +kernel, by decide +kernel, Or.inl (by decide +kernel)⟩
theorem pf9_2 (m : Nat) : 9 < 13 ∧ 2 < cW 9 ∧ fty 9 2 = 0 ∧ ((cE 9 2).2.2.1 = false ∨ ((cE 9 2).2.2.1 = true ∧ (mY m).name = "<init>" ∧ mO m = 9)) := ⟨by decide, by decide +kernel, by decide +kernel, Or.inl (by decide +kernel)⟩
theorem pf10_0 (m : Nat) : 10 < 13 ∧ 0 < cW 10 ∧ fty 10 0 = 0 ∧ ((cE 10 0).2.2.1 = false ∨ ((cE 10 0).2.2.1 = true ∧ (mY m).name = "<init>" ∧ mO m = 10)) := ⟨by decide, by decide +kernel, by decide +kernel, Or.inl (by decide +kernel)⟩
theorem pf10_1 (m : Nat) : 10 < 13 ∧ 1 < cW 10 ∧ fty 10 1 = 0 ∧ ((cE 10 1).2.2.1 = false ∨ ((cE 10 1).2.2.1 = true ∧ (mY m).name = "<init>" ∧ mO m = 10)) := ⟨by decide, by decide +kernel, by decide +kernel, Or.inl (by decide +kernel)⟩
theorem pf10_2 (m : Nat) : 10 < 13 ∧ 2 < cW 10 ∧ fty 10 2 = 0 ∧ ((cE 10 2).2.2.1 = false ∨ ((cE 10 2).2.2.1 = true ∧ (mY m).name = "<init>" ∧ mO m = 10)) := ⟨by decide, by decide +kernel, by decide +kernel, Or.inl (by decide +kernel)⟩
theorem pf10_3 (m : Nat) : 10 < 13 ∧ 3 < cW 10 ∧ fty 10 3 = 0 ∧ ((cE 10 3).2.2.1 = false ∨ ((cE 10 3).2.2.1 = true ∧ (mY m).name = "<init>" ∧ mO m = 10)) := ⟨by decide, by decide +kernel, by decide +kernel, Or.inl (by decide +kernel)⟩
theorem pf10_4 (m : Nat) : 10 < 13 ∧ 4 < cW 10 ∧ fty 10 4 = 0 ∧ ((cE 10 4).2.2.1 = false ∨ ((cE 10 4).2.2.1 = true ∧ (mY m).name = "<init>" ∧ mO m = 10)) := ⟨by decide, by decide +kernel, by decide +kernel, Or.inl (by decide +kernel)⟩
theorem pf10_5 (m : Nat) : 10 < 13 ∧ 5 < cW 10 ∧ fty 10 5 = 0 ∧ ((cE 10 5).2.2.1 = false ∨ ((cE 10 5).2.2.1 = true ∧ (mY m).name = "<init>" ∧ mO m = 10)) := ⟨by decide, by decide +kernel, by decide +kernel, Or.inl (by decide +kernel)⟩
theorem pf10_6 (m : Nat) : 10 < 13 ∧ 6 < cW 10 ∧ fty 10 6 = 0 ∧ ((cE 10 6).2.2.1 = false ∨ ((cE 10 6).2.2.1 = true ∧ (mY m).name = "<init>" ∧ mO m = 10)) := ⟨by decide, by decide +kernel, by decide +kernel, Or.inl (by decide +kernel)⟩
theorem pf11_1 (m : Nat) : 11 < 13 ∧ 1 < cW 11 ∧ fty 11 1 = 0 ∧ ((cE 11 1).2.2.1 = false ∨ ((cE 11 1).2.2.1 = true ∧ (mY m).name = "<init>" ∧ mO m = 11)) := ⟨by decide, by decide +kernel, by decide +kernel, Or.inl (by decide +kernel)⟩
theorem pf11_3 (m : Nat) : 11 < 13 ∧ 3 < cW 11 ∧ fty 11 3 = 2 ∧ ((cE 11 3).2.2.1 = false ∨ ((cE 11 3).2.2.1 = true ∧ (mY m).name = "<init>" ∧ mO m = 11)) := ⟨by decide, by decide +kernel, by decide +kernel, Or.inl (by decide +kernel)⟩
theorem pf12_2 (m : Nat) : 12 < 13 ∧ 2 < cW 12 ∧ fty 12 2 = 0 ∧ ((cE 12 2).2.2.1 = false ∨ ((cE 12 2).2.2.1 = true ∧ (mY m).name = "<init>" ∧ mO m = 12)) := ⟨by decide, by decide +kernel, by decide +kernel, Or.inl (by decide +kernel)⟩
theorem pf12_4 (m : Nat) : 12 < 13 ∧ 4 < cW 12 ∧ fty 12 4 = 0 ∧ ((cE 12 4).2.2.1 = false ∨ ((cE 12 4).2.2.1 = true ∧ (mY m).name = "<init>" ∧ mO m = 12)) := ⟨by decide, by decide +kernel, by decide +kernel, Or.inl (by decide +kernel)⟩
theorem pf12_10 (m : Nat) : 12 < 13 ∧ 10 < cW 12 ∧ fty 12 10 = 0 ∧ ((cE 12 10).2.2.1 = false ∨ ((cE 12 10).2.2.1 = true ∧ (mY m).name = "<init>" ∧ mO m = 12)) := ⟨by decide, by decide +kernel, by decide +kernel, Or.inl (by decide +kernel)⟩
theorem pf12_11 (m : Nat) : 12 < 13 ∧ 11 < cW 12 ∧ fty 12 11 = 0 ∧ ((cE 12 11).2.2.1 = false ∨ ((cE 12 11).2.2.1 = true ∧ (mY m).name = "<init>" ∧ mO m = 12)) := ⟨by decide, by decide +kernel, by decide +kernel, Or.inl (by decide +kernel)⟩
theorem pf12_12 (m : Nat) : 12 < 13 ∧ 12 < cW 12 ∧ fty 12 12 = 0 ∧ ((cE 12 12).2.2.1 = false ∨ ((cE 12 12).2.2.1 = true ∧ (mY m).name = "<init>" ∧ mO m = 12)) := ⟨by decide, by decide +kernel, by decide +kernel, Or.inl (by decide +kernel)⟩
theorem pf12_13 (m : Nat) : 12 < 13 ∧ 13 < cW 12 ∧ fty 12 13 = 0 ∧ ((cE 12 13).2.2.1 = false ∨ ((cE 12 13).2.2.1 = true ∧ (mY m).name = "<init>" ∧ mO m = 12)) := ⟨by decide, by decide +kernel, by decide +kernel, Or.inl (by decide +kernel)⟩
theorem pf12_14 (m : Nat) : 12 < 13 ∧ 14 < cW 12 ∧ fty 12 14 = 0 ∧ ((cE 12 14).2.2.1 = false ∨ ((cE 12 14).2.2.1 = true ∧ (mY m).name = "<init>" ∧ mO m = 12)) := ⟨by decide, by decide +kernel, by decide +kernel, Or.inl (by decide +kernel)⟩
theorem pf12_15 (m : Nat) : 12 < 13 ∧ 15 < cW 12 ∧ fty 12 15 = 0 ∧ ((cE 12 15).2.2.1 = false ∨ ((cE 12 15).2.2.1 = true ∧ (mY m).name = "<init>" ∧ mO m = 12)) := ⟨by decide, by decide +kernel, by decide +kernel, Or.inl (by decide +kernel)⟩
theorem pf12_16 (m : Nat) : 12 < 13 ∧ 16 < cW 12 ∧ fty 12 16 = 0 ∧ ((cE 12 16).2.2.1 = false ∨ ((cE 12 16).2.2.1 = true ∧ (mY m).name = "<init>" ∧ mO m = 12)) := ⟨by decide, by decide +kernel, by decide +kernel, Or.inl (by decide +kernel)⟩
theorem pf12_17 (m : Nat) : 12 < 13 ∧ 17 < cW 12 ∧ fty 12 17 = 0 ∧ ((cE 12 17).2.2.1 = false ∨ ((cE 12 17).2.2.1 = true ∧ (mY m).name = "<init>" ∧ mO m = 12)) := ⟨by decide, by decide +kernel, by decide +kernel, Or.inl (by decide +kernel)⟩
theorem pf12_18 (m : Nat) : 12 < 13 ∧ 18 < cW 12 ∧ fty 12 18 = 0 ∧ ((cE 12 18).2.2.1 = false ∨ ((cE 12 18).2.2.1 = true ∧ (mY m).name = "<init>" ∧ mO m = 12)) := ⟨by decide, by decide +kernel, by decide +kernel, Or.inl (by decide +kernel)⟩
theorem pf12_19 (m : Nat) : 12 < 13 ∧ 19 < cW 12 ∧ fty 12 19 = 0 ∧ ((cE 12 19).2.2.1 = false ∨ ((cE 12 19).2.2.1 = true ∧ (mY m).name = "<init>" ∧ mO m = 12)) := ⟨by decide, by decide +kernel, by decide +kernel, Or.inl (by decide +kernel)⟩
theorem pf12_20 (m : Nat) : 12 < 13 ∧ 20 < cW 12 ∧ fty 12 20 = 0 ∧ ((cE 12 20).2.2.1 = false ∨ ((cE 12 20).2.2.1 = true ∧ (mY m).name = "<init>" ∧ mO m = 12)) := ⟨by decide, by decide +kernel, by decide +kernel, Or.inl (by decide +kernel)⟩
theorem pf12_35 (m : Nat) : 12 < 13 ∧ 35 < cW 12 ∧ fty 12 35 = 0 ∧ ((cE 12 35).2.2.1 = false ∨ ((cE 12 35).2.2.1 = true ∧ (mY m).name = "<init>" ∧ mO m = 12)) := ⟨by decide, by decide +kernel, by decide +kernel, Or.inl (by decide +kernel)⟩
theorem pf12_41 (m : Nat) : 12 < 13 ∧ 41 < cW 12 ∧ fty 12 41 = 0 ∧ ((cE 12 41).2.2.1 = false ∨ ((cE 12 41).2.2.1 = true ∧ (mY m).name = "<init>" ∧ mO m = 12)) := ⟨by decide, by decide +kernel, by decide +kernel, Or.inl (by decide +kernel)⟩
theorem pf12_45 (m : Nat) : 12 < 13 ∧ 45 < cW 12 ∧ fty 12 45 = 0 ∧ ((cE 12 45).2.2.1 = false ∨ ((cE 12 45).2.2.1 = true ∧ (mY m).name = "<init>" ∧ mO m = 12)) := ⟨by decide, by decide +kernel, by decide +kernel, Or.inl (by decide +kernel)⟩
theorem pf12_48 (m : Nat) : 12 < 13 ∧ 48 < cW 12 ∧ fty 12 48 = 3 ∧ ((cE 12 48).2.2.1 = false ∨ ((cE 12 48).2.2.1 = true ∧ (mY m).name = "<init>" ∧ mO m = 12)) := ⟨by decide, by decide +kernel, by decide +kernel, Or.inl (by decide +kernel)⟩
theorem pf12_51 (m : Nat) : 12 < 13 ∧ 51 < cW 12 ∧ fty 12 51 = 0 ∧ ((cE 12 51).2.2.1 = false ∨ ((cE 12 51).2.2.1 = true ∧ (mY m).name = "<init>" ∧ mO m = 12)) := ⟨by decide, by decide +kernel, by decide +kernel, Or.inl (by decide +kernel)⟩
theorem pf12_52 (m : Nat) : 12 < 13 ∧ 52 < cW 12 ∧ fty 12 52 = 0 ∧ ((cE 12 52).2.2.1 = false ∨ ((cE 12 52).2.2.1 = true ∧ (mY m).name = "<init>" ∧ mO m = 12)) := ⟨by decide, by decide +kernel, by decide +kernel, Or.inl (by decide +kernel)⟩
theorem pf12_53 (m : Nat) : 12 < 13 ∧ 53 < cW 12 ∧ fty 12 53 = 0 ∧ ((cE 12 53).2.2.1 = false ∨ ((cE 12 53).2.2.1 = true ∧ (mY m).name = "<init>" ∧ mO m = 12)) := ⟨by decide, by decide +kernel, by decide +kernel, Or.inl (by decide +kernel)⟩
theorem pf12_54 (m : Nat) : 12 < 13 ∧ 54 < cW 12 ∧ fty 12 54 = 0 ∧ ((cE 12 54).2.2.1 = false ∨ ((cE 12 54).2.2.1 = true ∧ (mY m).name = "<init>" ∧ mO m = 12)) := ⟨by decide, by decide +kernel, by decide +kernel, Or.inl (by decide +kernel)⟩
theorem pf12_55 (m : Nat) : 12 < 13 ∧ 55 < cW 12 ∧ fty 12 55 = 0 ∧ ((cE 12 55).2.2.1 = false ∨ ((cE 12 55).2.2.1 = true ∧ (mY m).name = "<init>" ∧ mO m = 12)) := ⟨by decide, by decide +kernel, by decide +kernel, Or.inl (by decide +kernel)⟩
theorem pf12_58 (m : Nat) : 12 < 13 ∧ 58 < cW 12 ∧ fty 12 58 = 0 ∧ ((cE 12 58).2.2.1 = false ∨ ((cE 12 58).2.2.1 = true ∧ (mY m).name = "<init>" ∧ mO m = 12)) := ⟨by decide, by decide +kernel, by decide +kernel, Or.inl (by decide +kernel)⟩
theorem pf12_63 (m : Nat) : 12 < 13 ∧ 63 < cW 12 ∧ fty 12 63 = 0 ∧ ((cE 12 63).2.2.1 = false ∨ ((cE 12 63).2.2.1 = true ∧ (mY m).name = "<init>" ∧ mO m = 12)) := ⟨by decide, by decide +kernel, by decide +kernel, Or.inl (by decide +kernel)⟩
theorem pf15_0_0 : 0 < 13 ∧ 0 < cW 0 ∧ fty 0 0 = 2 ∧ ((cE 0 0).2.2.1 = false ∨ ((cE 0 0).2.2.1 = true ∧ (mY 15).name = "<init>" ∧ mO 15 = 0)) := ⟨by decide, by decide +kernel, by decide +kernel, Or.inr (by decide +kernel)⟩
theorem pf22_1_0 : 1 < 13 ∧ 0 < cW 1 ∧ fty 1 0 = 2 ∧ ((cE 1 0).2.2.1 = false ∨ ((cE 1 0).2.2.1 = true ∧ (mY 22).name = "<init>" ∧ mO 22 = 1)) := ⟨by decide, by decide +kernel, by decide +kernel, Or.inr (by decide +kernel)⟩
theorem pf22_1_1 : 1 < 13 ∧ 1 < cW 1 ∧ fty 1 1 = 2 ∧ ((cE 1 1).2.2.1 = false ∨ ((cE 1 1).2.2.1 = true ∧ (mY 22).name = "<init>" ∧ mO 22 = 1)) := ⟨by decide, by decide +kernel, by decide +kernel, Or.inr (by decide +kernel)⟩
theorem pf22_1_2 : 1 < 13 ∧ 2 < cW 1 ∧ fty 1 2 = 2 ∧ ((cE 1 2).2.2.1 = false ∨ ((cE 1 2).2.2.1 = true ∧ (mY 22).name = "<init>" ∧ mO 22 = 1)) := ⟨by decide, by decide +kernel, by decide +kernel, Or.inr (by decide +kernel)⟩
theorem pf36_2_1 : 2 < 13 ∧ 1 < cW 2 ∧ fty 2 1 = 2 ∧ ((cE 2 1).2.2.1 = false ∨ ((cE 2 1).2.2.1 = true ∧ (mY 36).name = "<init>" ∧ mO 36 = 2)) := ⟨by decide, by decide +kernel, by decide +kernel, Or.inr (by decide +kernel)⟩
theorem pf36_2_2 : 2 < 13 ∧ 2 < cW 2 ∧ fty 2 2 = 2 ∧ ((cE 2 2).2.2.1 = false ∨ ((cE 2 2).2.2.1 = true ∧ (mY 36).name = "<init>" ∧ mO 36 = 2)) := ⟨by decide, by decide +kernel, by decide +kernel, Or.inr (by decide +kernel)⟩
theorem pf36_2_3 : 2 < 13 ∧ 3 < cW 2 ∧ fty 2 3 = 2 ∧ ((cE 2 3).2.2.1 = false ∨ ((cE 2 3).2.2.1 = true ∧ (mY 36).name = "<init>" ∧ mO 36 = 2)) := ⟨by decide, by decide +kernel, by decide +kernel, Or.inr (by decide +kernel)⟩
theorem pf36_2_4 : 2 < 13 ∧ 4 < cW 2 ∧ fty 2 4 = 2 ∧ ((cE 2 4).2.2.1 = false ∨ ((cE 2 4).2.2.1 = true ∧ (mY 36).name = "<init>" ∧ mO 36 = 2)) := ⟨by decide, by decide +kernel, by decide +kernel, Or.inr (by decide +kernel)⟩
theorem pf43_3_1 : 3 < 13 ∧ 1 < cW 3 ∧ fty 3 1 = 2 ∧ ((cE 3 1).2.2.1 = false ∨ ((cE 3 1).2.2.1 = true ∧ (mY 43).name = "<init>" ∧ mO 43 = 3)) := ⟨by decide, by decide +kernel, by decide +kernel, Or.inr (by decide +kernel)⟩
theorem pf43_3_2 : 3 < 13 ∧ 2 < cW 3 ∧ fty 3 2 = 2 ∧ ((cE 3 2).2.2.1 = false ∨ ((cE 3 2).2.2.1 = true ∧ (mY 43).name = "<init>" ∧ mO 43 = 3)) := ⟨by decide, by decide +kernel, by decide +kernel, Or.inr (by decide +kernel)⟩
theorem pf45_4_2 : 4 < 13 ∧ 2 < cW 4 ∧ fty 4 2 = 2 ∧ ((cE 4 2).2.2.1 = false ∨ ((cE 4 2).2.2.1 = true ∧ (mY 45).name = "<init>" ∧ mO 45 = 4)) := ⟨by decide, by decide +kernel, by decide +kernel, Or.inr (by decide +kernel)⟩
theorem pf49_5_0 : 5 < 13 ∧ 0 < cW 5 ∧ fty 5 0 = 2 ∧ ((cE 5 0).2.2.1 = false ∨ ((cE 5 0).2.2.1 = true ∧ (mY 49).name = "<init>" ∧ mO 49 = 5)) := ⟨by decide, by decide +kernel, by decide +kernel, Or.inr (by decide +kernel)⟩
theorem pf49_5_1 : 5 < 13 ∧ 1 < cW 5 ∧ fty 5 1 = 2 ∧ ((cE 5 1).2.2.1 = false ∨ ((cE 5 1).2.2.1 = true ∧ (mY 49).name = "<init>" ∧ mO 49 = 5)) := ⟨by decide, by decide +kernel, by decide +kernel, Or.inr (by decide +kernel)⟩
theorem pf49_5_2 : 5 < 13 ∧ 2 < cW 5 ∧ fty 5 2 = 2 ∧ ((cE 5 2).2.2.1 = false ∨ ((cE 5 2).2.2.1 = true ∧ (mY 49).name = "<init>" ∧ mO 49 = 5)) := ⟨by decide, by decide +kernel, by decide +kernel, Or.inr (by decide +kernel)⟩
theorem pf54_6_3 : 6 < 13 ∧ 3 < cW 6 ∧ fty 6 3 = 2 ∧ ((cE 6 3).2.2.1 = false ∨ ((cE 6 3).2.2.1 = true ∧ (mY 54).name = "<init>" ∧ mO 54 = 6)) := ⟨by decide, by decide +kernel, by decide +kernel, Or.inr (by decide +kernel)⟩
theorem pf54_6_4 : 6 < 13 ∧ 4 < cW 6 ∧ fty 6 4 = 2 ∧ ((cE 6 4).2.2.1 = false ∨ ((cE 6 4).2.2.1 = true ∧ (mY 54).name = "<init>" ∧ mO 54 = 6)) := ⟨by decide, by decide +kernel, by decide +kernel, Or.inr (by decide +kernel)⟩
theorem pf76_7_0 : 7 < 13 ∧ 0 < cW 7 ∧ fty 7 0 = 2 ∧ ((cE 7 0).2.2.1 = false ∨ ((cE 7 0).2.2.1 = true ∧ (mY 76).name = "<init>" ∧ mO 76 = 7)) := ⟨by decide, by decide +kernel, by decide +kernel, Or.inr (by decide +kernel)⟩
theorem pf76_7_1 : 7 < 13 ∧ 1 < cW 7 ∧ fty 7 1 = 2 ∧ ((cE 7 1).2.2.1 = false ∨ ((cE 7 1).2.2.1 = true ∧ (mY 76).name = "<init>" ∧ mO 76 = 7)) := ⟨by decide, by decide +kernel, by decide +kernel, Or.inr (by decide +kernel)⟩
theorem pf76_7_2 : 7 < 13 ∧ 2 < cW 7 ∧ fty 7 2 = 2 ∧ ((cE 7 2).2.2.1 = false ∨ ((cE 7 2).2.2.1 = true ∧ (mY 76).name = "<init>" ∧ mO 76 = 7)) := ⟨by decide, by decide +kernel, by decide +kernel, Or.inr (by decide +kernel)⟩
theorem pf76_7_3 : 7 < 13 ∧ 3 < cW 7 ∧ fty 7 3 = 2 ∧ ((cE 7 3).2.2.1 = false ∨ ((cE 7 3).2.2.1 = true ∧ (mY 76).name = "<init>" ∧ mO 76 = 7)) := ⟨by decide, by decide +kernel, by decide +kernel, Or.inr (by decide +kernel)⟩
theorem pf86_8_1 : 8 < 13 ∧ 1 < cW 8 ∧ fty 8 1 = 2 ∧ ((cE 8 1).2.2.1 = false ∨ ((cE 8 1).2.2.1 = true ∧ (mY 86).name = "<init>" ∧ mO 86 = 8)) := ⟨by decide, by decide +kernel, by decide +kernel, Or.inr (by decide +kernel)⟩
theorem pf86_8_2 : 8 < 13 ∧ 2 < cW 8 ∧ fty 8 2 = 2 ∧ ((cE 8 2).2.2.1 = false ∨ ((cE 8 2).2.2.1 = true ∧ (mY 86).name = "<init>" ∧ mO 86 = 8)) := ⟨by decide, by decide +kernel, by decide +kernel, Or.inr (by decide +kernel)⟩
theorem pf87_9_3 : 9 < 13 ∧ 3 < cW 9 ∧ fty 9 3 = 2 ∧ ((cE 9 3).2.2.1 = false ∨ ((cE 9 3).2.2.1 = true ∧ (mY 87).name = "<init>" ∧ mO 87 = 9)) := ⟨by decide, by decide +kernel, by decide +kernel, Or.inr (by decide +kernel)⟩
theorem pf87_9_4 : 9 < 13 ∧ 4 < cW 9 ∧ fty 9 4 = 2 ∧ ((cE 9 4).2.2.1 = false ∨ ((cE 9 4).2.2.1 = true ∧ (mY 87).name = "<init>" ∧ mO 87 = 9)) := ⟨by decide, by decide +kernel, by decide +kernel, Or.inr (by decide +kernel)⟩
theorem pf87_9_5 : 9 < 13 ∧ 5 < cW 9 ∧ fty 9 5 = 2 ∧ ((cE 9 5).2.2.1 = false ∨ ((cE 9 5).2.2.1 = true ∧ (mY 87).name = "<init>" ∧ mO 87 = 9)) := ⟨by decide, by decide +kernel, by decide +kernel, Or.inr (by decide +kernel)⟩
theorem pf95_10_7 : 10 < 13 ∧ 7 < cW 10 ∧ fty 10 7 = 2 ∧ ((cE 10 7).2.2.1 = false ∨ ((cE 10 7).2.2.1 = true ∧ (mY 95).name = "<init>" ∧ mO 95 = 10)) := ⟨by decide, by decide +kernel, by decide +kernel, Or.inr (by decide +kernel)⟩
theorem pf95_10_8 : 10 < 13 ∧ 8 < cW 10 ∧ fty 10 8 = 2 ∧ ((cE 10 8).2.2.1 = false ∨ ((cE 10 8).2.2.1 = true ∧ (mY 95).name = "<init>" ∧ mO 95 = 10)) := ⟨by decide, by decide +kernel, by decide +kernel, Or.inr (by decide +kernel)⟩
theorem pf95_10_9 : 10 < 13 ∧ 9 < cW 10 ∧ fty 10 9 = 2 ∧ ((cE 10 9).2.2.1 = false ∨ ((cE 10 9).2.2.1 = true ∧ (mY 95).name = "<init>" ∧ mO 95 = 10)) := ⟨by decide, by decide +kernel, by decide +kernel, Or.inr (by decide +kernel)⟩
theorem pf95_10_10 : 10 < 13 ∧ 10 < cW 10 ∧ fty 10 10 = 2 ∧ ((cE 10 10).2.2.1 = false ∨ ((cE 10 10).2.2.1 = true ∧ (mY 95).name = "<init>" ∧ mO 95 = 10)) := ⟨by decide, by decide +kernel, by decide +kernel, Or.inr (by decide +kernel)⟩
theorem pf95_10_11 : 10 < 13 ∧ 11 < cW 10 ∧ fty 10 11 = 2 ∧ ((cE 10 11).2.2.1 = false ∨ ((cE 10 11).2.2.1 = true ∧ (mY 95).name = "<init>" ∧ mO 95 = 10)) := ⟨by decide, by decide +kernel, by decide +kernel, Or.inr (by decide +kernel)⟩
theorem pf95_10_12 : 10 < 13 ∧ 12 < cW 10 ∧ fty 10 12 = 2 ∧ ((cE 10 12).2.2.1 = false ∨ ((cE 10 12).2.2.1 = true ∧ (mY 95).name = "<init>" ∧ mO 95 = 10)) := ⟨by decide, by decide +kernel, by decide +kernel, Or.inr (by decide +kernel)⟩
theorem pf95_10_13 : 10 < 13 ∧ 13 < cW 10 ∧ fty 10 13 = 2 ∧ ((cE 10 13).2.2.1 = false ∨ ((cE 10 13).2.2.1 = true ∧ (mY 95).name = "<init>" ∧ mO 95 = 10)) := ⟨by decide, by decide +kernel, by decide +kernel, Or.inr (by decide +kernel)⟩
theorem pf102_11_0 : 11 < 13 ∧ 0 < cW 11 ∧ fty 11 0 = 2 ∧ ((cE 11 0).2.2.1 = false ∨ ((cE 11 0).2.2.1 = true ∧ (mY 102).name = "<init>" ∧ mO 102 = 11)) := ⟨by decide, by decide +kernel, by decide +kernel, Or.inr (by decide +kernel)⟩
theorem pf102_11_2 : 11 < 13 ∧ 2 < cW 11 ∧ fty 11 2 = 2 ∧ ((cE 11 2).2.2.1 = false ∨ ((cE 11 2).2.2.1 = true ∧ (mY 102).name = "<init>" ∧ mO 102 = 11)) := ⟨by decide, by decide +kernel, by decide +kernel, Or.inr (by decide +kernel)⟩
theorem pf102_11_4 : 11 < 13 ∧ 4 < cW 11 ∧ fty 11 4 = 2 ∧ ((cE 11 4).2.2.1 = false ∨ ((cE 11 4).2.2.1 = true ∧ (mY 102).name = "<init>" ∧ mO 102 = 11)) := ⟨by decide, by decide +kernel, by decide +kernel, Or.inr (by decide +kernel)⟩
theorem pf102_11_5 : 11 < 13 ∧ 5 < cW 11 ∧ fty 11 5 = 2 ∧ ((cE 11 5).2.2.1 = false ∨ ((cE 11 5).2.2.1 = true ∧ (mY 102).name = "<init>" ∧ mO 102 = 11)) := ⟨by decide, by decide +kernel, by decide +kernel, Or.inr (by decide +kernel)⟩
theorem pf102_11_6 : 11 < 13 ∧ 6 < cW 11 ∧ fty 11 6 = 2 ∧ ((cE 11 6).2.2.1 = false ∨ ((cE 11 6).2.2.1 = true ∧ (mY 102).name = "<init>" ∧ mO 102 = 11)) := ⟨by decide, by decide +kernel, by decide +kernel, Or.inr (by decide +kernel)⟩
theorem pf102_11_7 : 11 < 13 ∧ 7 < cW 11 ∧ fty 11 7 = 2 ∧ ((cE 11 7).2.2.1 = false ∨ ((cE 11 7).2.2.1 = true ∧ (mY 102).name = "<init>" ∧ mO 102 = 11)) := ⟨by decide, by decide +kernel, by decide +kernel, Or.inr (by decide +kernel)⟩
theorem pf102_11_8 : 11 < 13 ∧ 8 < cW 11 ∧ fty 11 8 = 2 ∧ ((cE 11 8).2.2.1 = false ∨ ((cE 11 8).2.2.1 = true ∧ (mY 102).name = "<init>" ∧ mO 102 = 11)) := ⟨by decide, by decide +kernel, by decide +kernel, Or.inr (by decide +kernel)⟩
theorem pf102_11_9 : 11 < 13 ∧ 9 < cW 11 ∧ fty 11 9 = 2 ∧ ((cE 11 9).2.2.1 = false ∨ ((cE 11 9).2.2.1 = true ∧ (mY 102).name = "<init>" ∧ mO 102 = 11)) := ⟨by decide, by decide +kernel, by decide +kernel, Or.inr (by decide +kernel)⟩
theorem pf102_11_10 : 11 < 13 ∧ 10 < cW 11 ∧ fty 11 10 = 2 ∧ ((cE 11 10).2.2.1 = false ∨ ((cE 11 10).2.2.1 = true ∧ (mY 102).name = "<init>" ∧ mO 102 = 11)) := ⟨by decide, by decide +kernel, by decide +kernel, Or.inr (by decide +kernel)⟩
theorem pf102_11_11 : 11 < 13 ∧ 11 < cW 11 ∧ fty 11 11 = 2 ∧ ((cE 11 11).2.2.1 = false ∨ ((cE 11 11).2.2.1 = true ∧ (mY 102).name = "<init>" ∧ mO 102 = 11)) := ⟨by decide, by decide +kernel, by decide +kernel, Or.inr (by decide +kernel)⟩
theorem pf147_12_1 : 12 < 13 ∧ 1 < cW 12 ∧ fty 12 1 = 2 ∧ ((cE 12 1).2.2.1 = false ∨ ((cE 12 1).2.2.1 = true ∧ (mY 147).name = "<init>" ∧ mO 147 = 12)) := ⟨by decide, by decide +kernel, by decide +kernel, Or.inr (by decide +kernel)⟩
theorem pf147_12_3 : 12 < 13 ∧ 3 < cW 12 ∧ fty 12 3 = 2 ∧ ((cE 12 3).2.2.1 = false ∨ ((cE 12 3).2.2.1 = true ∧ (mY 147).name = "<init>" ∧ mO 147 = 12)) := ⟨by decide, by decide +kernel, by decide +kernel, Or.inr (by decide +kernel)⟩
theorem pf147_12_5 : 12 < 13 ∧ 5 < cW 12 ∧ fty 12 5 = 2 ∧ ((cE 12 5).2.2.1 = false ∨ ((cE 12 5).2.2.1 = true ∧ (mY 147).name = "<init>" ∧ mO 147 = 12)) := ⟨by decide, by decide +kernel, by decide +kernel, Or.inr (by decide +kernel)⟩
theorem pf147_12_6 : 12 < 13 ∧ 6 < cW 12 ∧ fty 12 6 = 2 ∧ ((cE 12 6).2.2.1 = false ∨ ((cE 12 6).2.2.1 = true ∧ (mY 147).name = "<init>" ∧ mO 147 = 12)) := ⟨by decide, by decide +kernel, by decide +kernel, Or.inr (by decide +kernel)⟩
theorem pf147_12_7 : 12 < 13 ∧ 7 < cW 12 ∧ fty 12 7 = 2 ∧ ((cE 12 7).2.2.1 = false ∨ ((cE 12 7).2.2.1 = true ∧ (mY 147).name = "<init>" ∧ mO 147 = 12)) := ⟨by decide, by decide +kernel, by decide +kernel, Or.inr (by decide +kernel)⟩
theorem pf147_12_8 : 12 < 13 ∧ 8 < cW 12 ∧ fty 12 8 = 2 ∧ ((cE 12 8).2.2.1 = false ∨ ((cE 12 8).2.2.1 = true ∧ (mY 147).name = "<init>" ∧ mO 147 = 12)) := ⟨by decide, by decide +kernel, by decide +kernel, Or.inr (by decide +kernel)⟩
theorem pf147_12_9 : 12 < 13 ∧ 9 < cW 12 ∧ fty 12 9 = 2 ∧ ((cE 12 9).2.2.1 = false ∨ ((cE 12 9).2.2.1 = true ∧ (mY 147).name = "<init>" ∧ mO 147 = 12)) := ⟨by decide, by decide +kernel, by decide +kernel, Or.inr (by decide +kernel)⟩
theorem pf147_12_21 : 12 < 13 ∧ 21 < cW 12 ∧ fty 12 21 = 2 ∧ ((cE 12 21).2.2.1 = false ∨ ((cE 12 21).2.2.1 = true ∧ (mY 147).name = "<init>" ∧ mO 147 = 12)) := ⟨by decide, by decide +kernel, by decide +kernel, Or.inr (by decide +kernel)⟩
theorem pf147_12_22 : 12 < 13 ∧ 22 < cW 12 ∧ fty 12 22 = 2 ∧ ((cE 12 22).2.2.1 = false ∨ ((cE 12 22).2.2.1 = true ∧ (mY 147).name = "<init>" ∧ mO 147 = 12)) := ⟨by decide, by decide +kernel, by decide +kernel, Or.inr (by decide +kernel)⟩
theorem pf147_12_23 : 12 < 13 ∧ 23 < cW 12 ∧ fty 12 23 = 2 ∧ ((cE 12 23).2.2.1 = false ∨ ((cE 12 23).2.2.1 = true ∧ (mY 147).name = "<init>" ∧ mO 147 = 12)) := ⟨by decide, by decide +kernel, by decide +kernel, Or.inr (by decide +kernel)⟩
theorem pf147_12_24 : 12 < 13 ∧ 24 < cW 12 ∧ fty 12 24 = 2 ∧ ((cE 12 24).2.2.1 = false ∨ ((cE 12 24).2.2.1 = true ∧ (mY 147).name = "<init>" ∧ mO 147 = 12)) := ⟨by decide, by decide +kernel, by decide +kernel, Or.inr (by decide +kernel)⟩
theorem pf147_12_25 : 12 < 13 ∧ 25 < cW 12 ∧ fty 12 25 = 2 ∧ ((cE 12 25).2.2.1 = false ∨ ((cE 12 25).2.2.1 = true ∧ (mY 147).name = "<init>" ∧ mO 147 = 12)) := ⟨by decide, by decide +kernel, by decide +kernel, Or.inr (by decide +kernel)⟩
theorem pf147_12_26 : 12 < 13 ∧ 26 < cW 12 ∧ fty 12 26 = 2 ∧ ((cE 12 26).2.2.1 = false ∨ ((cE 12 26).2.2.1 = true ∧ (mY 147).name = "<init>" ∧ mO 147 = 12)) := ⟨by decide, by decide +kernel, by decide +kernel, Or.inr (by decide +kernel)⟩
theorem pf147_12_27 : 12 < 13 ∧ 27 < cW 12 ∧ fty 12 27 = 2 ∧ ((cE 12 27).2.2.1 = false ∨ ((cE 12 27).2.2.1 = true ∧ (mY 147).name = "<init>" ∧ mO 147 = 12)) := ⟨by decide, by decide +kernel, by decide +kernel, Or.inr (by decide +kernel)⟩
theorem pf147_12_28 : 12 < 13 ∧ 28 < cW 12 ∧ fty 12 28 = 2 ∧ ((cE 12 28).2.2.1 = false ∨ ((cE 12 28).2.2.1 = true ∧ (mY 147).name = "<init>" ∧ mO 147 = 12)) := ⟨by decide, by decide +kernel, by decide +kernel, Or.inr (by decide +kernel)⟩
theorem pf147_12_29 : 12 < 13 ∧ 29 < cW 12 ∧ fty 12 29 = 2 ∧ ((cE 12 29).2.2.1 = false ∨ ((cE 12 29).2.2.1 = true ∧ (mY 147).name = "<init>" ∧ mO 147 = 12)) := ⟨by decide, by decide +kernel, by decide +kernel, Or.inr (by decide +kernel)⟩
theorem pf147_12_30 : 12 < 13 ∧ 30 < cW 12 ∧ fty 12 30 = 2 ∧ ((cE 12 30).2.2.1 = false ∨ ((cE 12 30).2.2.1 = true ∧ (mY 147).name = "<init>" ∧ mO 147 = 12)) := ⟨by decide, by decide +kernel, by decide +kernel, Or.inr (by decide +kernel)⟩
theorem pf147_12_31 : 12 < 13 ∧ 31 < cW 12 ∧ fty 12 31 = 2 ∧ ((cE 12 31).2.2.1 = false ∨ ((cE 12 31).2.2.1 = true ∧ (mY 147).name = "<init>" ∧ mO 147 = 12)) := ⟨by decide, by decide +kernel, by decide +kernel, Or.inr (by decide +kernel)⟩
theorem pf147_12_32 : 12 < 13 ∧ 32 < cW 12 ∧ fty 12 32 = 2 ∧ ((cE 12 32).2.2.1 = false ∨ ((cE 12 32).2.2.1 = true ∧ (mY 147).name = "<init>" ∧ mO 147 = 12)) := ⟨by decide, by decide +kernel, by decide +kernel, Or.inr (by decide +kernel)⟩
theorem pf147_12_33 : 12 < 13 ∧ 33 < cW 12 ∧ fty 12 33 = 2 ∧ ((cE 12 33).2.2.1 = false ∨ ((cE 12 33).2.2.1 = true ∧ (mY 147).name = "<init>" ∧ mO 147 = 12)) := ⟨by decide, by decide +kernel, by decide +kernel, Or.inr (by decide +kernel)⟩
theorem pf147_12_34 : 12 < 13 ∧ 34 < cW 12 ∧ fty 12 34 = 2 ∧ ((cE 12 34).2.2.1 = false ∨ ((cE 12 34).2.2.1 = true ∧ (mY 147).name = "<init>" ∧ mO 147 = 12)) := ⟨by decide, by decide +kernel, by decide +kernel, Or.inr (by decide +kernel)⟩
theorem pf147_12_36 : 12 < 13 ∧ 36 < cW 12 ∧ fty 12 36 = 2 ∧ ((cE 12 36).2.2.1 = false ∨ ((cE 12 36).2.2.1 = true ∧ (mY 147).name = "<init>" ∧ mO 147 = 12)) := ⟨by decide, by decide +kernel, by decide +kernel, Or.inr (by decide +kernel)⟩
theorem pf147_12_37 : 12 < 13 ∧ 37 < cW 12 ∧ fty 12 37 = 2 ∧ ((cE 12 37).2.2.1 = false ∨ ((cE 12 37).2.2.1 = true ∧ (mY 147).name = "<init>" ∧ mO 147 = 12)) := ⟨by decide, by decide +kernel, by decide +kernel, Or.inr (by decide +kernel)⟩
theorem pf147_12_38 : 12 < 13 ∧ 38 < cW 12 ∧ fty 12 38 = 2 ∧ ((cE 12 38).2.2.1 = false ∨ ((cE 12 38).2.2.1 = true ∧ (mY 147).name = "<init>" ∧ mO 147 = 12)) := ⟨by decide, by decide +kernel, by decide +kernel, Or.inr (by decide +kernel)⟩
theorem pf147_12_39 : 12 < 13 ∧ 39 < cW 12 ∧ fty 12 39 = 2 ∧ ((cE 12 39).2.2.1 = false ∨ ((cE 12 39).2.2.1 = true ∧ (mY 147).name = "<init>" ∧ mO 147 = 12)) := ⟨by decide, by decide +kernel, by decide +kernel, Or.inr (by decide +kernel)⟩
theorem pf147_12_40 : 12 < 13 ∧ 40 < cW 12 ∧ fty 12 40 = 2 ∧ ((cE 12 40).2.2.1 = false ∨ ((cE 12 40).2.2.1 = true ∧ (mY 147).name = "<init>" ∧ mO 147 = 12)) := ⟨by decide, by decide +kernel, by decide +kernel, Or.inr (by decide +kernel)⟩
theorem pf147_12_42 : 12 < 13 ∧ 42 < cW 12 ∧ fty 12 42 = 2 ∧ ((cE 12 42).2.2.1 = false ∨ ((cE 12 42).2.2.1 = true ∧ (mY 147).name = "<init>" ∧ mO 147 = 12)) := ⟨by decide, by decide +kernel, by decide +kernel, Or.inr (by decide +kernel)⟩
theorem pf147_12_43 : 12 < 13 ∧ 43 < cW 12 ∧ fty 12 43 = 2 ∧ ((cE 12 43).2.2.1 = false ∨ ((cE 12 43).2.2.1 = true ∧ (mY 147).name = "<init>" ∧ mO 147 = 12)) := ⟨by decide, by decide +kernel, by decide +kernel, Or.inr (by decide +kernel)⟩
theorem pf147_12_44 : 12 < 13 ∧ 44 < cW 12 ∧ fty 12 44 = 2 ∧ ((cE 12 44).2.2.1 = false ∨ ((cE 12 44).2.2.1 = true ∧ (mY 147).name = "<init>" ∧ mO 147 = 12)) := ⟨by decide, by decide +kernel, by decide +kernel, Or.inr (by decide +kernel)⟩
theorem pf147_12_46 : 12 < 13 ∧ 46 < cW 12 ∧ fty 12 46 = 2 ∧ ((cE 12 46).2.2.1 = false ∨ ((cE 12 46).2.2.1 = true ∧ (mY 147).name = "<init>" ∧ mO 147 = 12)) := ⟨by decide, by decide +kernel, by decide +kernel, Or.inr (by decide +kernel)⟩
theorem pf147_12_47 : 12 < 13 ∧ 47 < cW 12 ∧ fty 12 47 = 2 ∧ ((cE 12 47).2.2.1 = false ∨ ((cE 12 47).2.2.1 = true ∧ (mY 147).name = "<init>" ∧ mO 147 = 12)) := ⟨by decide, by decide +kernel, by decide +kernel, Or.inr (by decide +kernel)⟩
theorem pf147_12_49 : 12 < 13 ∧ 49 < cW 12 ∧ fty 12 49 = 2 ∧ ((cE 12 49).2.2.1 = false ∨ ((cE 12 49).2.2.1 = true ∧ (mY 147).name = "<init>" ∧ mO 147 = 12)) := ⟨by decide, by decide +kernel, by decide +kernel, Or.inr (by decide +kernel)⟩
theorem pf147_12_50 : 12 < 13 ∧ 50 < cW 12 ∧ fty 12 50 = 2 ∧ ((cE 12 50).2.2.1 = false ∨ ((cE 12 50).2.2.1 = true ∧ (mY 147).name = "<init>" ∧ mO 147 = 12)) := ⟨by decide, by decide +kernel, by decide +kernel, Or.inr (by decide +kernel)⟩
theorem pf147_12_56 : 12 < 13 ∧ 56 < cW 12 ∧ fty 12 56 = 2 ∧ ((cE 12 56).2.2.1 = false ∨ ((cE 12 56).2.2.1 = true ∧ (mY 147).name = "<init>" ∧ mO 147 = 12)) := ⟨by decide, by decide +kernel, by decide +kernel, Or.inr (by decide +kernel)⟩
theorem pf147_12_57 : 12 < 13 ∧ 57 < cW 12 ∧ fty 12 57 = 2 ∧ ((cE 12 57).2.2.1 = false ∨ ((cE 12 57).2.2.1 = true ∧ (mY 147).name = "<init>" ∧ mO 147 = 12)) := ⟨by decide, by decide +kernel, by decide +kernel, Or.inr (by decide +kernel)⟩
theorem pf147_12_59 : 12 < 13 ∧ 59 < cW 12 ∧ fty 12 59 = 2 ∧ ((cE 12 59).2.2.1 = false ∨ ((cE 12 59).2.2.1 = true ∧ (mY 147).name = "<init>" ∧ mO 147 = 12)) := ⟨by decide, by decide +kernel, by decide +kernel, Or.inr (by decide +kernel)⟩
theorem pf147_12_60 : 12 < 13 ∧ 60 < cW 12 ∧ fty 12 60 = 2 ∧ ((cE 12 60).2.2.1 = false ∨ ((cE 12 60).2.2.1 = true ∧ (mY 147).name = "<init>" ∧ mO 147 = 12)) := ⟨by decide, by decide +kernel, by decide +kernel, Or.inr (by decide +kernel)⟩
theorem pf147_12_61 : 12 < 13 ∧ 61 < cW 12 ∧ fty 12 61 = 2 ∧ ((cE 12 61).2.2.1 = false ∨ ((cE 12 61).2.2.1 = true ∧ (mY 147).name = "<init>" ∧ mO 147 = 12)) := ⟨by decide, by decide +kernel, by decide +kernel, Or.inr (by decide +kernel)⟩
theorem pf147_12_62 : 12 < 13 ∧ 62 < cW 12 ∧ fty 12 62 = 2 ∧ ((cE 12 62).2.2.1 = false ∨ ((cE 12 62).2.2.1 = true ∧ (mY 147).name = "<init>" ∧ mO 147 = 12)) := ⟨by decide, by decide +kernel, by decide +kernel, Or.inr (by decide +kernel)⟩
theorem pf147_12_64 : 12 < 13 ∧ 64 < cW 12 ∧ fty 12 64 = 2 ∧ ((cE 12 64).2.2.1 = false ∨ ((cE 12 64).2.2.1 = true ∧ (mY 147).name = "<init>" ∧ mO 147 = 12)) := ⟨by decide, by decide +kernel, by decide +kernel, Or.inr (by decide +kernel)⟩
theorem pf147_12_65 : 12 < 13 ∧ 65 < cW 12 ∧ fty 12 65 = 2 ∧ ((cE 12 65).2.2.1 = false ∨ ((cE 12 65).2.2.1 = true ∧ (mY 147).name = "<init>" ∧ mO 147 = 12)) := ⟨by decide, by decide +kernel, by decide +kernel, Or.inr (by decide +kernel)⟩
theorem pf147_12_66 : 12 < 13 ∧ 66 < cW 12 ∧ fty 12 66 = 2 ∧ ((cE 12 66).2.2.1 = false ∨ ((cE 12 66).2.2.1 = true ∧ (mY 147).name = "<init>" ∧ mO 147 = 12)) := ⟨by decide, by decide +kernel, by decide +kernel, Or.inr (by decide +kernel)⟩
theorem pf147_12_67 : 12 < 13 ∧ 67 < cW 12 ∧ fty 12 67 = 2 ∧ ((cE 12 67).2.2.1 = false ∨ ((cE 12 67).2.2.1 = true ∧ (mY 147).name = "<init>" ∧ mO 147 = 12)) := ⟨by decide, by decide +kernel, by decide +kernel, Or.inr (by decide +kernel)⟩
theorem cq3 (a0 : Nat) (x1 : Int) : (3 ≤ 3 ∧ 3 < 241) ∧ (mP 3).1 = 0 ∧ 13 < 14 ∧ mO 3 = 13 ∧ (mP 3).2.1 = ([.inl x1] : List AV).length ∧ catS (.inr (.inr a0) :: [.inl x1]) ≤ mL 3 := ⟨by decide, by decide +kernel, by decide, by decide +kernel, (show (mP 3).2.1 = 1 by decide +kernel), (show 2 ≤ mL 3 by decide +kernel)⟩
theorem cq4 (x0 : Int) (x1 : Int) : ((0 : Nat) = 0 ∨ (0 : Nat) = 1) ∧ (3 ≤ 4 ∧ 4 < 241) ∧ (mP 4).1 = 1 ∧ (mP 4).2.1 = ([.inl x0, .inl x1] : List AV).length ∧ catS [.inl x0, .inl x1] ≤ mL 4 := ⟨by decide, by decide, by decide +kernel, (show (mP 4).2.1 = 2 by decide +kernel), (show 2 ≤ mL 4 by decide +kernel)⟩
theorem cq5 (a0 : Nat) : (3 ≤ 5 ∧ 5 < 241) ∧ (mP 5).1 = 0 ∧ 13 < 14 ∧ mO 5 = 13 ∧ (mP 5).2.1 = ([] : List AV).length ∧ catS (.inr (.inr a0) :: []) ≤ mL 5 := ⟨by decide, by decide +kernel, by decide, by decide +kernel, (show (mP 5).2.1 = 0 by decide +kernel), (show 1 ≤ mL 5 by decide +kernel)⟩
theorem cq6 (a0 : Nat) (x1 : Int) : (3 ≤ 6 ∧ 6 < 241) ∧ (mP 6).1 = 0 ∧ 13 < 14 ∧ mO 6 = 13 ∧ (mP 6).2.1 = ([.inl x1] : List AV).length ∧ catS (.inr (.inr a0) :: [.inl x1]) ≤ mL 6 := ⟨by decide, by decide +kernel, by decide, by decide +kernel, (show (mP 6).2.1 = 1 by decide +kernel), (show 2 ≤ mL 6 by decide +kernel)⟩
theorem cq7 (a0 : Nat) (x1 : Int) (x2 : Int) : (3 ≤ 7 ∧ 7 < 241) ∧ (mP 7).1 = 0 ∧ 13 < 14 ∧ mO 7 = 13 ∧ (mP 7).2.1 = ([.inl x1, .inl x2] : List AV).length ∧ catS (.inr (.inr a0) :: [.inl x1, .inl x2]) ≤ mL 7 := ⟨by decide, by decide +kernel, by decide, by decide +kernel, (show (mP 7).2.1 = 2 by decide +kernel), (show 3 ≤ mL 7 by decide +kernel)⟩
theorem cq8 (a0 : Nat) : (3 ≤ 8 ∧ 8 < 241) ∧ (mP 8).1 = 0 ∧ 13 < 14 ∧ mO 8 = 13 ∧ (mP 8).2.1 = ([] : List AV).length ∧ catS (.inr (.inr a0) :: []) ≤ mL 8 := ⟨by decide, by decide +kernel, by decide, by decide +kernel, (show (mP 8).2.1 = 0 by decide +kernel), (show 1 ≤ mL 8 by decide +kernel)⟩
theorem cq9 (a0 : Nat) : (3 ≤ 9 ∧ 9 < 241) ∧ (mP 9).1 = 0 ∧ 13 < 14 ∧ mO 9 = 13 ∧ (mP 9).2.1 = ([] : List AV).length ∧ catS (.inr (.inr a0) :: []) ≤ mL 9 := ⟨by decide, by decide +kernel, by decide, by decide +kernel, (show (mP 9).2.1 = 0 by decide +kernel), (show 1 ≤ mL 9 by decide +kernel)⟩
theorem cq10 (x0 : Int) : ((0 : Nat) = 0 ∨ (0 : Nat) = 1) ∧ (3 ≤ 10 ∧ 10 < 241) ∧ (mP 10).1 = 1 ∧ (mP 10).2.1 = ([.inl x0] : List AV).length ∧ catS [.inl x0] ≤ mL 10 := ⟨by decide, by decide, by decide +kernel, (show (mP 10).2.1 = 1 by decide +kernel), (show 1 ≤ mL 10 by decide +kernel)⟩
theorem cq11 (a0 : Nat) (x1 : Int) : ((0 : Nat) = 0 ∨ (0 : Nat) = 1) ∧ (3 ≤ 11 ∧ 11 < 241) ∧ (mP 11).1 = 1 ∧ (mP 11).2.1 = ([.inr (.inr a0), .inl x1] : List AV).length ∧ catS [.inr (.inr a0), .inl x1] ≤ mL 11 := ⟨by decide, by decide, by decide +kernel, (show (mP 11).2.1 = 2 by decide +kernel), (show 2 ≤ mL 11 by decide +kernel)⟩
theorem cq12 (a0 : Nat) (x1 : Int) (x2 : Int) (x3 : Int) : ((0 : Nat) = 0 ∨ (0 : Nat) = 1) ∧ (3 ≤ 12 ∧ 12 < 241) ∧ (mP 12).1 = 1 ∧ (mP 12).2.1 = ([.inr (.inr a0), .inl x1, .inl x2, .inl x3] : List AV).length ∧ catS [.inr (.inr a0), .inl x1, .inl x2, .inl x3] ≤ mL 12 := ⟨by decide, by decide, by decide +kernel, (show (mP 12).2.1 = 4 by decide +kernel), (show 4 ≤ mL 12 by decide +kernel)⟩
theorem cq13 (a0 : Nat) (x1 : Int) (x2 : Int) (x3 : Int) : ((0 : Nat) = 0 ∨ (0 : Nat) = 1) ∧ (3 ≤ 13 ∧ 13 < 241) ∧ (mP 13).1 = 1 ∧ (mP 13).2.1 = ([.inr (.inr a0), .inl x1, .inl x2, .inl x3] : List AV).length ∧ catS [.inr (.inr a0), .inl x1, .inl x2, .inl x3] ≤ mL 13 := ⟨by decide, by decide, by decide +kernel, (show (mP 13).2.1 = 4 by decide +kernel), (show 4 ≤ mL 13 by decide +kernel)⟩
theorem cq14 (x0 : Int) (x1 : Int) (a2 : Nat) : ((0 : Nat) = 0 ∨ (0 : Nat) = 1) ∧ (3 ≤ 14 ∧ 14 < 241) ∧ (mP 14).1 = 1 ∧ (mP 14).2.1 = ([.inl x0, .inl x1, .inr (.inr a2)] : List AV).length ∧ catS [.inl x0, .inl x1, .inr (.inr a2)] ≤ mL 14 := ⟨by decide, by decide, by decide +kernel, (show (mP 14).2.1 = 3 by decide +kernel), (show 3 ≤ mL 14 by decide +kernel)⟩
theorem cq15 (a0 : Nat) : ((1 : Nat) = 0 ∨ (1 : Nat) = 1) ∧ (3 ≤ 15 ∧ 15 < 241) ∧ (mP 15).1 = 2 ∧ (mP 15).2.1 = ([] : List AV).length ∧ catS (.inr (.inr a0) :: []) ≤ mL 15 ∧ 0 ≠ 99 := ⟨by decide, by decide, by decide +kernel, (show (mP 15).2.1 = 0 by decide +kernel), (show 1 ≤ mL 15 by decide +kernel), by decide⟩
theorem cq16 (a0 : Nat) (a1 : Nat) : (3 ≤ 16 ∧ 16 < 241) ∧ (mP 16).1 = 0 ∧ 0 < 14 ∧ mO 16 = 0 ∧ (mP 16).2.1 = ([.inr (.inr a1)] : List AV).length ∧ catS (.inr (.inr a0) :: [.inr (.inr a1)]) ≤ mL 16 := ⟨by decide, by decide +kernel, by decide, by decide +kernel, (show (mP 16).2.1 = 1 by decide +kernel), (show 2 ≤ mL 16 by decide +kernel)⟩
theorem cq17 (a0 : Nat) (a1 : Nat) (x2 : Int) : (3 ≤ 17 ∧ 17 < 241) ∧ (mP 17).1 = 0 ∧ 0 < 14 ∧ mO 17 = 0 ∧ (mP 17).2.1 = ([.inr (.inr a1), .inl x2] : List AV).length ∧ catS (.inr (.inr a0) :: [.inr (.inr a1), .inl x2]) ≤ mL 17 := ⟨by decide, by decide +kernel, by decide, by decide +kernel, (show (mP 17).2.1 = 2 by decide +kernel), (show 3 ≤ mL 17 by decide +kernel)⟩
theorem cq18 (a0 : Nat) (x1 : Int) (x2 : Int) : (3 ≤ 18 ∧ 18 < 241) ∧ (mP 18).1 = 0 ∧ 0 < 14 ∧ mO 18 = 0 ∧ (mP 18).2.1 = ([.inl x1, .inl x2] : List AV).length ∧ catS (.inr (.inr a0) :: [.inl x1, .inl x2]) ≤ mL 18 := ⟨by decide, by decide +kernel, by decide, by decide +kernel, (show (mP 18).2.1 = 2 by decide +kernel), (show 3 ≤ mL 18 by decide +kernel)⟩
theorem cq19 (a0 : Nat) (x1 : Int) : (3 ≤ 19 ∧ 19 < 241) ∧ (mP 19).1 = 0 ∧ 0 < 14 ∧ mO 19 = 0 ∧ (mP 19).2.1 = ([.inl x1] : List AV).length ∧ catS (.inr (.inr a0) :: [.inl x1]) ≤ mL 19 := ⟨by decide, by decide +kernel, by decide, by decide +kernel, (show (mP 19).2.1 = 1 by decide +kernel), (show 2 ≤ mL 19 by decide +kernel)⟩
theorem cq20 (a0 : Nat) (x1 : Int) (x2 : Int) : (3 ≤ 20 ∧ 20 < 241) ∧ (mP 20).1 = 0 ∧ 0 < 14 ∧ mO 20 = 0 ∧ (mP 20).2.1 = ([.inl x1, .inl x2] : List AV).length ∧ catS (.inr (.inr a0) :: [.inl x1, .inl x2]) ≤ mL 20 := ⟨by decide, by decide +kernel, by decide, by decide +kernel, (show (mP 20).2.1 = 2 by decide +kernel), (show 3 ≤ mL 20 by decide +kernel)⟩
theorem cq21 (a0 : Nat) (x1 : Int) : (3 ≤ 21 ∧ 21 < 241) ∧ (mP 21).1 = 0 ∧ 0 < 14 ∧ mO 21 = 0 ∧ (mP 21).2.1 = ([.inl x1] : List AV).length ∧ catS (.inr (.inr a0) :: [.inl x1]) ≤ mL 21 := ⟨by decide, by decide +kernel, by decide, by decide +kernel, (show (mP 21).2.1 = 1 by decide +kernel), (show 2 ≤ mL 21 by decide +kernel)⟩
theorem cq22 (a0 : Nat) : ((1 : Nat) = 0 ∨ (1 : Nat) = 1) ∧ (3 ≤ 22 ∧ 22 < 241) ∧ (mP 22).1 = 2 ∧ (mP 22).2.1 = ([] : List AV).length ∧ catS (.inr (.inr a0) :: []) ≤ mL 22 ∧ 1 ≠ 99 := ⟨by decide, by decide, by decide +kernel, (show (mP 22).2.1 = 0 by decide +kernel), (show 1 ≤ mL 22 by decide +kernel), by decide⟩
theorem cq23 (x0 : Int) (x1 : Int) : ((0 : Nat) = 0 ∨ (0 : Nat) = 1) ∧ (3 ≤ 23 ∧ 23 < 241) ∧ (mP 23).1 = 1 ∧ (mP 23).2.1 = ([.inl x0, .inl x1] : List AV).length ∧ catS [.inl x0, .inl x1] ≤ mL 23 := ⟨by decide, by decide, by decide +kernel, (show (mP 23).2.1 = 2 by decide +kernel), (show 2 ≤ mL 23 by decide +kernel)⟩
theorem cq24 (x0 : Int) (x1 : Int) (x2 : Int) : ((0 : Nat) = 0 ∨ (0 : Nat) = 1) ∧ (3 ≤ 24 ∧ 24 < 241) ∧ (mP 24).1 = 1 ∧ (mP 24).2.1 = ([.inl x0, .inl x1, .inl x2] : List AV).length ∧ catS [.inl x0, .inl x1, .inl x2] ≤ mL 24 := ⟨by decide, by decide, by decide +kernel, (show (mP 24).2.1 = 3 by decide +kernel), (show 3 ≤ mL 24 by decide +kernel)⟩
theorem cq25 (a0 : Nat) (a1 : Nat) (x2 : Int) (x3 : Int) (x4 : Int) : ((0 : Nat) = 0 ∨ (0 : Nat) = 1) ∧ (3 ≤ 25 ∧ 25 < 241) ∧ (mP 25).1 = 1 ∧ (mP 25).2.1 = ([.inr (.inr a0), .inr (.inr a1), .inl x2, .inl x3, .inl x4] : List AV).length ∧ catS [.inr (.inr a0), .inr (.inr a1), .inl x2, .inl x3, .inl x4] ≤ mL 25 := ⟨by decide, by decide, by decide +kernel, (show (mP 25).2.1 = 5 by decide +kernel), (show 5 ≤ mL 25 by decide +kernel)⟩
theorem cq26 (a0 : Nat) (a1 : Nat) (a2 : Nat) (x3 : Int) : (3 ≤ 26 ∧ 26 < 241) ∧ (mP 26).1 = 0 ∧ 1 < 14 ∧ mO 26 = 1 ∧ (mP 26).2.1 = ([.inr (.inr a1), .inr (.inr a2), .inl x3] : List AV).length ∧ catS (.inr (.inr a0) :: [.inr (.inr a1), .inr (.inr a2), .inl x3]) ≤ mL 26 := ⟨by decide, by decide +kernel, by decide, by decide +kernel, (show (mP 26).2.1 = 3 by decide +kernel), (show 4 ≤ mL 26 by decide +kernel)⟩
theorem cq27 (a0 : Nat) (a1 : Nat) (x2 : Int) (x3 : Int) : (3 ≤ 27 ∧ 27 < 241) ∧ (mP 27).1 = 0 ∧ 1 < 14 ∧ mO 27 = 1 ∧ (mP 27).2.1 = ([.inr (.inr a1), .inl x2, .inl x3] : List AV).length ∧ catS (.inr (.inr a0) :: [.inr (.inr a1), .inl x2, .inl x3]) ≤ mL 27 := ⟨by decide, by decide +kernel, by decide, by decide +kernel, (show (mP 27).2.1 = 3 by decide +kernel), (show 4 ≤ mL 27 by decide +kernel)⟩
theorem cq28 (a0 : Nat) (a1 : Nat) (x2 : Int) (x3 : Int) : (3 ≤ 28 ∧ 28 < 241) ∧ (mP 28).1 = 0 ∧ 1 < 14 ∧ mO 28 = 1 ∧ (mP 28).2.1 = ([.inr (.inr a1), .inl x2, .inl x3] : List AV).length ∧ catS (.inr (.inr a0) :: [.inr (.inr a1), .inl x2, .inl x3]) ≤ mL 28 := ⟨by decide, by decide +kernel, by decide, by decide +kernel, (show (mP 28).2.1 = 3 by decide +kernel), (show 4 ≤ mL 28 by decide +kernel)⟩
theorem cq29 (a0 : Nat) (a1 : Nat) (x2 : Int) (x3 : Int) : (3 ≤ 29 ∧ 29 < 241) ∧ (mP 29).1 = 0 ∧ 1 < 14 ∧ mO 29 = 1 ∧ (mP 29).2.1 = ([.inr (.inr a1), .inl x2, .inl x3] : List AV).length ∧ catS (.inr (.inr a0) :: [.inr (.inr a1), .inl x2, .inl x3]) ≤ mL 29 := ⟨by decide, by decide +kernel, by decide, by decide +kernel, (show (mP 29).2.1 = 3 by decide +kernel), (show 4 ≤ mL 29 by decide +kernel)⟩
theorem cq30 (a0 : Nat) (a1 : Nat) (x2 : Int) (x3 : Int) (x4 : Int) : (3 ≤ 30 ∧ 30 < 241) ∧ (mP 30).1 = 0 ∧ 1 < 14 ∧ mO 30 = 1 ∧ (mP 30).2.1 = ([.inr (.inr a1), .inl x2, .inl x3, .inl x4] : List AV).length ∧ catS (.inr (.inr a0) :: [.inr (.inr a1), .inl x2, .inl x3, .inl x4]) ≤ mL 30 := ⟨by decide, by decide +kernel, by decide, by decide +kernel, (show (mP 30).2.1 = 4 by decide +kernel), (show 5 ≤ mL 30 by decide +kernel)⟩
theorem cq31 (a0 : Nat) (a1 : Nat) (a2 : Nat) (x3 : Int) : (3 ≤ 31 ∧ 31 < 241) ∧ (mP 31).1 = 0 ∧ 1 < 14 ∧ mO 31 = 1 ∧ (mP 31).2.1 = ([.inr (.inr a1), .inr (.inr a2), .inl x3] : List AV).length ∧ catS (.inr (.inr a0) :: [.inr (.inr a1), .inr (.inr a2), .inl x3]) ≤ mL 31 := ⟨by decide, by decide +kernel, by decide, by decide +kernel, (show (mP 31).2.1 = 3 by decide +kernel), (show 4 ≤ mL 31 by decide +kernel)⟩
theorem cq32 (a0 : Nat) (a1 : Nat) (a2 : Nat) (x3 : Int) (x4 : Int) : (3 ≤ 32 ∧ 32 < 241) ∧ (mP 32).1 = 0 ∧ 1 < 14 ∧ mO 32 = 1 ∧ (mP 32).2.1 = ([.inr (.inr a1), .inr (.inr a2), .inl x3, .inl x4] : List AV).length ∧ catS (.inr (.inr a0) :: [.inr (.inr a1), .inr (.inr a2), .inl x3, .inl x4]) ≤ mL 32 := ⟨by decide, by decide +kernel, by decide, by decide +kernel, (show (mP 32).2.1 = 4 by decide +kernel), (show 5 ≤ mL 32 by decide +kernel)⟩
theorem cq33 (a0 : Nat) (a1 : Nat) (a2 : Nat) : (3 ≤ 33 ∧ 33 < 241) ∧ (mP 33).1 = 0 ∧ 1 < 14 ∧ mO 33 = 1 ∧ (mP 33).2.1 = ([.inr (.inr a1), .inr (.inr a2)] : List AV).length ∧ catS (.inr (.inr a0) :: [.inr (.inr a1), .inr (.inr a2)]) ≤ mL 33 := ⟨by decide, by decide +kernel, by decide, by decide +kernel, (show (mP 33).2.1 = 2 by decide +kernel), (show 3 ≤ mL 33 by decide +kernel)⟩
theorem cq34 (a0 : Nat) (a1 : Nat) (a2 : Nat) : (3 ≤ 34 ∧ 34 < 241) ∧ (mP 34).1 = 0 ∧ 1 < 14 ∧ mO 34 = 1 ∧ (mP 34).2.1 = ([.inr (.inr a1), .inr (.inr a2)] : List AV).length ∧ catS (.inr (.inr a0) :: [.inr (.inr a1), .inr (.inr a2)]) ≤ mL 34 := ⟨by decide, by decide +kernel, by decide, by decide +kernel, (show (mP 34).2.1 = 2 by decide +kernel), (show 3 ≤ mL 34 by decide +kernel)⟩
theorem cq35 (a0 : Nat) (a1 : Nat) (a2 : Nat) (x3 : Int) (x4 : Int) : (3 ≤ 35 ∧ 35 < 241) ∧ (mP 35).1 = 0 ∧ 1 < 14 ∧ mO 35 = 1 ∧ (mP 35).2.1 = ([.inr (.inr a1), .inr (.inr a2), .inl x3, .inl x4] : List AV).length ∧ catS (.inr (.inr a0) :: [.inr (.inr a1), .inr (.inr a2), .inl x3, .inl x4]) ≤ mL 35 := ⟨by decide, by decide +kernel, by decide, by decide +kernel, (show (mP 35).2.1 = 4 by decide +kernel), (show 5 ≤ mL 35 by decide +kernel)⟩
theorem cq36 (a0 : Nat) : ((1 : Nat) = 0 ∨ (1 : Nat) = 1) ∧ (3 ≤ 36 ∧ 36 < 241) ∧ (mP 36).1 = 2 ∧ (mP 36).2.1 = ([] : List AV).length ∧ catS (.inr (.inr a0) :: []) ≤ mL 36 ∧ 2 ≠ 99 := ⟨by decide, by decide, by decide +kernel, (show (mP 36).2.1 = 0 by decide +kernel), (show 1 ≤ mL 36 by decide +kernel), by decide⟩
theorem cq37 (a0 : Nat) (x1 : Int) (x2 : Int) : (3 ≤ 37 ∧ 37 < 241) ∧ (mP 37).1 = 0 ∧ 2 < 14 ∧ mO 37 = 2 ∧ (mP 37).2.1 = ([.inl x1, .inl x2] : List AV).length ∧ catS (.inr (.inr a0) :: [.inl x1, .inl x2]) ≤ mL 37 := ⟨by decide, by decide +kernel, by decide, by decide +kernel, (show (mP 37).2.1 = 2 by decide +kernel), (show 3 ≤ mL 37 by decide +kernel)⟩
theorem cq38 (a0 : Nat) (x1 : Int) : (3 ≤ 38 ∧ 38 < 241) ∧ (mP 38).1 = 0 ∧ 2 < 14 ∧ mO 38 = 2 ∧ (mP 38).2.1 = ([.inl x1] : List AV).length ∧ catS (.inr (.inr a0) :: [.inl x1]) ≤ mL 38 := ⟨by decide, by decide +kernel, by decide, by decide +kernel, (show (mP 38).2.1 = 1 by decide +kernel), (show 2 ≤ mL 38 by decide +kernel)⟩
theorem cq39 (a0 : Nat) (x1 : Int) (x2 : Int) (x3 : Int) (x4 : Int) (x5 : Int) (x6 : Int) (x7 : Int) : (3 ≤ 39 ∧ 39 < 241) ∧ (mP 39).1 = 0 ∧ 2 < 14 ∧ mO 39 = 2 ∧ (mP 39).2.1 = ([.inl x1, .inl x2, .inl x3, .inl x4, .inl x5, .inl x6, .inl x7] : List AV).length ∧ catS (.inr (.inr a0) :: [.inl x1, .inl x2, .inl x3, .inl x4, .inl x5, .inl x6, .inl x7]) ≤ mL 39 := ⟨by decide, by decide +kernel, by decide, by decide +kernel, (show (mP 39).2.1 = 7 by decide +kernel), (show 8 ≤ mL 39 by decide +kernel)⟩
theorem cq40 (a0 : Nat) (x1 : Int) : (3 ≤ 40 ∧ 40 < 241) ∧ (mP 40).1 = 0 ∧ 2 < 14 ∧ mO 40 = 2 ∧ (mP 40).2.1 = ([.inl x1] : List AV).length ∧ catS (.inr (.inr a0) :: [.inl x1]) ≤ mL 40 := ⟨by decide, by decide +kernel, by decide, by decide +kernel, (show (mP 40).2.1 = 1 by decide +kernel), (show 2 ≤ mL 40 by decide +kernel)⟩
theorem cq41 (a0 : Nat) (x1 : Int) : (3 ≤ 41 ∧ 41 < 241) ∧ (mP 41).1 = 0 ∧ 2 < 14 ∧ mO 41 = 2 ∧ (mP 41).2.1 = ([.inl x1] : List AV).length ∧ catS (.inr (.inr a0) :: [.inl x1]) ≤ mL 41 := ⟨by decide, by decide +kernel, by decide, by decide +kernel, (show (mP 41).2.1 = 1 by decide +kernel), (show 2 ≤ mL 41 by decide +kernel)⟩
theorem cq42 (x0 : Int) (x1 : Int) (x2 : Int) : ((0 : Nat) = 0 ∨ (0 : Nat) = 1) ∧ (3 ≤ 42 ∧ 42 < 241) ∧ (mP 42).1 = 1 ∧ (mP 42).2.1 = ([.inl x0, .inl x1, .inl x2] : List AV).length ∧ catS [.inl x0, .inl x1, .inl x2] ≤ mL 42 := ⟨by decide, by decide, by decide +kernel, (show (mP 42).2.1 = 3 by decide +kernel), (show 3 ≤ mL 42 by decide +kernel)⟩
theorem cq43 (a0 : Nat) : ((1 : Nat) = 0 ∨ (1 : Nat) = 1) ∧ (3 ≤ 43 ∧ 43 < 241) ∧ (mP 43).1 = 2 ∧ (mP 43).2.1 = ([] : List AV).length ∧ catS (.inr (.inr a0) :: []) ≤ mL 43 ∧ 3 ≠ 99 := ⟨by decide, by decide, by decide +kernel, (show (mP 43).2.1 = 0 by decide +kernel), (show 1 ≤ mL 43 by decide +kernel), by decide⟩
theorem cq44 (a0 : Nat) (x1 : Int) (x2 : Int) : (3 ≤ 44 ∧ 44 < 241) ∧ (mP 44).1 = 0 ∧ 3 < 14 ∧ mO 44 = 3 ∧ (mP 44).2.1 = ([.inl x1, .inl x2] : List AV).length ∧ catS (.inr (.inr a0) :: [.inl x1, .inl x2]) ≤ mL 44 := ⟨by decide, by decide +kernel, by decide, by decide +kernel, (show (mP 44).2.1 = 2 by decide +kernel), (show 3 ≤ mL 44 by decide +kernel)⟩
theorem cq45 (a0 : Nat) : ((0 : Nat) = 0 ∨ (0 : Nat) = 1) ∧ (3 ≤ 45 ∧ 45 < 241) ∧ (mP 45).1 = 2 ∧ (mP 45).2.1 = ([] : List AV).length ∧ catS (.inr (.inr a0) :: []) ≤ mL 45 ∧ 4 ≠ 99 := ⟨by decide, by decide, by decide +kernel, (show (mP 45).2.1 = 0 by decide +kernel), (show 1 ≤ mL 45 by decide +kernel), by decide⟩
theorem cq46 (a0 : Nat) : (3 ≤ 46 ∧ 46 < 241) ∧ (mP 46).1 = 0 ∧ 4 < 14 ∧ mO 46 = 4 ∧ (mP 46).2.1 = ([] : List AV).length ∧ catS (.inr (.inr a0) :: []) ≤ mL 46 := ⟨by decide, by decide +kernel, by decide, by decide +kernel, (show (mP 46).2.1 = 0 by decide +kernel), (show 1 ≤ mL 46 by decide +kernel)⟩
theorem cq47 (a0 : Nat) (a1 : Nat) : (3 ≤ 47 ∧ 47 < 241) ∧ (mP 47).1 = 0 ∧ 4 < 14 ∧ mO 47 = 4 ∧ (mP 47).2.1 = ([.inr (.inr a1)] : List AV).length ∧ catS (.inr (.inr a0) :: [.inr (.inr a1)]) ≤ mL 47 := ⟨by decide, by decide +kernel, by decide, by decide +kernel, (show (mP 47).2.1 = 1 by decide +kernel), (show 2 ≤ mL 47 by decide +kernel)⟩
theorem cq48 (a0 : Nat) (a1 : Nat) : (3 ≤ 48 ∧ 48 < 241) ∧ (mP 48).1 = 0 ∧ 4 < 14 ∧ mO 48 = 4 ∧ (mP 48).2.1 = ([.inr (.inr a1)] : List AV).length ∧ catS (.inr (.inr a0) :: [.inr (.inr a1)]) ≤ mL 48 := ⟨by decide, by decide +kernel, by decide, by decide +kernel, (show (mP 48).2.1 = 1 by decide +kernel), (show 2 ≤ mL 48 by decide +kernel)⟩
theorem cq49 (a0 : Nat) : ((1 : Nat) = 0 ∨ (1 : Nat) = 1) ∧ (3 ≤ 49 ∧ 49 < 241) ∧ (mP 49).1 = 2 ∧ (mP 49).2.1 = ([] : List AV).length ∧ catS (.inr (.inr a0) :: []) ≤ mL 49 ∧ 5 ≠ 99 := ⟨by decide, by decide, by decide +kernel, (show (mP 49).2.1 = 0 by decide +kernel), (show 1 ≤ mL 49 by decide +kernel), by decide⟩
theorem cq50 (a0 : Nat) (a1 : Nat) (a2 : Nat) (x3 : Int) (x4 : Int) : (3 ≤ 50 ∧ 50 < 241) ∧ (mP 50).1 = 0 ∧ 5 < 14 ∧ mO 50 = 5 ∧ (mP 50).2.1 = ([.inr (.inr a1), .inr (.inr a2), .inl x3, .inl x4] : List AV).length ∧ catS (.inr (.inr a0) :: [.inr (.inr a1), .inr (.inr a2), .inl x3, .inl x4]) ≤ mL 50 := ⟨by decide, by decide +kernel, by decide, by decide +kernel, (show (mP 50).2.1 = 4 by decide +kernel), (show 5 ≤ mL 50 by decide +kernel)⟩
theorem cq51 (a0 : Nat) (a1 : Nat) (a2 : Nat) (x3 : Int) (x4 : Int) (x5 : Int) : (3 ≤ 51 ∧ 51 < 241) ∧ (mP 51).1 = 0 ∧ 5 < 14 ∧ mO 51 = 5 ∧ (mP 51).2.1 = ([.inr (.inr a1), .inr (.inr a2), .inl x3, .inl x4, .inl x5] : List AV).length ∧ catS (.inr (.inr a0) :: [.inr (.inr a1), .inr (.inr a2), .inl x3, .inl x4, .inl x5]) ≤ mL 51 := ⟨by decide, by decide +kernel, by decide, by decide +kernel, (show (mP 51).2.1 = 5 by decide +kernel), (show 6 ≤ mL 51 by decide +kernel)⟩
theorem cq52 (a0 : Nat) (x1 : Int) (x2 : Int) (x3 : Int) (x4 : Int) : (3 ≤ 52 ∧ 52 < 241) ∧ (mP 52).1 = 0 ∧ 5 < 14 ∧ mO 52 = 5 ∧ (mP 52).2.1 = ([.inl x1, .inl x2, .inl x3, .inl x4] : List AV).length ∧ catS (.inr (.inr a0) :: [.inl x1, .inl x2, .inl x3, .inl x4]) ≤ mL 52 := ⟨by decide, by decide +kernel, by decide, by decide +kernel, (show (mP 52).2.1 = 4 by decide +kernel), (show 5 ≤ mL 52 by decide +kernel)⟩
theorem cq53 (a0 : Nat) (x1 : Int) (x2 : Int) (x3 : Int) : (3 ≤ 53 ∧ 53 < 241) ∧ (mP 53).1 = 0 ∧ 5 < 14 ∧ mO 53 = 5 ∧ (mP 53).2.1 = ([.inl x1, .inl x2, .inl x3] : List AV).length ∧ catS (.inr (.inr a0) :: [.inl x1, .inl x2, .inl x3]) ≤ mL 53 := ⟨by decide, by decide +kernel, by decide, by decide +kernel, (show (mP 53).2.1 = 3 by decide +kernel), (show 4 ≤ mL 53 by decide +kernel)⟩
theorem cq54 (a0 : Nat) : ((1 : Nat) = 0 ∨ (1 : Nat) = 1) ∧ (3 ≤ 54 ∧ 54 < 241) ∧ (mP 54).1 = 2 ∧ (mP 54).2.1 = ([] : List AV).length ∧ catS (.inr (.inr a0) :: []) ≤ mL 54 ∧ 6 ≠ 99 := ⟨by decide, by decide, by decide +kernel, (show (mP 54).2.1 = 0 by decide +kernel), (show 1 ≤ mL 54 by decide +kernel), by decide⟩
theorem cq55 (a0 : Nat) (a1 : Nat) (x2 : Int) : (3 ≤ 55 ∧ 55 < 241) ∧ (mP 55).1 = 0 ∧ 6 < 14 ∧ mO 55 = 6 ∧ (mP 55).2.1 = ([.inr (.inr a1), .inl x2] : List AV).length ∧ catS (.inr (.inr a0) :: [.inr (.inr a1), .inl x2]) ≤ mL 55 := ⟨by decide, by decide +kernel, by decide, by decide +kernel, (show (mP 55).2.1 = 2 by decide +kernel), (show 3 ≤ mL 55 by decide +kernel)⟩
theorem cq56 (a0 : Nat) (a1 : Nat) (x2 : Int) : (3 ≤ 56 ∧ 56 < 241) ∧ (mP 56).1 = 0 ∧ 6 < 14 ∧ mO 56 = 6 ∧ (mP 56).2.1 = ([.inr (.inr a1), .inl x2] : List AV).length ∧ catS (.inr (.inr a0) :: [.inr (.inr a1), .inl x2]) ≤ mL 56 := ⟨by decide, by decide +kernel, by decide, by decide +kernel, (show (mP 56).2.1 = 2 by decide +kernel), (show 3 ≤ mL 56 by decide +kernel)⟩
theorem cq57 (a0 : Nat) (x1 : Int) : (3 ≤ 57 ∧ 57 < 241) ∧ (mP 57).1 = 0 ∧ 6 < 14 ∧ mO 57 = 6 ∧ (mP 57).2.1 = ([.inl x1] : List AV).length ∧ catS (.inr (.inr a0) :: [.inl x1]) ≤ mL 57 := ⟨by decide, by decide +kernel, by decide, by decide +kernel, (show (mP 57).2.1 = 1 by decide +kernel), (show 2 ≤ mL 57 by decide +kernel)⟩
theorem cq58 (a0 : Nat) (x1 : Int) : (3 ≤ 58 ∧ 58 < 241) ∧ (mP 58).1 = 0 ∧ 6 < 14 ∧ mO 58 = 6 ∧ (mP 58).2.1 = ([.inl x1] : List AV).length ∧ catS (.inr (.inr a0) :: [.inl x1]) ≤ mL 58 := ⟨by decide, by decide +kernel, by decide, by decide +kernel, (show (mP 58).2.1 = 1 by decide +kernel), (show 2 ≤ mL 58 by decide +kernel)⟩
theorem cq59 (a0 : Nat) : (3 ≤ 59 ∧ 59 < 241) ∧ (mP 59).1 = 0 ∧ 6 < 14 ∧ mO 59 = 6 ∧ (mP 59).2.1 = ([] : List AV).length ∧ catS (.inr (.inr a0) :: []) ≤ mL 59 := ⟨by decide, by decide +kernel, by decide, by decide +kernel, (show (mP 59).2.1 = 0 by decide +kernel), (show 1 ≤ mL 59 by decide +kernel)⟩
theorem cq60 (a0 : Nat) (x1 : Int) : (3 ≤ 60 ∧ 60 < 241) ∧ (mP 60).1 = 0 ∧ 6 < 14 ∧ mO 60 = 6 ∧ (mP 60).2.1 = ([.inl x1] : List AV).length ∧ catS (.inr (.inr a0) :: [.inl x1]) ≤ mL 60 := ⟨by decide, by decide +kernel, by decide, by decide +kernel, (show (mP 60).2.1 = 1 by decide +kernel), (show 2 ≤ mL 60 by decide +kernel)⟩
theorem cq61 (a0 : Nat) : (3 ≤ 61 ∧ 61 < 241) ∧ (mP 61).1 = 0 ∧ 6 < 14 ∧ mO 61 = 6 ∧ (mP 61).2.1 = ([] : List AV).length ∧ catS (.inr (.inr a0) :: []) ≤ mL 61 := ⟨by decide, by decide +kernel, by decide, by decide +kernel, (show (mP 61).2.1 = 0 by decide +kernel), (show 1 ≤ mL 61 by decide +kernel)⟩
theorem cq62 (a0 : Nat) : (3 ≤ 62 ∧ 62 < 241) ∧ (mP 62).1 = 0 ∧ 6 < 14 ∧ mO 62 = 6 ∧ (mP 62).2.1 = ([] : List AV).length ∧ catS (.inr (.inr a0) :: []) ≤ mL 62 := ⟨by decide, by decide +kernel, by decide, by decide +kernel, (show (mP 62).2.1 = 0 by decide +kernel), (show 1 ≤ mL 62 by decide +kernel)⟩
theorem cq63 (a0 : Nat) : (3 ≤ 63 ∧ 63 < 241) ∧ (mP 63).1 = 0 ∧ 6 < 14 ∧ mO 63 = 6 ∧ (mP 63).2.1 = ([] : List AV).length ∧ catS (.inr (.inr a0) :: []) ≤ mL 63 := ⟨by decide, by decide +kernel, by decide, by decide +kernel, (show (mP 63).2.1 = 0 by decide +kernel), (show 1 ≤ mL 63 by decide +kernel)⟩
theorem cq64 (a0 : Nat) : (3 ≤ 64 ∧ 64 < 241) ∧ (mP 64).1 = 0 ∧ 6 < 14 ∧ mO 64 = 6 ∧ (mP 64).2.1 = ([] : List AV).length ∧ catS (.inr (.inr a0) :: []) ≤ mL 64 := ⟨by decide, by decide +kernel, by decide, by decide +kernel, (show (mP 64).2.1 = 0 by decide +kernel), (show 1 ≤ mL 64 by decide +kernel)⟩
theorem cq65 (a0 : Nat) (x1 : Int) : (3 ≤ 65 ∧ 65 < 241) ∧ (mP 65).1 = 0 ∧ 6 < 14 ∧ mO 65 = 6 ∧ (mP 65).2.1 = ([.inr (.inl x1)] : List AV).length ∧ catS (.inr (.inr a0) :: [.inr (.inl x1)]) ≤ mL 65 := ⟨by decide, by decide +kernel, by decide, by decide +kernel, (show (mP 65).2.1 = 1 by decide +kernel), (show 3 ≤ mL 65 by decide +kernel)⟩
theorem cq66 (a0 : Nat) : (3 ≤ 66 ∧ 66 < 241) ∧ (mP 66).1 = 0 ∧ 6 < 14 ∧ mO 66 = 6 ∧ (mP 66).2.1 = ([] : List AV).length ∧ catS (.inr (.inr a0) :: []) ≤ mL 66 := ⟨by decide, by decide +kernel, by decide, by decide +kernel, (show (mP 66).2.1 = 0 by decide +kernel), (show 1 ≤ mL 66 by decide +kernel)⟩
theorem cq67 (a0 : Nat) : (3 ≤ 67 ∧ 67 < 241) ∧ (mP 67).1 = 0 ∧ 6 < 14 ∧ mO 67 = 6 ∧ (mP 67).2.1 = ([] : List AV).length ∧ catS (.inr (.inr a0) :: []) ≤ mL 67 := ⟨by decide, by decide +kernel, by decide, by decide +kernel, (show (mP 67).2.1 = 0 by decide +kernel), (show 1 ≤ mL 67 by decide +kernel)⟩
theorem cq68 (a0 : Nat) : (3 ≤ 68 ∧ 68 < 241) ∧ (mP 68).1 = 0 ∧ 6 < 14 ∧ mO 68 = 6 ∧ (mP 68).2.1 = ([] : List AV).length ∧ catS (.inr (.inr a0) :: []) ≤ mL 68 := ⟨by decide, by decide +kernel, by decide, by decide +kernel, (show (mP 68).2.1 = 0 by decide +kernel), (show 1 ≤ mL 68 by decide +kernel)⟩
theorem cq69 (a0 : Nat) : (3 ≤ 69 ∧ 69 < 241) ∧ (mP 69).1 = 0 ∧ 6 < 14 ∧ mO 69 = 6 ∧ (mP 69).2.1 = ([] : List AV).length ∧ catS (.inr (.inr a0) :: []) ≤ mL 69 := ⟨by decide, by decide +kernel, by decide, by decide +kernel, (show (mP 69).2.1 = 0 by decide +kernel), (show 1 ≤ mL 69 by decide +kernel)⟩
theorem cq70 (a0 : Nat) (x1 : Int) : (3 ≤ 70 ∧ 70 < 241) ∧ (mP 70).1 = 0 ∧ 6 < 14 ∧ mO 70 = 6 ∧ (mP 70).2.1 = ([.inl x1] : List AV).length ∧ catS (.inr (.inr a0) :: [.inl x1]) ≤ mL 70 := ⟨by decide, by decide +kernel, by decide, by decide +kernel, (show (mP 70).2.1 = 1 by decide +kernel), (show 2 ≤ mL 70 by decide +kernel)⟩
theorem cq71 (a0 : Nat) (x1 : Int) : (3 ≤ 71 ∧ 71 < 241) ∧ (mP 71).1 = 0 ∧ 6 < 14 ∧ mO 71 = 6 ∧ (mP 71).2.1 = ([.inl x1] : List AV).length ∧ catS (.inr (.inr a0) :: [.inl x1]) ≤ mL 71 := ⟨by decide, by decide +kernel, by decide, by decide +kernel, (show (mP 71).2.1 = 1 by decide +kernel), (show 2 ≤ mL 71 by decide +kernel)⟩
theorem cq72 (a0 : Nat) : (3 ≤ 72 ∧ 72 < 241) ∧ (mP 72).1 = 0 ∧ 6 < 14 ∧ mO 72 = 6 ∧ (mP 72).2.1 = ([] : List AV).length ∧ catS (.inr (.inr a0) :: []) ≤ mL 72 := ⟨by decide, by decide +kernel, by decide, by decide +kernel, (show (mP 72).2.1 = 0 by decide +kernel), (show 1 ≤ mL 72 by decide +kernel)⟩
theorem cq73 (a0 : Nat) (x1 : Int) : (3 ≤ 73 ∧ 73 < 241) ∧ (mP 73).1 = 0 ∧ 6 < 14 ∧ mO 73 = 6 ∧ (mP 73).2.1 = ([.inl x1] : List AV).length ∧ catS (.inr (.inr a0) :: [.inl x1]) ≤ mL 73 := ⟨by decide, by decide +kernel, by decide, by decide +kernel, (show (mP 73).2.1 = 1 by decide +kernel), (show 2 ≤ mL 73 by decide +kernel)⟩
theorem cq74 (a0 : Nat) (x1 : Int) : (3 ≤ 74 ∧ 74 < 241) ∧ (mP 74).1 = 0 ∧ 6 < 14 ∧ mO 74 = 6 ∧ (mP 74).2.1 = ([.inl x1] : List AV).length ∧ catS (.inr (.inr a0) :: [.inl x1]) ≤ mL 74 := ⟨by decide, by decide +kernel, by decide, by decide +kernel, (show (mP 74).2.1 = 1 by decide +kernel), (show 2 ≤ mL 74 by decide +kernel)⟩
theorem cq75 (a0 : Nat) (x1 : Int) : (3 ≤ 75 ∧ 75 < 241) ∧ (mP 75).1 = 0 ∧ 6 < 14 ∧ mO 75 = 6 ∧ (mP 75).2.1 = ([.inl x1] : List AV).length ∧ catS (.inr (.inr a0) :: [.inl x1]) ≤ mL 75 := ⟨by decide, by decide +kernel, by decide, by decide +kernel, (show (mP 75).2.1 = 1 by decide +kernel), (show 2 ≤ mL 75 by decide +kernel)⟩
theorem cq76 (a0 : Nat) : ((0 : Nat) = 0 ∨ (0 : Nat) = 1) ∧ (3 ≤ 76 ∧ 76 < 241) ∧ (mP 76).1 = 2 ∧ (mP 76).2.1 = ([] : List AV).length ∧ catS (.inr (.inr a0) :: []) ≤ mL 76 ∧ 7 ≠ 99 := ⟨by decide, by decide, by decide +kernel, (show (mP 76).2.1 = 0 by decide +kernel), (show 1 ≤ mL 76 by decide +kernel), by decide⟩
theorem cq77 (x0 : Int) (x2 : Int) : ((0 : Nat) = 0 ∨ (0 : Nat) = 1) ∧ (3 ≤ 77 ∧ 77 < 241) ∧ (mP 77).1 = 1 ∧ (mP 77).2.1 = ([.inr (.inl x0), .inl x2] : List AV).length ∧ catS [.inr (.inl x0), .inl x2] ≤ mL 77 := ⟨by decide, by decide, by decide +kernel, (show (mP 77).2.1 = 2 by decide +kernel), (show 3 ≤ mL 77 by decide +kernel)⟩
theorem cq78 (a0 : Nat) (a1 : Nat) (x2 : Int) : (3 ≤ 78 ∧ 78 < 241) ∧ (mP 78).1 = 0 ∧ 7 < 14 ∧ mO 78 = 7 ∧ (mP 78).2.1 = ([.inr (.inr a1), .inl x2] : List AV).length ∧ catS (.inr (.inr a0) :: [.inr (.inr a1), .inl x2]) ≤ mL 78 := ⟨by decide, by decide +kernel, by decide, by decide +kernel, (show (mP 78).2.1 = 2 by decide +kernel), (show 3 ≤ mL 78 by decide +kernel)⟩
theorem cq79 (a0 : Nat) (x1 : Int) : (3 ≤ 79 ∧ 79 < 241) ∧ (mP 79).1 = 0 ∧ 7 < 14 ∧ mO 79 = 7 ∧ (mP 79).2.1 = ([.inl x1] : List AV).length ∧ catS (.inr (.inr a0) :: [.inl x1]) ≤ mL 79 := ⟨by decide, by decide +kernel, by decide, by decide +kernel, (show (mP 79).2.1 = 1 by decide +kernel), (show 2 ≤ mL 79 by decide +kernel)⟩
theorem cq80 (a0 : Nat) (x1 : Int) : (3 ≤ 80 ∧ 80 < 241) ∧ (mP 80).1 = 0 ∧ 7 < 14 ∧ mO 80 = 7 ∧ (mP 80).2.1 = ([.inl x1] : List AV).length ∧ catS (.inr (.inr a0) :: [.inl x1]) ≤ mL 80 := ⟨by decide, by decide +kernel, by decide, by decide +kernel, (show (mP 80).2.1 = 1 by decide +kernel), (show 2 ≤ mL 80 by decide +kernel)⟩
theorem cq81 (a0 : Nat) (x1 : Int) : (3 ≤ 81 ∧ 81 < 241) ∧ (mP 81).1 = 0 ∧ 7 < 14 ∧ mO 81 = 7 ∧ (mP 81).2.1 = ([.inr (.inl x1)] : List AV).length ∧ catS (.inr (.inr a0) :: [.inr (.inl x1)]) ≤ mL 81 := ⟨by decide, by decide +kernel, by decide, by decide +kernel, (show (mP 81).2.1 = 1 by decide +kernel), (show 3 ≤ mL 81 by decide +kernel)⟩
theorem cq82 (a0 : Nat) (x1 : Int) : (3 ≤ 82 ∧ 82 < 241) ∧ (mP 82).1 = 0 ∧ 7 < 14 ∧ mO 82 = 7 ∧ (mP 82).2.1 = ([.inl x1] : List AV).length ∧ catS (.inr (.inr a0) :: [.inl x1]) ≤ mL 82 := ⟨by decide, by decide +kernel, by decide, by decide +kernel, (show (mP 82).2.1 = 1 by decide +kernel), (show 2 ≤ mL 82 by decide +kernel)⟩
theorem cq83 (x0 : Int) : ((0 : Nat) = 0 ∨ (0 : Nat) = 1) ∧ (3 ≤ 83 ∧ 83 < 241) ∧ (mP 83).1 = 1 ∧ (mP 83).2.1 = ([.inl x0] : List AV).length ∧ catS [.inl x0] ≤ mL 83 := ⟨by decide, by decide, by decide +kernel, (show (mP 83).2.1 = 1 by decide +kernel), (show 1 ≤ mL 83 by decide +kernel)⟩
theorem cq84 (x0 : Int) : ((0 : Nat) = 0 ∨ (0 : Nat) = 1) ∧ (3 ≤ 84 ∧ 84 < 241) ∧ (mP 84).1 = 1 ∧ (mP 84).2.1 = ([.inl x0] : List AV).length ∧ catS [.inl x0] ≤ mL 84 := ⟨by decide, by decide, by decide +kernel, (show (mP 84).2.1 = 1 by decide +kernel), (show 1 ≤ mL 84 by decide +kernel)⟩
theorem cq85 (x0 : Int) : ((0 : Nat) = 0 ∨ (0 : Nat) = 1) ∧ (3 ≤ 85 ∧ 85 < 241) ∧ (mP 85).1 = 1 ∧ (mP 85).2.1 = ([.inl x0] : List AV).length ∧ catS [.inl x0] ≤ mL 85 := ⟨by decide, by decide, by decide +kernel, (show (mP 85).2.1 = 1 by decide +kernel), (show 1 ≤ mL 85 by decide +kernel)⟩
theorem cq86 (a0 : Nat) : ((1 : Nat) = 0 ∨ (1 : Nat) = 1) ∧ (3 ≤ 86 ∧ 86 < 241) ∧ (mP 86).1 = 2 ∧ (mP 86).2.1 = ([] : List AV).length ∧ catS (.inr (.inr a0) :: []) ≤ mL 86 ∧ 8 ≠ 99 := ⟨by decide, by decide, by decide +kernel, (show (mP 86).2.1 = 0 by decide +kernel), (show 1 ≤ mL 86 by decide +kernel), by decide⟩
theorem cq87 (a0 : Nat) : ((1 : Nat) = 0 ∨ (1 : Nat) = 1) ∧ (3 ≤ 87 ∧ 87 < 241) ∧ (mP 87).1 = 2 ∧ (mP 87).2.1 = ([] : List AV).length ∧ catS (.inr (.inr a0) :: []) ≤ mL 87 ∧ 9 ≠ 99 := ⟨by decide, by decide, by decide +kernel, (show (mP 87).2.1 = 0 by decide +kernel), (show 1 ≤ mL 87 by decide +kernel), by decide⟩
theorem cq88 (a0 : Nat) (a1 : Nat) : (3 ≤ 88 ∧ 88 < 241) ∧ (mP 88).1 = 0 ∧ 9 < 14 ∧ mO 88 = 9 ∧ (mP 88).2.1 = ([.inr (.inr a1)] : List AV).length ∧ catS (.inr (.inr a0) :: [.inr (.inr a1)]) ≤ mL 88 := ⟨by decide, by decide +kernel, by decide, by decide +kernel, (show (mP 88).2.1 = 1 by decide +kernel), (show 2 ≤ mL 88 by decide +kernel)⟩
theorem cq89 (a0 : Nat) (a1 : Nat) : (3 ≤ 89 ∧ 89 < 241) ∧ (mP 89).1 = 0 ∧ 9 < 14 ∧ mO 89 = 9 ∧ (mP 89).2.1 = ([.inr (.inr a1)] : List AV).length ∧ catS (.inr (.inr a0) :: [.inr (.inr a1)]) ≤ mL 89 := ⟨by decide, by decide +kernel, by decide, by decide +kernel, (show (mP 89).2.1 = 1 by decide +kernel), (show 2 ≤ mL 89 by decide +kernel)⟩
theorem cq90 (a0 : Nat) : (3 ≤ 90 ∧ 90 < 241) ∧ (mP 90).1 = 0 ∧ 9 < 14 ∧ mO 90 = 9 ∧ (mP 90).2.1 = ([] : List AV).length ∧ catS (.inr (.inr a0) :: []) ≤ mL 90 := ⟨by decide, by decide +kernel, by decide, by decide +kernel, (show (mP 90).2.1 = 0 by decide +kernel), (show 1 ≤ mL 90 by decide +kernel)⟩
theorem cq91 (a0 : Nat) (x1 : Int) (x2 : Int) : (3 ≤ 91 ∧ 91 < 241) ∧ (mP 91).1 = 0 ∧ 9 < 14 ∧ mO 91 = 9 ∧ (mP 91).2.1 = ([.inl x1, .inl x2] : List AV).length ∧ catS (.inr (.inr a0) :: [.inl x1, .inl x2]) ≤ mL 91 := ⟨by decide, by decide +kernel, by decide, by decide +kernel, (show (mP 91).2.1 = 2 by decide +kernel), (show 3 ≤ mL 91 by decide +kernel)⟩
theorem cq92 (a0 : Nat) (x1 : Int) (x2 : Int) : (3 ≤ 92 ∧ 92 < 241) ∧ (mP 92).1 = 0 ∧ 9 < 14 ∧ mO 92 = 9 ∧ (mP 92).2.1 = ([.inl x1, .inl x2] : List AV).length ∧ catS (.inr (.inr a0) :: [.inl x1, .inl x2]) ≤ mL 92 := ⟨by decide, by decide +kernel, by decide, by decide +kernel, (show (mP 92).2.1 = 2 by decide +kernel), (show 3 ≤ mL 92 by decide +kernel)⟩
theorem cq93 (a0 : Nat) (x1 : Int) (x2 : Int) (x3 : Int) : (3 ≤ 93 ∧ 93 < 241) ∧ (mP 93).1 = 0 ∧ 9 < 14 ∧ mO 93 = 9 ∧ (mP 93).2.1 = ([.inl x1, .inl x2, .inl x3] : List AV).length ∧ catS (.inr (.inr a0) :: [.inl x1, .inl x2, .inl x3]) ≤ mL 93 := ⟨by decide, by decide +kernel, by decide, by decide +kernel, (show (mP 93).2.1 = 3 by decide +kernel), (show 4 ≤ mL 93 by decide +kernel)⟩
theorem cq94 (a0 : Nat) (x1 : Int) (x2 : Int) (x3 : Int) : (3 ≤ 94 ∧ 94 < 241) ∧ (mP 94).1 = 0 ∧ 9 < 14 ∧ mO 94 = 9 ∧ (mP 94).2.1 = ([.inl x1, .inl x2, .inl x3] : List AV).length ∧ catS (.inr (.inr a0) :: [.inl x1, .inl x2, .inl x3]) ≤ mL 94 := ⟨by decide, by decide +kernel, by decide, by decide +kernel, (show (mP 94).2.1 = 3 by decide +kernel), (show 4 ≤ mL 94 by decide +kernel)⟩
theorem cq95 (a0 : Nat) : ((0 : Nat) = 0 ∨ (0 : Nat) = 1) ∧ (3 ≤ 95 ∧ 95 < 241) ∧ (mP 95).1 = 2 ∧ (mP 95).2.1 = ([] : List AV).length ∧ catS (.inr (.inr a0) :: []) ≤ mL 95 ∧ 10 ≠ 99 := ⟨by decide, by decide, by decide +kernel, (show (mP 95).2.1 = 0 by decide +kernel), (show 1 ≤ mL 95 by decide +kernel), by decide⟩
theorem cq96 (a0 : Nat) : (3 ≤ 96 ∧ 96 < 241) ∧ (mP 96).1 = 0 ∧ 10 < 14 ∧ mO 96 = 10 ∧ (mP 96).2.1 = ([] : List AV).length ∧ catS (.inr (.inr a0) :: []) ≤ mL 96 := ⟨by decide, by decide +kernel, by decide, by decide +kernel, (show (mP 96).2.1 = 0 by decide +kernel), (show 1 ≤ mL 96 by decide +kernel)⟩
theorem cq97 (a0 : Nat) (a1 : Nat) (x2 : Int) (x3 : Int) : (3 ≤ 97 ∧ 97 < 241) ∧ (mP 97).1 = 0 ∧ 10 < 14 ∧ mO 97 = 10 ∧ (mP 97).2.1 = ([.inr (.inr a1), .inl x2, .inl x3] : List AV).length ∧ catS (.inr (.inr a0) :: [.inr (.inr a1), .inl x2, .inl x3]) ≤ mL 97 := ⟨by decide, by decide +kernel, by decide, by decide +kernel, (show (mP 97).2.1 = 3 by decide +kernel), (show 4 ≤ mL 97 by decide +kernel)⟩
theorem cq98 (a0 : Nat) (a1 : Nat) (x2 : Int) : (3 ≤ 98 ∧ 98 < 241) ∧ (mP 98).1 = 0 ∧ 10 < 14 ∧ mO 98 = 10 ∧ (mP 98).2.1 = ([.inr (.inr a1), .inl x2] : List AV).length ∧ catS (.inr (.inr a0) :: [.inr (.inr a1), .inl x2]) ≤ mL 98 := ⟨by decide, by decide +kernel, by decide, by decide +kernel, (show (mP 98).2.1 = 2 by decide +kernel), (show 3 ≤ mL 98 by decide +kernel)⟩
theorem cq99 (a0 : Nat) (a1 : Nat) (x2 : Int) (x3 : Int) : (3 ≤ 99 ∧ 99 < 241) ∧ (mP 99).1 = 0 ∧ 10 < 14 ∧ mO 99 = 10 ∧ (mP 99).2.1 = ([.inr (.inr a1), .inl x2, .inl x3] : List AV).length ∧ catS (.inr (.inr a0) :: [.inr (.inr a1), .inl x2, .inl x3]) ≤ mL 99 := ⟨by decide, by decide +kernel, by decide, by decide +kernel, (show (mP 99).2.1 = 3 by decide +kernel), (show 4 ≤ mL 99 by decide +kernel)⟩
theorem cq100 (a0 : Nat) (x1 : Int) : (3 ≤ 100 ∧ 100 < 241) ∧ (mP 100).1 = 0 ∧ 10 < 14 ∧ mO 100 = 10 ∧ (mP 100).2.1 = ([.inl x1] : List AV).length ∧ catS (.inr (.inr a0) :: [.inl x1]) ≤ mL 100 := ⟨by decide, by decide +kernel, by decide, by decide +kernel, (show (mP 100).2.1 = 1 by decide +kernel), (show 2 ≤ mL 100 by decide +kernel)⟩
theorem cq101 (a0 : Nat) (a1 : Nat) (x2 : Int) : (3 ≤ 101 ∧ 101 < 241) ∧ (mP 101).1 = 0 ∧ 10 < 14 ∧ mO 101 = 10 ∧ (mP 101).2.1 = ([.inr (.inr a1), .inl x2] : List AV).length ∧ catS (.inr (.inr a0) :: [.inr (.inr a1), .inl x2]) ≤ mL 101 := ⟨by decide, by decide +kernel, by decide, by decide +kernel, (show (mP 101).2.1 = 2 by decide +kernel), (show 3 ≤ mL 101 by decide +kernel)⟩
theorem cq102 (a0 : Nat) : ((0 : Nat) = 0 ∨ (0 : Nat) = 1) ∧ (3 ≤ 102 ∧ 102 < 241) ∧ (mP 102).1 = 2 ∧ (mP 102).2.1 = ([] : List AV).length ∧ catS (.inr (.inr a0) :: []) ≤ mL 102 ∧ 11 ≠ 99 := ⟨by decide, by decide, by decide +kernel, (show (mP 102).2.1 = 0 by decide +kernel), (show 1 ≤ mL 102 by decide +kernel), by decide⟩
theorem cq103 (a0 : Nat) (x1 : Int) (x2 : Int) (x3 : Int) (x4 : Int) (x5 : Int) : (3 ≤ 103 ∧ 103 < 241) ∧ (mP 103).1 = 0 ∧ 11 < 14 ∧ mO 103 = 11 ∧ (mP 103).2.1 = ([.inl x1, .inl x2, .inl x3, .inl x4, .inl x5] : List AV).length ∧ catS (.inr (.inr a0) :: [.inl x1, .inl x2, .inl x3, .inl x4, .inl x5]) ≤ mL 103 := ⟨by decide, by decide +kernel, by decide, by decide +kernel, (show (mP 103).2.1 = 5 by decide +kernel), (show 6 ≤ mL 103 by decide +kernel)⟩
theorem cq104 (a0 : Nat) (x1 : Int) : (3 ≤ 104 ∧ 104 < 241) ∧ (mP 104).1 = 0 ∧ 11 < 14 ∧ mO 104 = 11 ∧ (mP 104).2.1 = ([.inl x1] : List AV).length ∧ catS (.inr (.inr a0) :: [.inl x1]) ≤ mL 104 := ⟨by decide, by decide +kernel, by decide, by decide +kernel, (show (mP 104).2.1 = 1 by decide +kernel), (show 2 ≤ mL 104 by decide +kernel)⟩
theorem cq105 (a0 : Nat) (x1 : Int) : (3 ≤ 105 ∧ 105 < 241) ∧ (mP 105).1 = 0 ∧ 11 < 14 ∧ mO 105 = 11 ∧ (mP 105).2.1 = ([.inl x1] : List AV).length ∧ catS (.inr (.inr a0) :: [.inl x1]) ≤ mL 105 := ⟨by decide, by decide +kernel, by decide, by decide +kernel, (show (mP 105).2.1 = 1 by decide +kernel), (show 2 ≤ mL 105 by decide +kernel)⟩
theorem cq106 (a0 : Nat) : (3 ≤ 106 ∧ 106 < 241) ∧ (mP 106).1 = 0 ∧ 11 < 14 ∧ mO 106 = 11 ∧ (mP 106).2.1 = ([] : List AV).length ∧ catS (.inr (.inr a0) :: []) ≤ mL 106 := ⟨by decide, by decide +kernel, by decide, by decide +kernel, (show (mP 106).2.1 = 0 by decide +kernel), (show 1 ≤ mL 106 by decide +kernel)⟩
theorem cq107 (a0 : Nat) : (3 ≤ 107 ∧ 107 < 241) ∧ (mP 107).1 = 0 ∧ 11 < 14 ∧ mO 107 = 11 ∧ (mP 107).2.1 = ([] : List AV).length ∧ catS (.inr (.inr a0) :: []) ≤ mL 107 := ⟨by decide, by decide +kernel, by decide, by decide +kernel, (show (mP 107).2.1 = 0 by decide +kernel), (show 1 ≤ mL 107 by decide +kernel)⟩
theorem cq108 (a0 : Nat) : (3 ≤ 108 ∧ 108 < 241) ∧ (mP 108).1 = 0 ∧ 11 < 14 ∧ mO 108 = 11 ∧ (mP 108).2.1 = ([] : List AV).length ∧ catS (.inr (.inr a0) :: []) ≤ mL 108 := ⟨by decide, by decide +kernel, by decide, by decide +kernel, (show (mP 108).2.1 = 0 by decide +kernel), (show 1 ≤ mL 108 by decide +kernel)⟩
theorem cq109 (a0 : Nat) (x1 : Int) : (3 ≤ 109 ∧ 109 < 241) ∧ (mP 109).1 = 0 ∧ 11 < 14 ∧ mO 109 = 11 ∧ (mP 109).2.1 = ([.inl x1] : List AV).length ∧ catS (.inr (.inr a0) :: [.inl x1]) ≤ mL 109 := ⟨by decide, by decide +kernel, by decide, by decide +kernel, (show (mP 109).2.1 = 1 by decide +kernel), (show 2 ≤ mL 109 by decide +kernel)⟩
theorem cq110 (a0 : Nat) (x1 : Int) : (3 ≤ 110 ∧ 110 < 241) ∧ (mP 110).1 = 0 ∧ 11 < 14 ∧ mO 110 = 11 ∧ (mP 110).2.1 = ([.inl x1] : List AV).length ∧ catS (.inr (.inr a0) :: [.inl x1]) ≤ mL 110 := ⟨by decide, by decide +kernel, by decide, by decide +kernel, (show (mP 110).2.1 = 1 by decide +kernel), (show 2 ≤ mL 110 by decide +kernel)⟩
theorem cq111 (a0 : Nat) (x1 : Int) : (3 ≤ 111 ∧ 111 < 241) ∧ (mP 111).1 = 0 ∧ 11 < 14 ∧ mO 111 = 11 ∧ (mP 111).2.1 = ([.inl x1] : List AV).length ∧ catS (.inr (.inr a0) :: [.inl x1]) ≤ mL 111 := ⟨by decide, by decide +kernel, by decide, by decide +kernel, (show (mP 111).2.1 = 1 by decide +kernel), (show 2 ≤ mL 111 by decide +kernel)⟩
theorem cq112 (x0 : Int) (x1 : Int) (x2 : Int) : ((0 : Nat) = 0 ∨ (0 : Nat) = 1) ∧ (3 ≤ 112 ∧ 112 < 241) ∧ (mP 112).1 = 1 ∧ (mP 112).2.1 = ([.inl x0, .inl x1, .inl x2] : List AV).length ∧ catS [.inl x0, .inl x1, .inl x2] ≤ mL 112 := ⟨by decide, by decide, by decide +kernel, (show (mP 112).2.1 = 3 by decide +kernel), (show 3 ≤ mL 112 by decide +kernel)⟩
theorem cq113 (a0 : Nat) (x1 : Int) : (3 ≤ 113 ∧ 113 < 241) ∧ (mP 113).1 = 0 ∧ 11 < 14 ∧ mO 113 = 11 ∧ (mP 113).2.1 = ([.inl x1] : List AV).length ∧ catS (.inr (.inr a0) :: [.inl x1]) ≤ mL 113 := ⟨by decide, by decide +kernel, by decide, by decide +kernel, (show (mP 113).2.1 = 1 by decide +kernel), (show 2 ≤ mL 113 by decide +kernel)⟩
theorem cq114 (a0 : Nat) (x1 : Int) (x2 : Int) (x3 : Int) : (3 ≤ 114 ∧ 114 < 241) ∧ (mP 114).1 = 0 ∧ 11 < 14 ∧ mO 114 = 11 ∧ (mP 114).2.1 = ([.inl x1, .inl x2, .inl x3] : List AV).length ∧ catS (.inr (.inr a0) :: [.inl x1, .inl x2, .inl x3]) ≤ mL 114 := ⟨by decide, by decide +kernel, by decide, by decide +kernel, (show (mP 114).2.1 = 3 by decide +kernel), (show 4 ≤ mL 114 by decide +kernel)⟩
theorem cq115 (a0 : Nat) (x1 : Int) (x2 : Int) : (3 ≤ 115 ∧ 115 < 241) ∧ (mP 115).1 = 0 ∧ 11 < 14 ∧ mO 115 = 11 ∧ (mP 115).2.1 = ([.inl x1, .inl x2] : List AV).length ∧ catS (.inr (.inr a0) :: [.inl x1, .inl x2]) ≤ mL 115 := ⟨by decide, by decide +kernel, by decide, by decide +kernel, (show (mP 115).2.1 = 2 by decide +kernel), (show 3 ≤ mL 115 by decide +kernel)⟩
theorem cq116 (a0 : Nat) (x1 : Int) : (3 ≤ 116 ∧ 116 < 241) ∧ (mP 116).1 = 0 ∧ 11 < 14 ∧ mO 116 = 11 ∧ (mP 116).2.1 = ([.inl x1] : List AV).length ∧ catS (.inr (.inr a0) :: [.inl x1]) ≤ mL 116 := ⟨by decide, by decide +kernel, by decide, by decide +kernel, (show (mP 116).2.1 = 1 by decide +kernel), (show 2 ≤ mL 116 by decide +kernel)⟩
theorem cq117 (a0 : Nat) (x1 : Int) (x2 : Int) : (3 ≤ 117 ∧ 117 < 241) ∧ (mP 117).1 = 0 ∧ 11 < 14 ∧ mO 117 = 11 ∧ (mP 117).2.1 = ([.inl x1, .inl x2] : List AV).length ∧ catS (.inr (.inr a0) :: [.inl x1, .inl x2]) ≤ mL 117 := ⟨by decide, by decide +kernel, by decide, by decide +kernel, (show (mP 117).2.1 = 2 by decide +kernel), (show 3 ≤ mL 117 by decide +kernel)⟩
theorem cq118 (a0 : Nat) (x1 : Int) : (3 ≤ 118 ∧ 118 < 241) ∧ (mP 118).1 = 0 ∧ 11 < 14 ∧ mO 118 = 11 ∧ (mP 118).2.1 = ([.inl x1] : List AV).length ∧ catS (.inr (.inr a0) :: [.inl x1]) ≤ mL 118 := ⟨by decide, by decide +kernel, by decide, by decide +kernel, (show (mP 118).2.1 = 1 by decide +kernel), (show 2 ≤ mL 118 by decide +kernel)⟩
theorem cq119 (a0 : Nat) : (3 ≤ 119 ∧ 119 < 241) ∧ (mP 119).1 = 0 ∧ 11 < 14 ∧ mO 119 = 11 ∧ (mP 119).2.1 = ([] : List AV).length ∧ catS (.inr (.inr a0) :: []) ≤ mL 119 := ⟨by decide, by decide +kernel, by decide, by decide +kernel, (show (mP 119).2.1 = 0 by decide +kernel), (show 1 ≤ mL 119 by decide +kernel)⟩
theorem cq120 (a0 : Nat) (x1 : Int) (x2 : Int) (x3 : Int) : (3 ≤ 120 ∧ 120 < 241) ∧ (mP 120).1 = 0 ∧ 11 < 14 ∧ mO 120 = 11 ∧ (mP 120).2.1 = ([.inl x1, .inl x2, .inl x3] : List AV).length ∧ catS (.inr (.inr a0) :: [.inl x1, .inl x2, .inl x3]) ≤ mL 120 := ⟨by decide, by decide +kernel, by decide, by decide +kernel, (show (mP 120).2.1 = 3 by decide +kernel), (show 4 ≤ mL 120 by decide +kernel)⟩
theorem cq121 (a0 : Nat) (x1 : Int) : (3 ≤ 121 ∧ 121 < 241) ∧ (mP 121).1 = 0 ∧ 11 < 14 ∧ mO 121 = 11 ∧ (mP 121).2.1 = ([.inl x1] : List AV).length ∧ catS (.inr (.inr a0) :: [.inl x1]) ≤ mL 121 := ⟨by decide, by decide +kernel, by decide, by decide +kernel, (show (mP 121).2.1 = 1 by decide +kernel), (show 2 ≤ mL 121 by decide +kernel)⟩
theorem cq122 (a0 : Nat) : (3 ≤ 122 ∧ 122 < 241) ∧ (mP 122).1 = 0 ∧ 11 < 14 ∧ mO 122 = 11 ∧ (mP 122).2.1 = ([] : List AV).length ∧ catS (.inr (.inr a0) :: []) ≤ mL 122 := ⟨by decide, by decide +kernel, by decide, by decide +kernel, (show (mP 122).2.1 = 0 by decide +kernel), (show 1 ≤ mL 122 by decide +kernel)⟩
theorem cq123 (a0 : Nat) (x1 : Int) (x2 : Int) : (3 ≤ 123 ∧ 123 < 241) ∧ (mP 123).1 = 0 ∧ 11 < 14 ∧ mO 123 = 11 ∧ (mP 123).2.1 = ([.inl x1, .inl x2] : List AV).length ∧ catS (.inr (.inr a0) :: [.inl x1, .inl x2]) ≤ mL 123 := ⟨by decide, by decide +kernel, by decide, by decide +kernel, (show (mP 123).2.1 = 2 by decide +kernel), (show 3 ≤ mL 123 by decide +kernel)⟩
theorem cq124 (a0 : Nat) (x1 : Int) (x2 : Int) : (3 ≤ 124 ∧ 124 < 241) ∧ (mP 124).1 = 0 ∧ 11 < 14 ∧ mO 124 = 11 ∧ (mP 124).2.1 = ([.inl x1, .inl x2] : List AV).length ∧ catS (.inr (.inr a0) :: [.inl x1, .inl x2]) ≤ mL 124 := ⟨by decide, by decide +kernel, by decide, by decide +kernel, (show (mP 124).2.1 = 2 by decide +kernel), (show 3 ≤ mL 124 by decide +kernel)⟩
theorem cq125 (a0 : Nat) (x1 : Int) (x2 : Int) (x3 : Int) : (3 ≤ 125 ∧ 125 < 241) ∧ (mP 125).1 = 0 ∧ 11 < 14 ∧ mO 125 = 11 ∧ (mP 125).2.1 = ([.inl x1, .inl x2, .inl x3] : List AV).length ∧ catS (.inr (.inr a0) :: [.inl x1, .inl x2, .inl x3]) ≤ mL 125 := ⟨by decide, by decide +kernel, by decide, by decide +kernel, (show (mP 125).2.1 = 3 by decide +kernel), (show 4 ≤ mL 125 by decide +kernel)⟩
theorem cq126 (a0 : Nat) (x1 : Int) : (3 ≤ 126 ∧ 126 < 241) ∧ (mP 126).1 = 0 ∧ 11 < 14 ∧ mO 126 = 11 ∧ (mP 126).2.1 = ([.inl x1] : List AV).length ∧ catS (.inr (.inr a0) :: [.inl x1]) ≤ mL 126 := ⟨by decide, by decide +kernel, by decide, by decide +kernel, (show (mP 126).2.1 = 1 by decide +kernel), (show 2 ≤ mL 126 by decide +kernel)⟩
theorem cq127 (a0 : Nat) (x1 : Int) : (3 ≤ 127 ∧ 127 < 241) ∧ (mP 127).1 = 0 ∧ 11 < 14 ∧ mO 127 = 11 ∧ (mP 127).2.1 = ([.inl x1] : List AV).length ∧ catS (.inr (.inr a0) :: [.inl x1]) ≤ mL 127 := ⟨by decide, by decide +kernel, by decide, by decide +kernel, (show (mP 127).2.1 = 1 by decide +kernel), (show 2 ≤ mL 127 by decide +kernel)⟩
theorem cq128 (a0 : Nat) (x1 : Int) (x2 : Int) : (3 ≤ 128 ∧ 128 < 241) ∧ (mP 128).1 = 0 ∧ 11 < 14 ∧ mO 128 = 11 ∧ (mP 128).2.1 = ([.inl x1, .inl x2] : List AV).length ∧ catS (.inr (.inr a0) :: [.inl x1, .inl x2]) ≤ mL 128 := ⟨by decide, by decide +kernel, by decide, by decide +kernel, (show (mP 128).2.1 = 2 by decide +kernel), (show 3 ≤ mL 128 by decide +kernel)⟩
theorem cq129 (a0 : Nat) (x1 : Int) : (3 ≤ 129 ∧ 129 < 241) ∧ (mP 129).1 = 0 ∧ 11 < 14 ∧ mO 129 = 11 ∧ (mP 129).2.1 = ([.inl x1] : List AV).length ∧ catS (.inr (.inr a0) :: [.inl x1]) ≤ mL 129 := ⟨by decide, by decide +kernel, by decide, by decide +kernel, (show (mP 129).2.1 = 1 by decide +kernel), (show 2 ≤ mL 129 by decide +kernel)⟩
theorem cq130 (a0 : Nat) (x1 : Int) (x2 : Int) : (3 ≤ 130 ∧ 130 < 241) ∧ (mP 130).1 = 0 ∧ 11 < 14 ∧ mO 130 = 11 ∧ (mP 130).2.1 = ([.inl x1, .inl x2] : List AV).length ∧ catS (.inr (.inr a0) :: [.inl x1, .inl x2]) ≤ mL 130 := ⟨by decide, by decide +kernel, by decide, by decide +kernel, (show (mP 130).2.1 = 2 by decide +kernel), (show 3 ≤ mL 130 by decide +kernel)⟩
theorem cq131 (a0 : Nat) (x1 : Int) (x2 : Int) (x3 : Int) : (3 ≤ 131 ∧ 131 < 241) ∧ (mP 131).1 = 0 ∧ 11 < 14 ∧ mO 131 = 11 ∧ (mP 131).2.1 = ([.inl x1, .inl x2, .inl x3] : List AV).length ∧ catS (.inr (.inr a0) :: [.inl x1, .inl x2, .inl x3]) ≤ mL 131 := ⟨by decide, by decide +kernel, by decide, by decide +kernel, (show (mP 131).2.1 = 3 by decide +kernel), (show 4 ≤ mL 131 by decide +kernel)⟩
theorem cq132 (a0 : Nat) : (3 ≤ 132 ∧ 132 < 241) ∧ (mP 132).1 = 0 ∧ 11 < 14 ∧ mO 132 = 11 ∧ (mP 132).2.1 = ([] : List AV).length ∧ catS (.inr (.inr a0) :: []) ≤ mL 132 := ⟨by decide, by decide +kernel, by decide, by decide +kernel, (show (mP 132).2.1 = 0 by decide +kernel), (show 1 ≤ mL 132 by decide +kernel)⟩
theorem cq133 (a0 : Nat) (x1 : Int) : (3 ≤ 133 ∧ 133 < 241) ∧ (mP 133).1 = 0 ∧ 11 < 14 ∧ mO 133 = 11 ∧ (mP 133).2.1 = ([.inl x1] : List AV).length ∧ catS (.inr (.inr a0) :: [.inl x1]) ≤ mL 133 := ⟨by decide, by decide +kernel, by decide, by decide +kernel, (show (mP 133).2.1 = 1 by decide +kernel), (show 2 ≤ mL 133 by decide +kernel)⟩
theorem cq134 (a0 : Nat) (x1 : Int) (x2 : Int) : (3 ≤ 134 ∧ 134 < 241) ∧ (mP 134).1 = 0 ∧ 11 < 14 ∧ mO 134 = 11 ∧ (mP 134).2.1 = ([.inl x1, .inl x2] : List AV).length ∧ catS (.inr (.inr a0) :: [.inl x1, .inl x2]) ≤ mL 134 := ⟨by decide, by decide +kernel, by decide, by decide +kernel, (show (mP 134).2.1 = 2 by decide +kernel), (show 3 ≤ mL 134 by decide +kernel)⟩
theorem cq135 (a0 : Nat) (x1 : Int) (x2 : Int) : (3 ≤ 135 ∧ 135 < 241) ∧ (mP 135).1 = 0 ∧ 11 < 14 ∧ mO 135 = 11 ∧ (mP 135).2.1 = ([.inl x1, .inl x2] : List AV).length ∧ catS (.inr (.inr a0) :: [.inl x1, .inl x2]) ≤ mL 135 := ⟨by decide, by decide +kernel, by decide, by decide +kernel, (show (mP 135).2.1 = 2 by decide +kernel), (show 3 ≤ mL 135 by decide +kernel)⟩
theorem cq136 (a0 : Nat) (x1 : Int) (x2 : Int) : (3 ≤ 136 ∧ 136 < 241) ∧ (mP 136).1 = 0 ∧ 11 < 14 ∧ mO 136 = 11 ∧ (mP 136).2.1 = ([.inl x1, .inl x2] : List AV).length ∧ catS (.inr (.inr a0) :: [.inl x1, .inl x2]) ≤ mL 136 := ⟨by decide, by decide +kernel, by decide, by decide +kernel, (show (mP 136).2.1 = 2 by decide +kernel), (show 3 ≤ mL 136 by decide +kernel)⟩
theorem cq137 (a0 : Nat) (x1 : Int) : (3 ≤ 137 ∧ 137 < 241) ∧ (mP 137).1 = 0 ∧ 11 < 14 ∧ mO 137 = 11 ∧ (mP 137).2.1 = ([.inl x1] : List AV).length ∧ catS (.inr (.inr a0) :: [.inl x1]) ≤ mL 137 := ⟨by decide, by decide +kernel, by decide, by decide +kernel, (show (mP 137).2.1 = 1 by decide +kernel), (show 2 ≤ mL 137 by decide +kernel)⟩
theorem cq138 (a0 : Nat) (x1 : Int) (x2 : Int) : (3 ≤ 138 ∧ 138 < 241) ∧ (mP 138).1 = 0 ∧ 11 < 14 ∧ mO 138 = 11 ∧ (mP 138).2.1 = ([.inl x1, .inl x2] : List AV).length ∧ catS (.inr (.inr a0) :: [.inl x1, .inl x2]) ≤ mL 138 := ⟨by decide, by decide +kernel, by decide, by decide +kernel, (show (mP 138).2.1 = 2 by decide +kernel), (show 3 ≤ mL 138 by decide +kernel)⟩
theorem cq139 (a0 : Nat) : (3 ≤ 139 ∧ 139 < 241) ∧ (mP 139).1 = 0 ∧ 11 < 14 ∧ mO 139 = 11 ∧ (mP 139).2.1 = ([] : List AV).length ∧ catS (.inr (.inr a0) :: []) ≤ mL 139 := ⟨by decide, by decide +kernel, by decide, by decide +kernel, (show (mP 139).2.1 = 0 by decide +kernel), (show 1 ≤ mL 139 by decide +kernel)⟩
theorem cq140 (a0 : Nat) (x1 : Int) (x2 : Int) (x3 : Int) : (3 ≤ 140 ∧ 140 < 241) ∧ (mP 140).1 = 0 ∧ 11 < 14 ∧ mO 140 = 11 ∧ (mP 140).2.1 = ([.inl x1, .inl x2, .inl x3] : List AV).length ∧ catS (.inr (.inr a0) :: [.inl x1, .inl x2, .inl x3]) ≤ mL 140 := ⟨by decide, by decide +kernel, by decide, by decide +kernel, (show (mP 140).2.1 = 3 by decide +kernel), (show 4 ≤ mL 140 by decide +kernel)⟩
theorem cq141 (a0 : Nat) (x1 : Int) (x2 : Int) (x3 : Int) : (3 ≤ 141 ∧ 141 < 241) ∧ (mP 141).1 = 0 ∧ 11 < 14 ∧ mO 141 = 11 ∧ (mP 141).2.1 = ([.inl x1, .inl x2, .inl x3] : List AV).length ∧ catS (.inr (.inr a0) :: [.inl x1, .inl x2, .inl x3]) ≤ mL 141 := ⟨by decide, by decide +kernel, by decide, by decide +kernel, (show (mP 141).2.1 = 3 by decide +kernel), (show 4 ≤ mL 141 by decide +kernel)⟩
theorem cq142 (a0 : Nat) (x1 : Int) : (3 ≤ 142 ∧ 142 < 241) ∧ (mP 142).1 = 0 ∧ 11 < 14 ∧ mO 142 = 11 ∧ (mP 142).2.1 = ([.inl x1] : List AV).length ∧ catS (.inr (.inr a0) :: [.inl x1]) ≤ mL 142 := ⟨by decide, by decide +kernel, by decide, by decide +kernel, (show (mP 142).2.1 = 1 by decide +kernel), (show 2 ≤ mL 142 by decide +kernel)⟩
theorem cq143 (a0 : Nat) (x1 : Int) : (3 ≤ 143 ∧ 143 < 241) ∧ (mP 143).1 = 0 ∧ 11 < 14 ∧ mO 143 = 11 ∧ (mP 143).2.1 = ([.inl x1] : List AV).length ∧ catS (.inr (.inr a0) :: [.inl x1]) ≤ mL 143 := ⟨by decide, by decide +kernel, by decide, by decide +kernel, (show (mP 143).2.1 = 1 by decide +kernel), (show 2 ≤ mL 143 by decide +kernel)⟩
theorem cq144 (a0 : Nat) (x1 : Int) : (3 ≤ 144 ∧ 144 < 241) ∧ (mP 144).1 = 0 ∧ 11 < 14 ∧ mO 144 = 11 ∧ (mP 144).2.1 = ([.inl x1] : List AV).length ∧ catS (.inr (.inr a0) :: [.inl x1]) ≤ mL 144 := ⟨by decide, by decide +kernel, by decide, by decide +kernel, (show (mP 144).2.1 = 1 by decide +kernel), (show 2 ≤ mL 144 by decide +kernel)⟩
theorem cq145 (a0 : Nat) : (3 ≤ 145 ∧ 145 < 241) ∧ (mP 145).1 = 0 ∧ 11 < 14 ∧ mO 145 = 11 ∧ (mP 145).2.1 = ([] : List AV).length ∧ catS (.inr (.inr a0) :: []) ≤ mL 145 := ⟨by decide, by decide +kernel, by decide, by decide +kernel, (show (mP 145).2.1 = 0 by decide +kernel), (show 1 ≤ mL 145 by decide +kernel)⟩
theorem cq146 (x0 : Int) (x1 : Int) (x2 : Int) : ((1 : Nat) = 0 ∨ (1 : Nat) = 1) ∧ (3 ≤ 146 ∧ 146 < 241) ∧ (mP 146).1 = 1 ∧ (mP 146).2.1 = ([.inl x0, .inl x1, .inl x2] : List AV).length ∧ catS [.inl x0, .inl x1, .inl x2] ≤ mL 146 := ⟨by decide, by decide, by decide +kernel, (show (mP 146).2.1 = 3 by decide +kernel), (show 3 ≤ mL 146 by decide +kernel)⟩
theorem cq147 (a0 : Nat) : ((0 : Nat) = 0 ∨ (0 : Nat) = 1) ∧ (3 ≤ 147 ∧ 147 < 241) ∧ (mP 147).1 = 2 ∧ (mP 147).2.1 = ([] : List AV).length ∧ catS (.inr (.inr a0) :: []) ≤ mL 147 ∧ 12 ≠ 99 := ⟨by decide, by decide, by decide +kernel, (show (mP 147).2.1 = 0 by decide +kernel), (show 1 ≤ mL 147 by decide +kernel), by decide⟩
theorem cq148 (a0 : Nat) (x1 : Int) (x2 : Int) (x3 : Int) (x4 : Int) (x5 : Int) : (3 ≤ 148 ∧ 148 < 241) ∧ (mP 148).1 = 0 ∧ 12 < 14 ∧ mO 148 = 12 ∧ (mP 148).2.1 = ([.inl x1, .inl x2, .inl x3, .inl x4, .inl x5] : List AV).length ∧ catS (.inr (.inr a0) :: [.inl x1, .inl x2, .inl x3, .inl x4, .inl x5]) ≤ mL 148 := ⟨by decide, by decide +kernel, by decide, by decide +kernel, (show (mP 148).2.1 = 5 by decide +kernel), (show 6 ≤ mL 148 by decide +kernel)⟩
theorem cq149 (a0 : Nat) (x1 : Int) : (3 ≤ 149 ∧ 149 < 241) ∧ (mP 149).1 = 0 ∧ 12 < 14 ∧ mO 149 = 12 ∧ (mP 149).2.1 = ([.inl x1] : List AV).length ∧ catS (.inr (.inr a0) :: [.inl x1]) ≤ mL 149 := ⟨by decide, by decide +kernel, by decide, by decide +kernel, (show (mP 149).2.1 = 1 by decide +kernel), (show 2 ≤ mL 149 by decide +kernel)⟩
theorem cq150 (a0 : Nat) (x1 : Int) : (3 ≤ 150 ∧ 150 < 241) ∧ (mP 150).1 = 0 ∧ 12 < 14 ∧ mO 150 = 12 ∧ (mP 150).2.1 = ([.inl x1] : List AV).length ∧ catS (.inr (.inr a0) :: [.inl x1]) ≤ mL 150 := ⟨by decide, by decide +kernel, by decide, by decide +kernel, (show (mP 150).2.1 = 1 by decide +kernel), (show 2 ≤ mL 150 by decide +kernel)⟩
theorem cq151 (a0 : Nat) (x1 : Int) : (3 ≤ 151 ∧ 151 < 241) ∧ (mP 151).1 = 0 ∧ 12 < 14 ∧ mO 151 = 12 ∧ (mP 151).2.1 = ([.inl x1] : List AV).length ∧ catS (.inr (.inr a0) :: [.inl x1]) ≤ mL 151 := ⟨by decide, by decide +kernel, by decide, by decide +kernel, (show (mP 151).2.1 = 1 by decide +kernel), (show 2 ≤ mL 151 by decide +kernel)⟩
theorem cq152 (x0 : Int) : ((0 : Nat) = 0 ∨ (0 : Nat) = 1) ∧ (3 ≤ 152 ∧ 152 < 241) ∧ (mP 152).1 = 1 ∧ (mP 152).2.1 = ([.inl x0] : List AV).length ∧ catS [.inl x0] ≤ mL 152 := ⟨by decide, by decide, by decide +kernel, (show (mP 152).2.1 = 1 by decide +kernel), (show 1 ≤ mL 152 by decide +kernel)⟩
theorem cq153 (x0 : Int) : ((0 : Nat) = 0 ∨ (0 : Nat) = 1) ∧ (3 ≤ 153 ∧ 153 < 241) ∧ (mP 153).1 = 1 ∧ (mP 153).2.1 = ([.inl x0] : List AV).length ∧ catS [.inl x0] ≤ mL 153 := ⟨by decide, by decide, by decide +kernel, (show (mP 153).2.1 = 1 by decide +kernel), (show 1 ≤ mL 153 by decide +kernel)⟩
theorem cq154 (x0 : Int) (x2 : Int) : ((0 : Nat) = 0 ∨ (0 : Nat) = 1) ∧ (3 ≤ 154 ∧ 154 < 241) ∧ (mP 154).1 = 1 ∧ (mP 154).2.1 = ([.inr (.inl x0), .inl x2] : List AV).length ∧ catS [.inr (.inl x0), .inl x2] ≤ mL 154 := ⟨by decide, by decide, by decide +kernel, (show (mP 154).2.1 = 2 by decide +kernel), (show 3 ≤ mL 154 by decide +kernel)⟩
theorem cq155 (x0 : Int) (x1 : Int) (x2 : Int) (x3 : Int) (x4 : Int) (x5 : Int) (x6 : Int) : ((0 : Nat) = 0 ∨ (0 : Nat) = 1) ∧ (3 ≤ 155 ∧ 155 < 241) ∧ (mP 155).1 = 1 ∧ (mP 155).2.1 = ([.inl x0, .inl x1, .inl x2, .inl x3, .inl x4, .inl x5, .inl x6] : List AV).length ∧ catS [.inl x0, .inl x1, .inl x2, .inl x3, .inl x4, .inl x5, .inl x6] ≤ mL 155 := ⟨by decide, by decide, by decide +kernel, (show (mP 155).2.1 = 7 by decide +kernel), (show 7 ≤ mL 155 by decide +kernel)⟩
theorem cq156 (a0 : Nat) (x1 : Int) (x2 : Int) (x3 : Int) (x4 : Int) : (3 ≤ 156 ∧ 156 < 241) ∧ (mP 156).1 = 0 ∧ 12 < 14 ∧ mO 156 = 12 ∧ (mP 156).2.1 = ([.inl x1, .inl x2, .inl x3, .inr (.inl x4)] : List AV).length ∧ catS (.inr (.inr a0) :: [.inl x1, .inl x2, .inl x3, .inr (.inl x4)]) ≤ mL 156 := ⟨by decide, by decide +kernel, by decide, by decide +kernel, (show (mP 156).2.1 = 4 by decide +kernel), (show 6 ≤ mL 156 by decide +kernel)⟩
theorem cq157 (a0 : Nat) : (3 ≤ 157 ∧ 157 < 241) ∧ (mP 157).1 = 0 ∧ 12 < 14 ∧ mO 157 = 12 ∧ (mP 157).2.1 = ([] : List AV).length ∧ catS (.inr (.inr a0) :: []) ≤ mL 157 := ⟨by decide, by decide +kernel, by decide, by decide +kernel, (show (mP 157).2.1 = 0 by decide +kernel), (show 1 ≤ mL 157 by decide +kernel)⟩
theorem cq158 (a0 : Nat) (x1 : Int) (x2 : Int) (x3 : Int) : (3 ≤ 158 ∧ 158 < 241) ∧ (mP 158).1 = 0 ∧ 12 < 14 ∧ mO 158 = 12 ∧ (mP 158).2.1 = ([.inl x1, .inl x2, .inl x3] : List AV).length ∧ catS (.inr (.inr a0) :: [.inl x1, .inl x2, .inl x3]) ≤ mL 158 := ⟨by decide, by decide +kernel, by decide, by decide +kernel, (show (mP 158).2.1 = 3 by decide +kernel), (show 4 ≤ mL 158 by decide +kernel)⟩
theorem cq159 (a0 : Nat) (x1 : Int) : (3 ≤ 159 ∧ 159 < 241) ∧ (mP 159).1 = 0 ∧ 12 < 14 ∧ mO 159 = 12 ∧ (mP 159).2.1 = ([.inl x1] : List AV).length ∧ catS (.inr (.inr a0) :: [.inl x1]) ≤ mL 159 := ⟨by decide, by decide +kernel, by decide, by decide +kernel, (show (mP 159).2.1 = 1 by decide +kernel), (show 2 ≤ mL 159 by decide +kernel)⟩
theorem cq160 (a0 : Nat) (x1 : Int) : (3 ≤ 160 ∧ 160 < 241) ∧ (mP 160).1 = 0 ∧ 12 < 14 ∧ mO 160 = 12 ∧ (mP 160).2.1 = ([.inl x1] : List AV).length ∧ catS (.inr (.inr a0) :: [.inl x1]) ≤ mL 160 := ⟨by decide, by decide +kernel, by decide, by decide +kernel, (show (mP 160).2.1 = 1 by decide +kernel), (show 2 ≤ mL 160 by decide +kernel)⟩
theorem cq161 (a0 : Nat) (x1 : Int) (x2 : Int) : (3 ≤ 161 ∧ 161 < 241) ∧ (mP 161).1 = 0 ∧ 12 < 14 ∧ mO 161 = 12 ∧ (mP 161).2.1 = ([.inl x1, .inl x2] : List AV).length ∧ catS (.inr (.inr a0) :: [.inl x1, .inl x2]) ≤ mL 161 := ⟨by decide, by decide +kernel, by decide, by decide +kernel, (show (mP 161).2.1 = 2 by decide +kernel), (show 3 ≤ mL 161 by decide +kernel)⟩
theorem cq162 (a0 : Nat) : (3 ≤ 162 ∧ 162 < 241) ∧ (mP 162).1 = 0 ∧ 12 < 14 ∧ mO 162 = 12 ∧ (mP 162).2.1 = ([] : List AV).length ∧ catS (.inr (.inr a0) :: []) ≤ mL 162 := ⟨by decide, by decide +kernel, by decide, by decide +kernel, (show (mP 162).2.1 = 0 by decide +kernel), (show 1 ≤ mL 162 by decide +kernel)⟩
theorem cq163 (a0 : Nat) (x1 : Int) : (3 ≤ 163 ∧ 163 < 241) ∧ (mP 163).1 = 0 ∧ 12 < 14 ∧ mO 163 = 12 ∧ (mP 163).2.1 = ([.inl x1] : List AV).length ∧ catS (.inr (.inr a0) :: [.inl x1]) ≤ mL 163 := ⟨by decide, by decide +kernel, by decide, by decide +kernel, (show (mP 163).2.1 = 1 by decide +kernel), (show 2 ≤ mL 163 by decide +kernel)⟩
theorem cq164 (a0 : Nat) (x1 : Int) : (3 ≤ 164 ∧ 164 < 241) ∧ (mP 164).1 = 0 ∧ 12 < 14 ∧ mO 164 = 12 ∧ (mP 164).2.1 = ([.inl x1] : List AV).length ∧ catS (.inr (.inr a0) :: [.inl x1]) ≤ mL 164 := ⟨by decide, by decide +kernel, by decide, by decide +kernel, (show (mP 164).2.1 = 1 by decide +kernel), (show 2 ≤ mL 164 by decide +kernel)⟩
theorem cq165 (a0 : Nat) : (3 ≤ 165 ∧ 165 < 241) ∧ (mP 165).1 = 0 ∧ 12 < 14 ∧ mO 165 = 12 ∧ (mP 165).2.1 = ([] : List AV).length ∧ catS (.inr (.inr a0) :: []) ≤ mL 165 := ⟨by decide, by decide +kernel, by decide, by decide +kernel, (show (mP 165).2.1 = 0 by decide +kernel), (show 1 ≤ mL 165 by decide +kernel)⟩
theorem cq166 (a0 : Nat) : (3 ≤ 166 ∧ 166 < 241) ∧ (mP 166).1 = 0 ∧ 12 < 14 ∧ mO 166 = 12 ∧ (mP 166).2.1 = ([] : List AV).length ∧ catS (.inr (.inr a0) :: []) ≤ mL 166 := ⟨by decide, by decide +kernel, by decide, by decide +kernel, (show (mP 166).2.1 = 0 by decide +kernel), (show 1 ≤ mL 166 by decide +kernel)⟩
theorem cq167 (a0 : Nat) (x1 : Int) (x2 : Int) : (3 ≤ 167 ∧ 167 < 241) ∧ (mP 167).1 = 0 ∧ 12 < 14 ∧ mO 167 = 12 ∧ (mP 167).2.1 = ([.inl x1, .inl x2] : List AV).length ∧ catS (.inr (.inr a0) :: [.inl x1, .inl x2]) ≤ mL 167 := ⟨by decide, by decide +kernel, by decide, by decide +kernel, (show (mP 167).2.1 = 2 by decide +kernel), (show 3 ≤ mL 167 by decide +kernel)⟩
theorem cq168 (a0 : Nat) : (3 ≤ 168 ∧ 168 < 241) ∧ (mP 168).1 = 0 ∧ 12 < 14 ∧ mO 168 = 12 ∧ (mP 168).2.1 = ([] : List AV).length ∧ catS (.inr (.inr a0) :: []) ≤ mL 168 := ⟨by decide, by decide +kernel, by decide, by decide +kernel, (show (mP 168).2.1 = 0 by decide +kernel), (show 1 ≤ mL 168 by decide +kernel)⟩
theorem cq169 (a0 : Nat) : (3 ≤ 169 ∧ 169 < 241) ∧ (mP 169).1 = 0 ∧ 12 < 14 ∧ mO 169 = 12 ∧ (mP 169).2.1 = ([] : List AV).length ∧ catS (.inr (.inr a0) :: []) ≤ mL 169 := ⟨by decide, by decide +kernel, by decide, by decide +kernel, (show (mP 169).2.1 = 0 by decide +kernel), (show 1 ≤ mL 169 by decide +kernel)⟩
theorem cq170 (a0 : Nat) (x1 : Int) (x2 : Int) : (3 ≤ 170 ∧ 170 < 241) ∧ (mP 170).1 = 0 ∧ 12 < 14 ∧ mO 170 = 12 ∧ (mP 170).2.1 = ([.inl x1, .inl x2] : List AV).length ∧ catS (.inr (.inr a0) :: [.inl x1, .inl x2]) ≤ mL 170 := ⟨by decide, by decide +kernel, by decide, by decide +kernel, (show (mP 170).2.1 = 2 by decide +kernel), (show 3 ≤ mL 170 by decide +kernel)⟩
theorem cq171 (a0 : Nat) : (3 ≤ 171 ∧ 171 < 241) ∧ (mP 171).1 = 0 ∧ 12 < 14 ∧ mO 171 = 12 ∧ (mP 171).2.1 = ([] : List AV).length ∧ catS (.inr (.inr a0) :: []) ≤ mL 171 := ⟨by decide, by decide +kernel, by decide, by decide +kernel, (show (mP 171).2.1 = 0 by decide +kernel), (show 1 ≤ mL 171 by decide +kernel)⟩
theorem cq172 (a0 : Nat) (x1 : Int) (x2 : Int) : (3 ≤ 172 ∧ 172 < 241) ∧ (mP 172).1 = 0 ∧ 12 < 14 ∧ mO 172 = 12 ∧ (mP 172).2.1 = ([.inl x1, .inl x2] : List AV).length ∧ catS (.inr (.inr a0) :: [.inl x1, .inl x2]) ≤ mL 172 := ⟨by decide, by decide +kernel, by decide, by decide +kernel, (show (mP 172).2.1 = 2 by decide +kernel), (show 3 ≤ mL 172 by decide +kernel)⟩
theorem cq173 (a0 : Nat) : (3 ≤ 173 ∧ 173 < 241) ∧ (mP 173).1 = 0 ∧ 12 < 14 ∧ mO 173 = 12 ∧ (mP 173).2.1 = ([] : List AV).length ∧ catS (.inr (.inr a0) :: []) ≤ mL 173 := ⟨by decide, by decide +kernel, by decide, by decide +kernel, (show (mP 173).2.1 = 0 by decide +kernel), (show 1 ≤ mL 173 by decide +kernel)⟩
theorem cq174 (a0 : Nat) : (3 ≤ 174 ∧ 174 < 241) ∧ (mP 174).1 = 0 ∧ 12 < 14 ∧ mO 174 = 12 ∧ (mP 174).2.1 = ([] : List AV).length ∧ catS (.inr (.inr a0) :: []) ≤ mL 174 := ⟨by decide, by decide +kernel, by decide, by decide +kernel, (show (mP 174).2.1 = 0 by decide +kernel), (show 1 ≤ mL 174 by decide +kernel)⟩
theorem cq175 (a0 : Nat) : (3 ≤ 175 ∧ 175 < 241) ∧ (mP 175).1 = 0 ∧ 12 < 14 ∧ mO 175 = 12 ∧ (mP 175).2.1 = ([] : List AV).length ∧ catS (.inr (.inr a0) :: []) ≤ mL 175 := ⟨by decide, by decide +kernel, by decide, by decide +kernel, (show (mP 175).2.1 = 0 by decide +kernel), (show 1 ≤ mL 175 by decide +kernel)⟩
theorem cq176 (a0 : Nat) (x1 : Int) : (3 ≤ 176 ∧ 176 < 241) ∧ (mP 176).1 = 0 ∧ 12 < 14 ∧ mO 176 = 12 ∧ (mP 176).2.1 = ([.inl x1] : List AV).length ∧ catS (.inr (.inr a0) :: [.inl x1]) ≤ mL 176 := ⟨by decide, by decide +kernel, by decide, by decide +kernel, (show (mP 176).2.1 = 1 by decide +kernel), (show 2 ≤ mL 176 by decide +kernel)⟩
theorem cq177 (a0 : Nat) : (3 ≤ 177 ∧ 177 < 241) ∧ (mP 177).1 = 0 ∧ 12 < 14 ∧ mO 177 = 12 ∧ (mP 177).2.1 = ([] : List AV).length ∧ catS (.inr (.inr a0) :: []) ≤ mL 177 := ⟨by decide, by decide +kernel, by decide, by decide +kernel, (show (mP 177).2.1 = 0 by decide +kernel), (show 1 ≤ mL 177 by decide +kernel)⟩
theorem cq178 (a0 : Nat) (x1 : Int) (x2 : Int) : (3 ≤ 178 ∧ 178 < 241) ∧ (mP 178).1 = 0 ∧ 12 < 14 ∧ mO 178 = 12 ∧ (mP 178).2.1 = ([.inl x1, .inl x2] : List AV).length ∧ catS (.inr (.inr a0) :: [.inl x1, .inl x2]) ≤ mL 178 := ⟨by decide, by decide +kernel, by decide, by decide +kernel, (show (mP 178).2.1 = 2 by decide +kernel), (show 3 ≤ mL 178 by decide +kernel)⟩
theorem cq179 (a0 : Nat) (x1 : Int) : (3 ≤ 179 ∧ 179 < 241) ∧ (mP 179).1 = 0 ∧ 12 < 14 ∧ mO 179 = 12 ∧ (mP 179).2.1 = ([.inl x1] : List AV).length ∧ catS (.inr (.inr a0) :: [.inl x1]) ≤ mL 179 := ⟨by decide, by decide +kernel, by decide, by decide +kernel, (show (mP 179).2.1 = 1 by decide +kernel), (show 2 ≤ mL 179 by decide +kernel)⟩
theorem cq180 (a0 : Nat) : (3 ≤ 180 ∧ 180 < 241) ∧ (mP 180).1 = 0 ∧ 12 < 14 ∧ mO 180 = 12 ∧ (mP 180).2.1 = ([] : List AV).length ∧ catS (.inr (.inr a0) :: []) ≤ mL 180 := ⟨by decide, by decide +kernel, by decide, by decide +kernel, (show (mP 180).2.1 = 0 by decide +kernel), (show 1 ≤ mL 180 by decide +kernel)⟩
theorem cq181 (a0 : Nat) : (3 ≤ 181 ∧ 181 < 241) ∧ (mP 181).1 = 0 ∧ 12 < 14 ∧ mO 181 = 12 ∧ (mP 181).2.1 = ([] : List AV).length ∧ catS (.inr (.inr a0) :: []) ≤ mL 181 := ⟨by decide, by decide +kernel, by decide, by decide +kernel, (show (mP 181).2.1 = 0 by decide +kernel), (show 1 ≤ mL 181 by decide +kernel)⟩
theorem cq182 (a0 : Nat) (x1 : Int) (x2 : Int) : (3 ≤ 182 ∧ 182 < 241) ∧ (mP 182).1 = 0 ∧ 12 < 14 ∧ mO 182 = 12 ∧ (mP 182).2.1 = ([.inl x1, .inl x2] : List AV).length ∧ catS (.inr (.inr a0) :: [.inl x1, .inl x2]) ≤ mL 182 := ⟨by decide, by decide +kernel, by decide, by decide +kernel, (show (mP 182).2.1 = 2 by decide +kernel), (show 3 ≤ mL 182 by decide +kernel)⟩
theorem cq183 (x0 : Int) (x1 : Int) (x2 : Int) : ((0 : Nat) = 0 ∨ (0 : Nat) = 1) ∧ (3 ≤ 183 ∧ 183 < 241) ∧ (mP 183).1 = 1 ∧ (mP 183).2.1 = ([.inl x0, .inl x1, .inl x2] : List AV).length ∧ catS [.inl x0, .inl x1, .inl x2] ≤ mL 183 := ⟨by decide, by decide, by decide +kernel, (show (mP 183).2.1 = 3 by decide +kernel), (show 3 ≤ mL 183 by decide +kernel)⟩
theorem cq184 (a0 : Nat) (x1 : Int) : (3 ≤ 184 ∧ 184 < 241) ∧ (mP 184).1 = 0 ∧ 12 < 14 ∧ mO 184 = 12 ∧ (mP 184).2.1 = ([.inl x1] : List AV).length ∧ catS (.inr (.inr a0) :: [.inl x1]) ≤ mL 184 := ⟨by decide, by decide +kernel, by decide, by decide +kernel, (show (mP 184).2.1 = 1 by decide +kernel), (show 2 ≤ mL 184 by decide +kernel)⟩
theorem cq185 (a0 : Nat) (x1 : Int) : (3 ≤ 185 ∧ 185 < 241) ∧ (mP 185).1 = 0 ∧ 12 < 14 ∧ mO 185 = 12 ∧ (mP 185).2.1 = ([.inl x1] : List AV).length ∧ catS (.inr (.inr a0) :: [.inl x1]) ≤ mL 185 := ⟨by decide, by decide +kernel, by decide, by decide +kernel, (show (mP 185).2.1 = 1 by decide +kernel), (show 2 ≤ mL 185 by decide +kernel)⟩
theorem cq186 (a0 : Nat) (x1 : Int) : (3 ≤ 186 ∧ 186 < 241) ∧ (mP 186).1 = 0 ∧ 12 < 14 ∧ mO 186 = 12 ∧ (mP 186).2.1 = ([.inl x1] : List AV).length ∧ catS (.inr (.inr a0) :: [.inl x1]) ≤ mL 186 := ⟨by decide, by decide +kernel, by decide, by decide +kernel, (show (mP 186).2.1 = 1 by decide +kernel), (show 2 ≤ mL 186 by decide +kernel)⟩
theorem cq187 (a0 : Nat) : (3 ≤ 187 ∧ 187 < 241) ∧ (mP 187).1 = 0 ∧ 12 < 14 ∧ mO 187 = 12 ∧ (mP 187).2.1 = ([] : List AV).length ∧ catS (.inr (.inr a0) :: []) ≤ mL 187 := ⟨by decide, by decide +kernel, by decide, by decide +kernel, (show (mP 187).2.1 = 0 by decide +kernel), (show 1 ≤ mL 187 by decide +kernel)⟩
theorem cq188 (a0 : Nat) : (3 ≤ 188 ∧ 188 < 241) ∧ (mP 188).1 = 0 ∧ 12 < 14 ∧ mO 188 = 12 ∧ (mP 188).2.1 = ([] : List AV).length ∧ catS (.inr (.inr a0) :: []) ≤ mL 188 := ⟨by decide, by decide +kernel, by decide, by decide +kernel, (show (mP 188).2.1 = 0 by decide +kernel), (show 1 ≤ mL 188 by decide +kernel)⟩
theorem cq189 (a0 : Nat) : (3 ≤ 189 ∧ 189 < 241) ∧ (mP 189).1 = 0 ∧ 12 < 14 ∧ mO 189 = 12 ∧ (mP 189).2.1 = ([] : List AV).length ∧ catS (.inr (.inr a0) :: []) ≤ mL 189 := ⟨by decide, by decide +kernel, by decide, by decide +kernel, (show (mP 189).2.1 = 0 by decide +kernel), (show 1 ≤ mL 189 by decide +kernel)⟩
theorem cq190 (a0 : Nat) : (3 ≤ 190 ∧ 190 < 241) ∧ (mP 190).1 = 0 ∧ 12 < 14 ∧ mO 190 = 12 ∧ (mP 190).2.1 = ([] : List AV).length ∧ catS (.inr (.inr a0) :: []) ≤ mL 190 := ⟨by decide, by decide +kernel, by decide, by decide +kernel, (show (mP 190).2.1 = 0 by decide +kernel), (show 1 ≤ mL 190 by decide +kernel)⟩
theorem cq191 (x0 : Int) (x1 : Int) : ((0 : Nat) = 0 ∨ (0 : Nat) = 1) ∧ (3 ≤ 191 ∧ 191 < 241) ∧ (mP 191).1 = 1 ∧ (mP 191).2.1 = ([.inl x0, .inl x1] : List AV).length ∧ catS [.inl x0, .inl x1] ≤ mL 191 := ⟨by decide, by decide, by decide +kernel, (show (mP 191).2.1 = 2 by decide +kernel), (show 2 ≤ mL 191 by decide +kernel)⟩
theorem cq192 (x0 : Int) (x1 : Int) (x2 : Int) : ((0 : Nat) = 0 ∨ (0 : Nat) = 1) ∧ (3 ≤ 192 ∧ 192 < 241) ∧ (mP 192).1 = 1 ∧ (mP 192).2.1 = ([.inl x0, .inl x1, .inl x2] : List AV).length ∧ catS [.inl x0, .inl x1, .inl x2] ≤ mL 192 := ⟨by decide, by decide, by decide +kernel, (show (mP 192).2.1 = 3 by decide +kernel), (show 3 ≤ mL 192 by decide +kernel)⟩
theorem cq193 (x0 : Int) (x1 : Int) : ((0 : Nat) = 0 ∨ (0 : Nat) = 1) ∧ (3 ≤ 193 ∧ 193 < 241) ∧ (mP 193).1 = 1 ∧ (mP 193).2.1 = ([.inl x0, .inl x1] : List AV).length ∧ catS [.inl x0, .inl x1] ≤ mL 193 := ⟨by decide, by decide, by decide +kernel, (show (mP 193).2.1 = 2 by decide +kernel), (show 2 ≤ mL 193 by decide +kernel)⟩
theorem cq194 (a0 : Nat) (x1 : Int) (x2 : Int) : (3 ≤ 194 ∧ 194 < 241) ∧ (mP 194).1 = 0 ∧ 12 < 14 ∧ mO 194 = 12 ∧ (mP 194).2.1 = ([.inl x1, .inl x2] : List AV).length ∧ catS (.inr (.inr a0) :: [.inl x1, .inl x2]) ≤ mL 194 := ⟨by decide, by decide +kernel, by decide, by decide +kernel, (show (mP 194).2.1 = 2 by decide +kernel), (show 3 ≤ mL 194 by decide +kernel)⟩
theorem cq195 (a0 : Nat) (x1 : Int) (x2 : Int) : (3 ≤ 195 ∧ 195 < 241) ∧ (mP 195).1 = 0 ∧ 12 < 14 ∧ mO 195 = 12 ∧ (mP 195).2.1 = ([.inl x1, .inl x2] : List AV).length ∧ catS (.inr (.inr a0) :: [.inl x1, .inl x2]) ≤ mL 195 := ⟨by decide, by decide +kernel, by decide, by decide +kernel, (show (mP 195).2.1 = 2 by decide +kernel), (show 3 ≤ mL 195 by decide +kernel)⟩
theorem cq196 (a0 : Nat) (x1 : Int) : (3 ≤ 196 ∧ 196 < 241) ∧ (mP 196).1 = 0 ∧ 12 < 14 ∧ mO 196 = 12 ∧ (mP 196).2.1 = ([.inl x1] : List AV).length ∧ catS (.inr (.inr a0) :: [.inl x1]) ≤ mL 196 := ⟨by decide, by decide +kernel, by decide, by decide +kernel, (show (mP 196).2.1 = 1 by decide +kernel), (show 2 ≤ mL 196 by decide +kernel)⟩
theorem cq197 (a0 : Nat) (x1 : Int) (x2 : Int) (x3 : Int) (x4 : Int) (x5 : Int) (x6 : Int) : (3 ≤ 197 ∧ 197 < 241) ∧ (mP 197).1 = 0 ∧ 12 < 14 ∧ mO 197 = 12 ∧ (mP 197).2.1 = ([.inl x1, .inl x2, .inl x3, .inl x4, .inl x5, .inl x6] : List AV).length ∧ catS (.inr (.inr a0) :: [.inl x1, .inl x2, .inl x3, .inl x4, .inl x5, .inl x6]) ≤ mL 197 := ⟨by decide, by decide +kernel, by decide, by decide +kernel, (show (mP 197).2.1 = 6 by decide +kernel), (show 7 ≤ mL 197 by decide +kernel)⟩
theorem cq198 (a0 : Nat) (x1 : Int) (x2 : Int) (x3 : Int) : (3 ≤ 198 ∧ 198 < 241) ∧ (mP 198).1 = 0 ∧ 12 < 14 ∧ mO 198 = 12 ∧ (mP 198).2.1 = ([.inl x1, .inl x2, .inl x3] : List AV).length ∧ catS (.inr (.inr a0) :: [.inl x1, .inl x2, .inl x3]) ≤ mL 198 := ⟨by decide, by decide +kernel, by decide, by decide +kernel, (show (mP 198).2.1 = 3 by decide +kernel), (show 4 ≤ mL 198 by decide +kernel)⟩
theorem cq199 (a0 : Nat) (x1 : Int) (x2 : Int) : (3 ≤ 199 ∧ 199 < 241) ∧ (mP 199).1 = 0 ∧ 12 < 14 ∧ mO 199 = 12 ∧ (mP 199).2.1 = ([.inl x1, .inl x2] : List AV).length ∧ catS (.inr (.inr a0) :: [.inl x1, .inl x2]) ≤ mL 199 := ⟨by decide, by decide +kernel, by decide, by decide +kernel, (show (mP 199).2.1 = 2 by decide +kernel), (show 3 ≤ mL 199 by decide +kernel)⟩
theorem cq200 (a0 : Nat) (x1 : Int) : (3 ≤ 200 ∧ 200 < 241) ∧ (mP 200).1 = 0 ∧ 12 < 14 ∧ mO 200 = 12 ∧ (mP 200).2.1 = ([.inl x1] : List AV).length ∧ catS (.inr (.inr a0) :: [.inl x1]) ≤ mL 200 := ⟨by decide, by decide +kernel, by decide, by decide +kernel, (show (mP 200).2.1 = 1 by decide +kernel), (show 2 ≤ mL 200 by decide +kernel)⟩
theorem cq201 (a0 : Nat) (x1 : Int) : (3 ≤ 201 ∧ 201 < 241) ∧ (mP 201).1 = 0 ∧ 12 < 14 ∧ mO 201 = 12 ∧ (mP 201).2.1 = ([.inl x1] : List AV).length ∧ catS (.inr (.inr a0) :: [.inl x1]) ≤ mL 201 := ⟨by decide, by decide +kernel, by decide, by decide +kernel, (show (mP 201).2.1 = 1 by decide +kernel), (show 2 ≤ mL 201 by decide +kernel)⟩
theorem cq202 (a0 : Nat) : (3 ≤ 202 ∧ 202 < 241) ∧ (mP 202).1 = 0 ∧ 12 < 14 ∧ mO 202 = 12 ∧ (mP 202).2.1 = ([] : List AV).length ∧ catS (.inr (.inr a0) :: []) ≤ mL 202 := ⟨by decide, by decide +kernel, by decide, by decide +kernel, (show (mP 202).2.1 = 0 by decide +kernel), (show 1 ≤ mL 202 by decide +kernel)⟩
theorem cq203 (a0 : Nat) (x1 : Int) (x2 : Int) : (3 ≤ 203 ∧ 203 < 241) ∧ (mP 203).1 = 0 ∧ 12 < 14 ∧ mO 203 = 12 ∧ (mP 203).2.1 = ([.inl x1, .inl x2] : List AV).length ∧ catS (.inr (.inr a0) :: [.inl x1, .inl x2]) ≤ mL 203 := ⟨by decide, by decide +kernel, by decide, by decide +kernel, (show (mP 203).2.1 = 2 by decide +kernel), (show 3 ≤ mL 203 by decide +kernel)⟩
theorem cq204 (a0 : Nat) (x1 : Int) (x2 : Int) (x3 : Int) : (3 ≤ 204 ∧ 204 < 241) ∧ (mP 204).1 = 0 ∧ 12 < 14 ∧ mO 204 = 12 ∧ (mP 204).2.1 = ([.inl x1, .inl x2, .inl x3] : List AV).length ∧ catS (.inr (.inr a0) :: [.inl x1, .inl x2, .inl x3]) ≤ mL 204 := ⟨by decide, by decide +kernel, by decide, by decide +kernel, (show (mP 204).2.1 = 3 by decide +kernel), (show 4 ≤ mL 204 by decide +kernel)⟩
theorem cq205 (a0 : Nat) : (3 ≤ 205 ∧ 205 < 241) ∧ (mP 205).1 = 0 ∧ 12 < 14 ∧ mO 205 = 12 ∧ (mP 205).2.1 = ([] : List AV).length ∧ catS (.inr (.inr a0) :: []) ≤ mL 205 := ⟨by decide, by decide +kernel, by decide, by decide +kernel, (show (mP 205).2.1 = 0 by decide +kernel), (show 1 ≤ mL 205 by decide +kernel)⟩
theorem cq206 (a0 : Nat) (x1 : Int) (x2 : Int) : (3 ≤ 206 ∧ 206 < 241) ∧ (mP 206).1 = 0 ∧ 12 < 14 ∧ mO 206 = 12 ∧ (mP 206).2.1 = ([.inl x1, .inl x2] : List AV).length ∧ catS (.inr (.inr a0) :: [.inl x1, .inl x2]) ≤ mL 206 := ⟨by decide, by decide +kernel, by decide, by decide +kernel, (show (mP 206).2.1 = 2 by decide +kernel), (show 3 ≤ mL 206 by decide +kernel)⟩
theorem cq207 (a0 : Nat) (x1 : Int) : (3 ≤ 207 ∧ 207 < 241) ∧ (mP 207).1 = 0 ∧ 12 < 14 ∧ mO 207 = 12 ∧ (mP 207).2.1 = ([.inl x1] : List AV).length ∧ catS (.inr (.inr a0) :: [.inl x1]) ≤ mL 207 := ⟨by decide, by decide +kernel, by decide, by decide +kernel, (show (mP 207).2.1 = 1 by decide +kernel), (show 2 ≤ mL 207 by decide +kernel)⟩
theorem cq208 (a0 : Nat) (x1 : Int) (x2 : Int) (x3 : Int) : (3 ≤ 208 ∧ 208 < 241) ∧ (mP 208).1 = 0 ∧ 12 < 14 ∧ mO 208 = 12 ∧ (mP 208).2.1 = ([.inl x1, .inl x2, .inl x3] : List AV).length ∧ catS (.inr (.inr a0) :: [.inl x1, .inl x2, .inl x3]) ≤ mL 208 := ⟨by decide, by decide +kernel, by decide, by decide +kernel, (show (mP 208).2.1 = 3 by decide +kernel), (show 4 ≤ mL 208 by decide +kernel)⟩
theorem cq209 (a0 : Nat) (x1 : Int) (x2 : Int) : (3 ≤ 209 ∧ 209 < 241) ∧ (mP 209).1 = 0 ∧ 12 < 14 ∧ mO 209 = 12 ∧ (mP 209).2.1 = ([.inl x1, .inl x2] : List AV).length ∧ catS (.inr (.inr a0) :: [.inl x1, .inl x2]) ≤ mL 209 := ⟨by decide, by decide +kernel, by decide, by decide +kernel, (show (mP 209).2.1 = 2 by decide +kernel), (show 3 ≤ mL 209 by decide +kernel)⟩
theorem cq210 (a0 : Nat) (x1 : Int) (x2 : Int) : (3 ≤ 210 ∧ 210 < 241) ∧ (mP 210).1 = 0 ∧ 12 < 14 ∧ mO 210 = 12 ∧ (mP 210).2.1 = ([.inl x1, .inl x2] : List AV).length ∧ catS (.inr (.inr a0) :: [.inl x1, .inl x2]) ≤ mL 210 := ⟨by decide, by decide +kernel, by decide, by decide +kernel, (show (mP 210).2.1 = 2 by decide +kernel), (show 3 ≤ mL 210 by decide +kernel)⟩
theorem cq211 (x0 : Int) : ((0 : Nat) = 0 ∨ (0 : Nat) = 1) ∧ (3 ≤ 211 ∧ 211 < 241) ∧ (mP 211).1 = 1 ∧ (mP 211).2.1 = ([.inl x0] : List AV).length ∧ catS [.inl x0] ≤ mL 211 := ⟨by decide, by decide, by decide +kernel, (show (mP 211).2.1 = 1 by decide +kernel), (show 1 ≤ mL 211 by decide +kernel)⟩
theorem cq212 (a0 : Nat) (x1 : Int) : (3 ≤ 212 ∧ 212 < 241) ∧ (mP 212).1 = 0 ∧ 12 < 14 ∧ mO 212 = 12 ∧ (mP 212).2.1 = ([.inl x1] : List AV).length ∧ catS (.inr (.inr a0) :: [.inl x1]) ≤ mL 212 := ⟨by decide, by decide +kernel, by decide, by decide +kernel, (show (mP 212).2.1 = 1 by decide +kernel), (show 2 ≤ mL 212 by decide +kernel)⟩
theorem cq213 (a0 : Nat) : (3 ≤ 213 ∧ 213 < 241) ∧ (mP 213).1 = 0 ∧ 12 < 14 ∧ mO 213 = 12 ∧ (mP 213).2.1 = ([] : List AV).length ∧ catS (.inr (.inr a0) :: []) ≤ mL 213 := ⟨by decide, by decide +kernel, by decide, by decide +kernel, (show (mP 213).2.1 = 0 by decide +kernel), (show 1 ≤ mL 213 by decide +kernel)⟩
theorem cq214 (a0 : Nat) : (3 ≤ 214 ∧ 214 < 241) ∧ (mP 214).1 = 0 ∧ 12 < 14 ∧ mO 214 = 12 ∧ (mP 214).2.1 = ([] : List AV).length ∧ catS (.inr (.inr a0) :: []) ≤ mL 214 := ⟨by decide, by decide +kernel, by decide, by decide +kernel, (show (mP 214).2.1 = 0 by decide +kernel), (show 1 ≤ mL 214 by decide +kernel)⟩
theorem cq215 (a0 : Nat) (x1 : Int) (x2 : Int) (x3 : Int) : (3 ≤ 215 ∧ 215 < 241) ∧ (mP 215).1 = 0 ∧ 12 < 14 ∧ mO 215 = 12 ∧ (mP 215).2.1 = ([.inl x1, .inl x2, .inl x3] : List AV).length ∧ catS (.inr (.inr a0) :: [.inl x1, .inl x2, .inl x3]) ≤ mL 215 := ⟨by decide, by decide +kernel, by decide, by decide +kernel, (show (mP 215).2.1 = 3 by decide +kernel), (show 4 ≤ mL 215 by decide +kernel)⟩
theorem cq216 (a0 : Nat) (x1 : Int) : (3 ≤ 216 ∧ 216 < 241) ∧ (mP 216).1 = 0 ∧ 12 < 14 ∧ mO 216 = 12 ∧ (mP 216).2.1 = ([.inl x1] : List AV).length ∧ catS (.inr (.inr a0) :: [.inl x1]) ≤ mL 216 := ⟨by decide, by decide +kernel, by decide, by decide +kernel, (show (mP 216).2.1 = 1 by decide +kernel), (show 2 ≤ mL 216 by decide +kernel)⟩
theorem cq217 (a0 : Nat) : (3 ≤ 217 ∧ 217 < 241) ∧ (mP 217).1 = 0 ∧ 12 < 14 ∧ mO 217 = 12 ∧ (mP 217).2.1 = ([] : List AV).length ∧ catS (.inr (.inr a0) :: []) ≤ mL 217 := ⟨by decide, by decide +kernel, by decide, by decide +kernel, (show (mP 217).2.1 = 0 by decide +kernel), (show 1 ≤ mL 217 by decide +kernel)⟩
theorem cq218 (a0 : Nat) (x1 : Int) (x2 : Int) : (3 ≤ 218 ∧ 218 < 241) ∧ (mP 218).1 = 0 ∧ 12 < 14 ∧ mO 218 = 12 ∧ (mP 218).2.1 = ([.inl x1, .inl x2] : List AV).length ∧ catS (.inr (.inr a0) :: [.inl x1, .inl x2]) ≤ mL 218 := ⟨by decide, by decide +kernel, by decide, by decide +kernel, (show (mP 218).2.1 = 2 by decide +kernel), (show 3 ≤ mL 218 by decide +kernel)⟩
theorem cq219 (a0 : Nat) (x1 : Int) (x2 : Int) (x3 : Int) : (3 ≤ 219 ∧ 219 < 241) ∧ (mP 219).1 = 0 ∧ 12 < 14 ∧ mO 219 = 12 ∧ (mP 219).2.1 = ([.inl x1, .inl x2, .inl x3] : List AV).length ∧ catS (.inr (.inr a0) :: [.inl x1, .inl x2, .inl x3]) ≤ mL 219 := ⟨by decide, by decide +kernel, by decide, by decide +kernel, (show (mP 219).2.1 = 3 by decide +kernel), (show 4 ≤ mL 219 by decide +kernel)⟩
theorem cq220 (a0 : Nat) (x1 : Int) (x2 : Int) : (3 ≤ 220 ∧ 220 < 241) ∧ (mP 220).1 = 0 ∧ 12 < 14 ∧ mO 220 = 12 ∧ (mP 220).2.1 = ([.inl x1, .inl x2] : List AV).length ∧ catS (.inr (.inr a0) :: [.inl x1, .inl x2]) ≤ mL 220 := ⟨by decide, by decide +kernel, by decide, by decide +kernel, (show (mP 220).2.1 = 2 by decide +kernel), (show 3 ≤ mL 220 by decide +kernel)⟩
theorem cq221 (a0 : Nat) (x1 : Int) (x2 : Int) : (3 ≤ 221 ∧ 221 < 241) ∧ (mP 221).1 = 0 ∧ 12 < 14 ∧ mO 221 = 12 ∧ (mP 221).2.1 = ([.inl x1, .inl x2] : List AV).length ∧ catS (.inr (.inr a0) :: [.inl x1, .inl x2]) ≤ mL 221 := ⟨by decide, by decide +kernel, by decide, by decide +kernel, (show (mP 221).2.1 = 2 by decide +kernel), (show 3 ≤ mL 221 by decide +kernel)⟩
theorem cq222 (a0 : Nat) (x1 : Int) (x2 : Int) (x3 : Int) : (3 ≤ 222 ∧ 222 < 241) ∧ (mP 222).1 = 0 ∧ 12 < 14 ∧ mO 222 = 12 ∧ (mP 222).2.1 = ([.inl x1, .inl x2, .inl x3] : List AV).length ∧ catS (.inr (.inr a0) :: [.inl x1, .inl x2, .inl x3]) ≤ mL 222 := ⟨by decide, by decide +kernel, by decide, by decide +kernel, (show (mP 222).2.1 = 3 by decide +kernel), (show 4 ≤ mL 222 by decide +kernel)⟩
theorem cq223 (a0 : Nat) (x1 : Int) : (3 ≤ 223 ∧ 223 < 241) ∧ (mP 223).1 = 0 ∧ 12 < 14 ∧ mO 223 = 12 ∧ (mP 223).2.1 = ([.inl x1] : List AV).length ∧ catS (.inr (.inr a0) :: [.inl x1]) ≤ mL 223 := ⟨by decide, by decide +kernel, by decide, by decide +kernel, (show (mP 223).2.1 = 1 by decide +kernel), (show 2 ≤ mL 223 by decide +kernel)⟩
theorem cq224 (a0 : Nat) (x1 : Int) : (3 ≤ 224 ∧ 224 < 241) ∧ (mP 224).1 = 0 ∧ 12 < 14 ∧ mO 224 = 12 ∧ (mP 224).2.1 = ([.inl x1] : List AV).length ∧ catS (.inr (.inr a0) :: [.inl x1]) ≤ mL 224 := ⟨by decide, by decide +kernel, by decide, by decide +kernel, (show (mP 224).2.1 = 1 by decide +kernel), (show 2 ≤ mL 224 by decide +kernel)⟩
theorem cq225 (a0 : Nat) (x1 : Int) (x2 : Int) : (3 ≤ 225 ∧ 225 < 241) ∧ (mP 225).1 = 0 ∧ 12 < 14 ∧ mO 225 = 12 ∧ (mP 225).2.1 = ([.inl x1, .inl x2] : List AV).length ∧ catS (.inr (.inr a0) :: [.inl x1, .inl x2]) ≤ mL 225 := ⟨by decide, by decide +kernel, by decide, by decide +kernel, (show (mP 225).2.1 = 2 by decide +kernel), (show 3 ≤ mL 225 by decide +kernel)⟩
theorem cq226 (a0 : Nat) (x1 : Int) : (3 ≤ 226 ∧ 226 < 241) ∧ (mP 226).1 = 0 ∧ 12 < 14 ∧ mO 226 = 12 ∧ (mP 226).2.1 = ([.inl x1] : List AV).length ∧ catS (.inr (.inr a0) :: [.inl x1]) ≤ mL 226 := ⟨by decide, by decide +kernel, by decide, by decide +kernel, (show (mP 226).2.1 = 1 by decide +kernel), (show 2 ≤ mL 226 by decide +kernel)⟩
theorem cq227 (a0 : Nat) (x1 : Int) (x2 : Int) : (3 ≤ 227 ∧ 227 < 241) ∧ (mP 227).1 = 0 ∧ 12 < 14 ∧ mO 227 = 12 ∧ (mP 227).2.1 = ([.inl x1, .inl x2] : List AV).length ∧ catS (.inr (.inr a0) :: [.inl x1, .inl x2]) ≤ mL 227 := ⟨by decide, by decide +kernel, by decide, by decide +kernel, (show (mP 227).2.1 = 2 by decide +kernel), (show 3 ≤ mL 227 by decide +kernel)⟩
theorem cq228 (a0 : Nat) (x1 : Int) (x2 : Int) (x3 : Int) : (3 ≤ 228 ∧ 228 < 241) ∧ (mP 228).1 = 0 ∧ 12 < 14 ∧ mO 228 = 12 ∧ (mP 228).2.1 = ([.inl x1, .inl x2, .inl x3] : List AV).length ∧ catS (.inr (.inr a0) :: [.inl x1, .inl x2, .inl x3]) ≤ mL 228 := ⟨by decide, by decide +kernel, by decide, by decide +kernel, (show (mP 228).2.1 = 3 by decide +kernel), (show 4 ≤ mL 228 by decide +kernel)⟩
theorem cq229 (a0 : Nat) (x1 : Int) : (3 ≤ 229 ∧ 229 < 241) ∧ (mP 229).1 = 0 ∧ 12 < 14 ∧ mO 229 = 12 ∧ (mP 229).2.1 = ([.inl x1] : List AV).length ∧ catS (.inr (.inr a0) :: [.inl x1]) ≤ mL 229 := ⟨by decide, by decide +kernel, by decide, by decide +kernel, (show (mP 229).2.1 = 1 by decide +kernel), (show 2 ≤ mL 229 by decide +kernel)⟩
theorem cq230 (a0 : Nat) (x1 : Int) (x2 : Int) : (3 ≤ 230 ∧ 230 < 241) ∧ (mP 230).1 = 0 ∧ 12 < 14 ∧ mO 230 = 12 ∧ (mP 230).2.1 = ([.inl x1, .inl x2] : List AV).length ∧ catS (.inr (.inr a0) :: [.inl x1, .inl x2]) ≤ mL 230 := ⟨by decide, by decide +kernel, by decide, by decide +kernel, (show (mP 230).2.1 = 2 by decide +kernel), (show 3 ≤ mL 230 by decide +kernel)⟩
theorem cq231 (a0 : Nat) (x1 : Int) (x2 : Int) : (3 ≤ 231 ∧ 231 < 241) ∧ (mP 231).1 = 0 ∧ 12 < 14 ∧ mO 231 = 12 ∧ (mP 231).2.1 = ([.inl x1, .inl x2] : List AV).length ∧ catS (.inr (.inr a0) :: [.inl x1, .inl x2]) ≤ mL 231 := ⟨by decide, by decide +kernel, by decide, by decide +kernel, (show (mP 231).2.1 = 2 by decide +kernel), (show 3 ≤ mL 231 by decide +kernel)⟩
theorem cq232 (a0 : Nat) (x1 : Int) (x2 : Int) : (3 ≤ 232 ∧ 232 < 241) ∧ (mP 232).1 = 0 ∧ 12 < 14 ∧ mO 232 = 12 ∧ (mP 232).2.1 = ([.inl x1, .inl x2] : List AV).length ∧ catS (.inr (.inr a0) :: [.inl x1, .inl x2]) ≤ mL 232 := ⟨by decide, by decide +kernel, by decide, by decide +kernel, (show (mP 232).2.1 = 2 by decide +kernel), (show 3 ≤ mL 232 by decide +kernel)⟩
theorem cq233 (a0 : Nat) : (3 ≤ 233 ∧ 233 < 241) ∧ (mP 233).1 = 0 ∧ 12 < 14 ∧ mO 233 = 12 ∧ (mP 233).2.1 = ([] : List AV).length ∧ catS (.inr (.inr a0) :: []) ≤ mL 233 := ⟨by decide, by decide +kernel, by decide, by decide +kernel, (show (mP 233).2.1 = 0 by decide +kernel), (show 1 ≤ mL 233 by decide +kernel)⟩
theorem cq234 (a0 : Nat) (x1 : Int) (x2 : Int) : (3 ≤ 234 ∧ 234 < 241) ∧ (mP 234).1 = 0 ∧ 12 < 14 ∧ mO 234 = 12 ∧ (mP 234).2.1 = ([.inl x1, .inl x2] : List AV).length ∧ catS (.inr (.inr a0) :: [.inl x1, .inl x2]) ≤ mL 234 := ⟨by decide, by decide +kernel, by decide, by decide +kernel, (show (mP 234).2.1 = 2 by decide +kernel), (show 3 ≤ mL 234 by decide +kernel)⟩
theorem cq235 (a0 : Nat) : (3 ≤ 235 ∧ 235 < 241) ∧ (mP 235).1 = 0 ∧ 12 < 14 ∧ mO 235 = 12 ∧ (mP 235).2.1 = ([] : List AV).length ∧ catS (.inr (.inr a0) :: []) ≤ mL 235 := ⟨by decide, by decide +kernel, by decide, by decide +kernel, (show (mP 235).2.1 = 0 by decide +kernel), (show 1 ≤ mL 235 by decide +kernel)⟩
theorem cq236 (a0 : Nat) (x1 : Int) (x2 : Int) (x3 : Int) : (3 ≤ 236 ∧ 236 < 241) ∧ (mP 236).1 = 0 ∧ 12 < 14 ∧ mO 236 = 12 ∧ (mP 236).2.1 = ([.inl x1, .inl x2, .inl x3] : List AV).length ∧ catS (.inr (.inr a0) :: [.inl x1, .inl x2, .inl x3]) ≤ mL 236 := ⟨by decide, by decide +kernel, by decide, by decide +kernel, (show (mP 236).2.1 = 3 by decide +kernel), (show 4 ≤ mL 236 by decide +kernel)⟩
theorem cq237 (a0 : Nat) (x1 : Int) (x2 : Int) (x3 : Int) : (3 ≤ 237 ∧ 237 < 241) ∧ (mP 237).1 = 0 ∧ 12 < 14 ∧ mO 237 = 12 ∧ (mP 237).2.1 = ([.inl x1, .inl x2, .inl x3] : List AV).length ∧ catS (.inr (.inr a0) :: [.inl x1, .inl x2, .inl x3]) ≤ mL 237 := ⟨by decide, by decide +kernel, by decide, by decide +kernel, (show (mP 237).2.1 = 3 by decide +kernel), (show 4 ≤ mL 237 by decide +kernel)⟩
theorem cq238 (a0 : Nat) (x1 : Int) : (3 ≤ 238 ∧ 238 < 241) ∧ (mP 238).1 = 0 ∧ 12 < 14 ∧ mO 238 = 12 ∧ (mP 238).2.1 = ([.inl x1] : List AV).length ∧ catS (.inr (.inr a0) :: [.inl x1]) ≤ mL 238 := ⟨by decide, by decide +kernel, by decide, by decide +kernel, (show (mP 238).2.1 = 1 by decide +kernel), (show 2 ≤ mL 238 by decide +kernel)⟩
theorem cq239 (a0 : Nat) (x1 : Int) : (3 ≤ 239 ∧ 239 < 241) ∧ (mP 239).1 = 0 ∧ 12 < 14 ∧ mO 239 = 12 ∧ (mP 239).2.1 = ([.inl x1] : List AV).length ∧ catS (.inr (.inr a0) :: [.inl x1]) ≤ mL 239 := ⟨by decide, by decide +kernel, by decide, by decide +kernel, (show (mP 239).2.1 = 1 by decide +kernel), (show 2 ≤ mL 239 by decide +kernel)⟩
theorem cq240 (a0 : Nat) (x1 : Int) : (3 ≤ 240 ∧ 240 < 241) ∧ (mP 240).1 = 0 ∧ 12 < 14 ∧ mO 240 = 12 ∧ (mP 240).2.1 = ([.inl x1] : List AV).length ∧ catS (.inr (.inr a0) :: [.inl x1]) ≤ mL 240 := ⟨by decide, by decide +kernel, by decide, by decide +kernel, (show (mP 240).2.1 = 1 by decide +kernel), (show 2 ≤ mL 240 by decide +kernel)⟩
theorem lw4_2 : Cond.fieldLink (cN (mO 4)) 1053 "jdk/internal/util/Preconditions" "SIOOBE_FORMATTER" "Ljava/util/function/BiFunction;" ∈ GW := gw_at 274 (by decide +kernel) rfl
theorem lw5_0 : Cond.fieldLink (cN (mO 5)) 38 "java/lang/String" "COMPACT_STRINGS" "Z" ∈ GW := gw_at 258 (by decide +kernel) rfl
theorem lw8_0 : Cond.fieldLink (cN (mO 8)) 38 "java/lang/String" "COMPACT_STRINGS" "Z" ∈ GW := gw_at 258 (by decide +kernel) rfl
theorem lw23_3 : Cond.constant (cN (mO 23)) 23 (i32 1103515245) ∈ GW := gw_at 801 (by decide +kernel) rfl
theorem lw77_1 : Cond.constantLong (cN (mO 77)) 49 (i64 27) ∈ GW := gw_at 301 (by decide +kernel) rfl
theorem lw147_299 : Cond.constant (cN (mO 147)) 125 (i32 85800) ∈ GW := gw_at 1122 (by decide +kernel) rfl
theorem lw154_8 : Cond.constantLong (cN (mO 154)) 170 (i64 27) ∈ GW := gw_at 1133 (by decide +kernel) rfl
theorem lw191_3 : Cond.constant (cN (mO 191)) 333 (i32 1103515245) ∈ GW := gw_at 1506 (by decide +kernel) rfl
theorem lw214_12 : Cond.constant (cN (mO 214)) 399 (i32 82940) ∈ GW := gw_at 1585 (by decide +kernel) rfl
theorem lw220_97 : Cond.constant (cN (mO 220)) 412 (i32 1000000) ∈ GW := gw_at 1618 (by decide +kernel) rfl
theorem lw220_126 : Cond.constant (cN (mO 220)) 412 (i32 1000000) ∈ GW := gw_at 1618 (by decide +kernel) rfl
theorem mr8 : mR 8 = (some .boolean) := by decide +kernel
theorem mr14 : mR 14 = (some .int) := by decide +kernel
theorem mr4 : mR 4 = none := by decide +kernel
theorem mr11 : mR 11 = (some .char) := by decide +kernel
theorem mr3 : mR 3 = (some .char) := by decide +kernel
theorem mr5 : mR 5 = (some .byte) := by decide +kernel
theorem mr9 : mR 9 = (some .int) := by decide +kernel
theorem mr10 : mR 10 = (some .boolean) := by decide +kernel
theorem mr13 : mR 13 = (some .int) := by decide +kernel
theorem mr12 : mR 12 = (some .int) := by decide +kernel
theorem mr7 : mR 7 = (some .int) := by decide +kernel
theorem mr6 : mR 6 = (some .int) := by decide +kernel
theorem mr15 : mR 15 = none := by decide +kernel
theorem mr16 : mR 16 = none := by decide +kernel
theorem mr17 : mR 17 = none := by decide +kernel
theorem mr18 : mR 18 = (some .int) := by decide +kernel
theorem mr19 : mR 19 = (some .int) := by decide +kernel
theorem mr20 : mR 20 = (some .int) := by decide +kernel
theorem mr21 : mR 21 = (some .int) := by decide +kernel
theorem mr22 : mR 22 = none := by decide +kernel
theorem mr23 : mR 23 = (some .int) := by decide +kernel
theorem mr24 : mR 24 = (some .int) := by decide +kernel
theorem mr91 : mR 91 = (some .int) := by decide +kernel
theorem mr146 : mR 146 = (some .int) := by decide +kernel
theorem mr25 : mR 25 = (some .int) := by decide +kernel
theorem mr39 : mR 39 = none := by decide +kernel
theorem mr99 : mR 99 = none := by decide +kernel
theorem mr41 : mR 41 = (some .int) := by decide +kernel
theorem mr42 : mR 42 = (some .int) := by decide +kernel
theorem mr40 : mR 40 = (some .int) := by decide +kernel
theorem mr100 : mR 100 = (some .int) := by decide +kernel
theorem mr26 : mR 26 = none := by decide +kernel
theorem mr27 : mR 27 = (some .int) := by decide +kernel
theorem mr28 : mR 28 = (some .int) := by decide +kernel
theorem mr30 : mR 30 = (some .boolean) := by decide +kernel
theorem mr29 : mR 29 = (some .int) := by decide +kernel
theorem mr31 : mR 31 = (some .int) := by decide +kernel
theorem mr92 : mR 92 = (some .int) := by decide +kernel
theorem mr93 : mR 93 = (some .int) := by decide +kernel
theorem mr94 : mR 94 = none := by decide +kernel
theorem mr98 : mR 98 = (some .int) := by decide +kernel
theorem mr97 : mR 97 = (some .int) := by decide +kernel
theorem mr32 : mR 32 = none := by decide +kernel
theorem mr33 : mR 33 = none := by decide +kernel
theorem mr101 : mR 101 = (some .int) := by decide +kernel
theorem mr34 : mR 34 = none := by decide +kernel
theorem mr35 : mR 35 = (some .int) := by decide +kernel
theorem mr36 : mR 36 = none := by decide +kernel
theorem mr37 : mR 37 = none := by decide +kernel
theorem mr38 : mR 38 = none := by decide +kernel
theorem mr43 : mR 43 = none := by decide +kernel
theorem mr44 : mR 44 = (some .int) := by decide +kernel
theorem mr87 : mR 87 = none := by decide +kernel
theorem mr45 : mR 45 = none := by decide +kernel
theorem mr46 : mR 46 = none := by decide +kernel
theorem mr89 : mR 89 = none := by decide +kernel
theorem mr47 : mR 47 = none := by decide +kernel
theorem mr48 : mR 48 = (some .boolean) := by decide +kernel
theorem mr49 : mR 49 = none := by decide +kernel
theorem mr51 : mR 51 = (some .int) := by decide +kernel
theorem mr52 : mR 52 = (some .int) := by decide +kernel
theorem mr53 : mR 53 = (some .int) := by decide +kernel
theorem mr50 : mR 50 = (some .int) := by decide +kernel
theorem mr77 : mR 77 = (some .long) := by decide +kernel
theorem mr76 : mR 76 = none := by decide +kernel
theorem mr96 : mR 96 = none := by decide +kernel
theorem mr95 : mR 95 = none := by decide +kernel
theorem mr54 : mR 54 = none := by decide +kernel
theorem mr57 : mR 57 = (some .boolean) := by decide +kernel
theorem mr59 : mR 59 = (some .boolean) := by decide +kernel
theorem mr81 : mR 81 = (some .int) := by decide +kernel
theorem mr84 : mR 84 = (some .boolean) := by decide +kernel
theorem mr80 : mR 80 = none := by decide +kernel
theorem mr85 : mR 85 = (some .boolean) := by decide +kernel
theorem mr82 : mR 82 = none := by decide +kernel
theorem mr83 : mR 83 = (some .boolean) := by decide +kernel
theorem mr79 : mR 79 = none := by decide +kernel
theorem mr78 : mR 78 = none := by decide +kernel
theorem mr56 : mR 56 = none := by decide +kernel
theorem mr60 : mR 60 = (some .boolean) := by decide +kernel
theorem mr58 : mR 58 = none := by decide +kernel
theorem mr70 : mR 70 = (some .boolean) := by decide +kernel
theorem mr71 : mR 71 = (some .boolean) := by decide +kernel
theorem mr61 : mR 61 = (some .boolean) := by decide +kernel
theorem mr62 : mR 62 = (some .boolean) := by decide +kernel
theorem mr75 : mR 75 = (some .boolean) := by decide +kernel
theorem mr74 : mR 74 = (some .boolean) := by decide +kernel
theorem mr73 : mR 73 = (some .boolean) := by decide +kernel
theorem mr72 : mR 72 = (some .boolean) := by decide +kernel
theorem mr63 : mR 63 = (some .boolean) := by decide +kernel
theorem mr65 : mR 65 = (some .int) := by decide +kernel
theorem mr64 : mR 64 = (some .boolean) := by decide +kernel
theorem mr66 : mR 66 = (some .boolean) := by decide +kernel
theorem mr67 : mR 67 = (some .boolean) := by decide +kernel
theorem mr68 : mR 68 = (some .boolean) := by decide +kernel
theorem mr69 : mR 69 = (some .boolean) := by decide +kernel
theorem mr55 : mR 55 = (some .int) := by decide +kernel
theorem mr86 : mR 86 = none := by decide +kernel
theorem mr88 : mR 88 = none := by decide +kernel
theorem mr90 : mR 90 = (some .int) := by decide +kernel
theorem mr102 : mR 102 = none := by decide +kernel
theorem mr104 : mR 104 = none := by decide +kernel
theorem mr103 : mR 103 = (some .int) := by decide +kernel
theorem mr105 : mR 105 = (some .int) := by decide +kernel
theorem mr107 : mR 107 = none := by decide +kernel
theorem mr106 : mR 106 = (some .int) := by decide +kernel
theorem mr108 : mR 108 = (some .int) := by decide +kernel
theorem mr109 : mR 109 = (some .boolean) := by decide +kernel
theorem mr110 : mR 110 = (some .boolean) := by decide +kernel
theorem mr111 : mR 111 = (some .boolean) := by decide +kernel
theorem mr112 : mR 112 = (some .boolean) := by decide +kernel
theorem mr113 : mR 113 = (some .int) := by decide +kernel
theorem mr114 : mR 114 = (some .int) := by decide +kernel
theorem mr116 : mR 116 = (some .int) := by decide +kernel
theorem mr115 : mR 115 = (some .int) := by decide +kernel
theorem mr117 : mR 117 = (some .int) := by decide +kernel
theorem mr118 : mR 118 = (some .int) := by decide +kernel
theorem mr119 : mR 119 = (some .int) := by decide +kernel
theorem mr120 : mR 120 = (some .int) := by decide +kernel
theorem mr121 : mR 121 = (some .int) := by decide +kernel
theorem mr122 : mR 122 = (some .boolean) := by decide +kernel
theorem mr123 : mR 123 = (some .int) := by decide +kernel
theorem mr124 : mR 124 = (some .int) := by decide +kernel
theorem mr125 : mR 125 = (some .int) := by decide +kernel
theorem mr126 : mR 126 = (some .int) := by decide +kernel
theorem mr127 : mR 127 = (some .int) := by decide +kernel
theorem mr128 : mR 128 = (some .int) := by decide +kernel
theorem mr129 : mR 129 = (some .int) := by decide +kernel
theorem mr130 : mR 130 = (some .int) := by decide +kernel
theorem mr131 : mR 131 = (some .int) := by decide +kernel
theorem mr132 : mR 132 = (some .int) := by decide +kernel
theorem mr133 : mR 133 = (some .int) := by decide +kernel
theorem mr136 : mR 136 = (some .int) := by decide +kernel
theorem mr135 : mR 135 = (some .int) := by decide +kernel
theorem mr137 : mR 137 = (some .int) := by decide +kernel
theorem mr134 : mR 134 = (some .int) := by decide +kernel
theorem mr138 : mR 138 = (some .int) := by decide +kernel
theorem mr139 : mR 139 = (some .int) := by decide +kernel
theorem mr141 : mR 141 = (some .boolean) := by decide +kernel
theorem mr140 : mR 140 = (some .int) := by decide +kernel
theorem mr142 : mR 142 = (some .boolean) := by decide +kernel
theorem mr143 : mR 143 = (some .boolean) := by decide +kernel
theorem mr145 : mR 145 = (some .int) := by decide +kernel
theorem mr144 : mR 144 = (some .int) := by decide +kernel
theorem mr154 : mR 154 = (some .long) := by decide +kernel
theorem mr155 : mR 155 = (some .long) := by decide +kernel
theorem mr164 : mR 164 = none := by decide +kernel
theorem mr187 : mR 187 = none := by decide +kernel
theorem mr147 : mR 147 = none := by decide +kernel
theorem mr149 : mR 149 = none := by decide +kernel
theorem mr148 : mR 148 = (some .int) := by decide +kernel
theorem mr150 : mR 150 = (some .int) := by decide +kernel
theorem mr151 : mR 151 = (some .int) := by decide +kernel
theorem mr152 : mR 152 = (some .boolean) := by decide +kernel
theorem mr153 : mR 153 = (some .boolean) := by decide +kernel
theorem mr156 : mR 156 = none := by decide +kernel
theorem mr158 : mR 158 = (some .int) := by decide +kernel
theorem mr157 : mR 157 = none := by decide +kernel
theorem mr159 : mR 159 = (some .boolean) := by decide +kernel
theorem mr160 : mR 160 = none := by decide +kernel
theorem mr161 : mR 161 = none := by decide +kernel
theorem mr162 : mR 162 = none := by decide +kernel
theorem mr163 : mR 163 = none := by decide +kernel
theorem mr167 : mR 167 = none := by decide +kernel
theorem mr171 : mR 171 = (some .int) := by decide +kernel
theorem mr172 : mR 172 = (some .int) := by decide +kernel
theorem mr169 : mR 169 = (some .int) := by decide +kernel
theorem mr170 : mR 170 = none := by decide +kernel
theorem mr173 : mR 173 = none := by decide +kernel
theorem mr174 : mR 174 = none := by decide +kernel
theorem mr178 : mR 178 = none := by decide +kernel
theorem mr179 : mR 179 = none := by decide +kernel
theorem mr181 : mR 181 = none := by decide +kernel
theorem mr180 : mR 180 = none := by decide +kernel
theorem mr177 : mR 177 = none := by decide +kernel
theorem mr176 : mR 176 = none := by decide +kernel
theorem mr175 : mR 175 = none := by decide +kernel
theorem mr168 : mR 168 = none := by decide +kernel
theorem mr165 : mR 165 = (some .int) := by decide +kernel
theorem mr166 : mR 166 = (some .int) := by decide +kernel
theorem mr182 : mR 182 = (some .int) := by decide +kernel
theorem mr183 : mR 183 = (some .boolean) := by decide +kernel
theorem mr184 : mR 184 = (some .boolean) := by decide +kernel
theorem mr185 : mR 185 = (some .boolean) := by decide +kernel
theorem mr186 : mR 186 = (some .boolean) := by decide +kernel
theorem mr188 : mR 188 = none := by decide +kernel
theorem mr189 : mR 189 = none := by decide +kernel
theorem mr190 : mR 190 = none := by decide +kernel
theorem mr191 : mR 191 = (some .int) := by decide +kernel
theorem mr192 : mR 192 = (some .int) := by decide +kernel
theorem mr193 : mR 193 = (some .int) := by decide +kernel
theorem mr194 : mR 194 = (some .int) := by decide +kernel
theorem mr195 : mR 195 = (some .int) := by decide +kernel
theorem mr196 : mR 196 = (some .int) := by decide +kernel
theorem mr197 : mR 197 = none := by decide +kernel
theorem mr198 : mR 198 = (some .int) := by decide +kernel
theorem mr199 : mR 199 = (some .int) := by decide +kernel
theorem mr200 : mR 200 = (some .int) := by decide +kernel
theorem mr201 : mR 201 = (some .int) := by decide +kernel
theorem mr202 : mR 202 = (some .int) := by decide +kernel
theorem mr203 : mR 203 = (some .int) := by decide +kernel
theorem mr204 : mR 204 = none := by decide +kernel
theorem mr206 : mR 206 = none := by decide +kernel
theorem mr205 : mR 205 = none := by decide +kernel
theorem mr207 : mR 207 = (some .int) := by decide +kernel
theorem mr208 : mR 208 = (some .int) := by decide +kernel
theorem mr209 : mR 209 = (some .int) := by decide +kernel
theorem mr210 : mR 210 = (some .int) := by decide +kernel
theorem mr211 : mR 211 = (some .int) := by decide +kernel
theorem mr212 : mR 212 = (some .int) := by decide +kernel
theorem mr213 : mR 213 = (some .int) := by decide +kernel
theorem mr214 : mR 214 = none := by decide +kernel
theorem mr215 : mR 215 = (some .int) := by decide +kernel
theorem mr216 : mR 216 = (some .int) := by decide +kernel
theorem mr217 : mR 217 = (some .boolean) := by decide +kernel
theorem mr218 : mR 218 = (some .int) := by decide +kernel
theorem mr219 : mR 219 = (some .int) := by decide +kernel
theorem mr220 : mR 220 = (some .int) := by decide +kernel
theorem mr221 : mR 221 = (some .int) := by decide +kernel
theorem mr222 : mR 222 = (some .int) := by decide +kernel
theorem mr223 : mR 223 = (some .int) := by decide +kernel
theorem mr224 : mR 224 = (some .int) := by decide +kernel
theorem mr225 : mR 225 = (some .int) := by decide +kernel
theorem mr226 : mR 226 = (some .int) := by decide +kernel
theorem mr227 : mR 227 = (some .int) := by decide +kernel
theorem mr228 : mR 228 = (some .int) := by decide +kernel
theorem mr229 : mR 229 = (some .int) := by decide +kernel
theorem mr231 : mR 231 = (some .int) := by decide +kernel
theorem mr230 : mR 230 = (some .int) := by decide +kernel
theorem mr232 : mR 232 = (some .int) := by decide +kernel
theorem mr233 : mR 233 = (some .int) := by decide +kernel
theorem mr234 : mR 234 = (some .int) := by decide +kernel
theorem mr235 : mR 235 = (some .int) := by decide +kernel
theorem mr236 : mR 236 = (some .boolean) := by decide +kernel
theorem mr237 : mR 237 = (some .int) := by decide +kernel
theorem mr238 : mR 238 = (some .boolean) := by decide +kernel
theorem mr239 : mR 239 = (some .boolean) := by decide +kernel
theorem mr240 : mR 240 = (some .int) := by decide +kernel
theorem mr241 : mR 241 = (some .boolean) := by decide +kernel
