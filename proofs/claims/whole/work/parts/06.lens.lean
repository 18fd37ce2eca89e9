def ilen (i : Instr) : Nat := match i with
  | .iload _ => 2
  | .aload _ => 2
  | .lload _ => 2
  | .istore _ => 2
  | .astore _ => 2
  | .lstore _ => 2
  | .bipush _ => 2
  | .ldc _ => 2
  | .newarray _ => 2
  | .sipush _ => 3
  | .iinc _ _ => 3
  | .goto _ => 3
  | .if_icmp _ _ => 3
  | .ifCond _ _ => 3
  | .getfield _ => 3
  | .putfield _ => 3
  | .getstatic _ => 3
  | .invokevirtual _ => 3
  | .invokespecial _ => 3
  | .invokestatic _ => 3
  | .new _ => 3
  | .anewarray _ => 3
  | .ldc_w _ => 3
  | .ldc2_w _ => 3
  | .multianewarray _ _ => 4
  | _ => 1
def isSw (i : Instr) : Bool := match i with
  | .tableswitch _ _ _ _ => true
  | .lookupswitch _ _ => true
  | _ => false
/-- a local that is written lies among the method's -/
def stOK (n : Nat) (i : Instr) : Bool := match i with
  | .istore k => Nat.blt k n
  | .astore k => Nat.blt k n
  | .lstore k => Nat.blt (k + 1) n
  | .istore_n k => Nat.blt k.val n
  | .astore_n k => Nat.blt k.val n
  | .lstore_n k => Nat.blt (k.val + 1) n
  | .iinc k _ => Nat.blt k n
  | _ => true
def chk2 (m : Nat) (q : Nat × Ent) : Bool := (isSw q.2.1 || Nat.beq q.2.2.1 (q.1 + ilen q.2.1)) && stOK (mL m) q.2.1
theorem chk2_all : ∀ m, m < 242 → (itab m).all (chk2 m) = true := by decide +kernel
theorem lkp_mem : ∀ (l : List (Nat × Ent)) (pc : Nat) (e : Ent), lkp l pc = some e → (pc, e) ∈ l
  | [], _, _, h => by cases h
  | q :: t, pc, e, h => by
    unfold lkp at h
    cases hb : Nat.beq q.1 pc with
    | true =>
      rw [hb] at h
      have h1 : q.2 = e := Option.some.inj h
      have h2 : q.1 = pc := Nat.eq_of_beq_eq_true hb
      rw [← h1, ← h2]
      exact List.mem_cons_self
    | false =>
      rw [hb] at h
      exact List.mem_cons_of_mem _ (lkp_mem t pc e h)
theorem itab_lt {m pc : Nat} {e : Ent} (h : ins m pc = some e) : m < 242 := by
  rcases Nat.lt_or_ge m 242 with q | q
  · exact q
  · have h1 : itab m = [] := by
      have hl : itabs.length = 242 := by decide +kernel
      unfold itab
      rw [List.getD_eq_getElem?_getD, List.getElem?_eq_none (by omega)]
      rfl
    unfold ins at h
    rw [h1] at h
    cases h
/-- what an instruction of the tables is in the code -/
theorem ins_dec {m pc npc x : Nat} {i : Instr} {y : Int} (h : ins m pc = some (i, npc, x, y)) : decode (mB m) pc = .ok (i, npc - pc) ∧ pc ≤ npc ∧ opchk (mO m) pc (i, npc, x, y) = true ∧ (isSw i = true ∨ npc = pc + ilen i) ∧ stOK (mL m) i = true := by
  have hm := itab_lt h
  have h1 := lkp_mem _ _ _ h
  have h2 := List.all_eq_true.mp (chk_all m hm) _ h1
  have h3 := List.all_eq_true.mp (chk2_all m hm) _ h1
  unfold chk1 at h2
  unfold chk2 at h3
  simp only [Bool.and_eq_true, Bool.or_eq_true, decide_eq_true_eq] at h2 h3
  exact ⟨h2.1.1, Nat.le_of_ble_eq_true h2.1.2, h2.2, h3.1.imp id Nat.eq_of_beq_eq_true, h3.2⟩
theorem ins_d {m pc npc x : Nat} {i : Instr} {y : Int} (h : ins m pc = some (i, npc, x, y)) (hs : isSw i = false) : decode (mB m) pc = .ok (i, ilen i) ∧ npc = pc + ilen i := by
  obtain ⟨h1, h2, -, h4, -⟩ := ins_dec h
  rcases h4 with h4 | h4
  · rw [hs] at h4; cases h4
  · exact ⟨by rw [h1, h4, Nat.add_sub_cancel_left], h4⟩
