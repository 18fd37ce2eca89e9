/-- what the tables say of an instruction's pool entry, its target, its constant -/
def opchk (own pc : Nat) (e : Ent) : Bool := match e.1 with
  | .getfield j => fldTab.any (fun q => q.1 == own && q.2.1 == j && q.2.2.1 == e.2.2.1 && ((q.2.2.2.1 : Nat) : Int) == e.2.2.2)
  | .putfield j => fldTab.any (fun q => q.1 == own && q.2.1 == j && q.2.2.1 == e.2.2.1 && ((q.2.2.2.1 : Nat) : Int) == e.2.2.2)
  | .invokevirtual j => mthTab.any (fun q => q.1 == own && q.2.1 == j && q.2.2.1 == e.2.2.1 && ((q.2.2.2.1 : Nat) : Int) == e.2.2.2)
  | .invokestatic j => mthTab.any (fun q => q.1 == own && q.2.1 == j && q.2.2.1 == e.2.2.1 && ((q.2.2.2.1 : Nat) : Int) == e.2.2.2)
  | .invokespecial j => mthTab.any (fun q => q.1 == own && q.2.1 == j && q.2.2.1 == e.2.2.1 && ((q.2.2.2.1 : Nat) : Int) == e.2.2.2)
  | .new j => clsTab.any (fun q => q.1 == own && q.2.1 == j && q.2.2.1 == e.2.2.1)
  | .anewarray j => clsTab.any (fun q => q.1 == own && q.2.1 == j && q.2.2.1 == e.2.2.1)
  | .multianewarray j _ => clsTab.any (fun q => q.1 == own && q.2.1 == j && q.2.2.1 == e.2.2.1)
  | .ldc j => conTab.any (fun q => q.1 == own && q.2.1 == j && q.2.2.1 == e.2.2.1 && q.2.2.2.1 == e.2.2.2)
  | .ldc_w j => conTab.any (fun q => q.1 == own && q.2.1 == j && q.2.2.1 == e.2.2.1 && q.2.2.2.1 == e.2.2.2)
  | .ldc2_w j => conTab.any (fun q => q.1 == own && q.2.1 == j && q.2.2.1 == e.2.2.1 && q.2.2.2.1 == e.2.2.2)
  | .getstatic j => conTab.any (fun q => q.1 == own && q.2.1 == j && q.2.2.1 == e.2.2.1)
  | .goto o => ((pc : Nat) : Int) + o == ((e.2.2.1 : Nat) : Int)
  | .ifCond _ o => ((pc : Nat) : Int) + o == ((e.2.2.1 : Nat) : Int)
  | .if_icmp _ o => ((pc : Nat) : Int) + o == ((e.2.2.1 : Nat) : Int)
  | .bipush n => decide (-128 ≤ n) && decide (n < 128) && n == e.2.2.2
  | .sipush n => decide (-32768 ≤ n) && decide (n < 32768) && n == e.2.2.2
  | .iconst n => decide (-1 ≤ n) && decide (n < 6) && n == e.2.2.2
  | .lconst n => ((n.val : Nat) : Int) == e.2.2.2
  | _ => true
def chk1 (m : Nat) (q : Nat × Ent) : Bool := decide (decode (mB m) q.1 = .ok (q.2.1, q.2.2.1 - q.1)) && Nat.ble q.1 q.2.2.1 && opchk (mO m) q.1 q.2
def chkM (m : Nat) : Bool := (itab m).all (chk1 m)
theorem all_cut {α : Type} (f : α → Bool) (l : List α) (k : Nat) (h1 : (l.take k).all f = true) (h2 : (l.drop k).all f = true) : l.all f = true := by
  rw [← List.take_append_drop k l, List.all_append, h1, h2]; rfl
