/-! The heap and the tables of the machine beside a world. -/
def GW : List Cond := lw_tbl.filter goodWord
theorem gw_at {q : Cond} (i : Nat) (h : lw_tbl[i]? = some q) (hg : goodWord q = true) : q ∈ GW := List.mem_filter.mpr ⟨List.mem_of_getElem? h, hg⟩
theorem gw_good {q : Cond} (h : q ∈ GW) : (q.onTables && q.keeps) = true ∨ ∃ ty, q = .arrayClass ty := good_of_word (List.mem_filter.mp h).2
theorem gw_in {q : Cond} (h : q ∈ GW) : q ∈ lw_tbl := (List.mem_filter.mp h).1
def isNest (q : Cond) : Bool := match q with
  | .methodLinkNest .. => true
  | _ => false
def NW : List Cond := lw_tbl.filter isNest
/-- what a row of a kind holds -/
def ety (t : Nat) : FieldType := match t with
  | 20 => .int
  | 21 => .byte
  | 22 => .long
  | 23 => .boolean
  | 24 => .object "HandHeirs$State"
  | 25 => .object "HandHeirs$Slot"
  | 26 => .array .int
  | 30 => .int
  | _ => .byte
def tgs : List Nat := [20, 21, 22, 23, 24, 25, 26, 30, 31, 32]
def tgn : List Nat := [20, 21, 22, 23, 24, 25, 26]
def el (g : Gp) (w : Wd) (t a j : Nat) : Value := if t = 22 then .long (i64 (wL w a j)) else if t = 24 ∨ t = 25 ∨ t = 26 then hv g (wR w a j) else .int (i32 (wI w a j))
def fv (g : Gp) (w : Wd) (c a k : Nat) : Value := if fty c k = 1 then .long (i64 (wL w a k)) else if fty c k = 2 then hv g (wR w a k) else .int (i32 (wI w a k))
/-- an object, a row -/
def HO (g : Gp) (w : Wd) (H : Heap) (c a : Nat) : Prop := ∃ cell : Cell, H[ad g a]? = some cell ∧ cell.cls = gC g c ∧ cell.vm ≠ .unknown ∧ cell.vm.isStatics = false ∧ (6 ≤ a → cell.vm = .none) ∧ ∀ k, k < cW c → cell.slots[gI g c k]? = some (fv g w c a k)
def HR (g : Gp) (w : Wd) (H : Heap) (t n a : Nat) : Prop := ∃ cell : Cell, H[ad g a]? = some cell ∧ cell.cls = gA g t ∧ cell.vm ≠ .unknown ∧ cell.vm.isStatics = false ∧ n ≤ cell.slots.size ∧ cell.slots.size.toInt32 = Int32.ofNat n ∧ (∀ j, j < n → cell.slots[j]? = some (el g w t a j)) ∧ (6 ≤ a → cell = arrV (gA g t) n (fun j => el g w t a j))
def HC (g : Gp) (w : Wd) (H : Heap) (a : Nat) : Prop := ((wsh w a).1 < 14 ∧ HO g w H (wsh w a).1 a) ∨ ((wsh w a).1 ∈ tgs ∧ HR g w H (wsh w a).1 (wsh w a).2 a)
def HP (g : Gp) (w : Wd) (H : Heap) : Prop := 6 ≤ wn w ∧ H.size = gb g + (wn w - 6) ∧ (∀ a, 1 ≤ a → a < wn w → HC g w H a) ∧ (∀ a, a < 6 → gf g a < gb g ∧ ((wsh w a).1 = 13 ∨ (wsh w a).1 = 30 ∨ (wsh w a).1 = 31 ∨ (wsh w a).1 = 32 ∨ (wsh w a).1 = 99)) ∧ (∀ a, a = 0 ∨ wn w ≤ a → (wsh w a).1 = 99) ∧ (∀ a, (wsh w a).2 < 2147483648) ∧ (∀ a k, rg (wI w a k)) ∧ ∀ a k, rl (wL w a k)
def FK (g : Gp) (s : State) (c k : Nat) : Prop := ∃ (cf : ClassId) (kf : Class) (fi : Nat) (fd : Field), s.fieldFound? (cN c) (cE c k).1 (cE c k).2.1 = some (cf, kf, fi, fd) ∧ fd.slot = gI g c k ∧ fd.isStatic = false
def txW : String := "letter heir master learn drift days limit seed if then else off year worn own hand day"
def txS : String := ";=+-*/<()"
def ST (g : Gp) (s : State) : Prop :=
  (∀ c, c < 14 → s.vm.findClass (cN c) = some (gC g c)) ∧ (∀ c, c < 13 → ∃ kC : Class, s.vm.classes[gC g c]? = some kC ∧ kC.kind = .ordinary) ∧ (∀ c k, c < 14 → k < cW c → FK g s c k) ∧
  (∀ t, t ∈ tgs → ∃ (k : Class) (comp : ClassId), s.vm.classes[gA g t]? = some k ∧ k.kind = .array comp (ety t)) ∧ (∀ t, t ∈ tgn → s.vm.findClass ("[" ++ (ety t).toString) = some (gA g t)) ∧
  (∀ q, q ∈ NW → va_Nw q s) ∧ (∀ t, t ∈ [24, 25, 26] → (Cond.arrayOver (ety t)).before #[] s = true) ∧ vk_R (cN 7) 34 txW (ad g 2) s ∧ vk_R (cN 7) 77 txS (ad g 4) s
def ZZ (g : Gp) (s : State) (H : Heap) : Prop := va_Z "java/lang/String" "COMPACT_STRINGS" "Z" (.int 1) (Ar g) s H ∧ va_Z "jdk/internal/util/Preconditions" "SIOOBE_FORMATTER" "Ljava/util/function/BiFunction;" (gz g) (Ar g) s H ∧ (gz g = .null ∨ ∃ q, gz g = .ref q)
theorem hh_over {s U : State} {ty : FieldType} (hvm : s.vm.Alike U.vm) (h : (Cond.arrayOver ty).before #[] s = true) : (Cond.arrayOver ty).before #[] U = true := by
  have h0 := (Cond.arrayOver_setVmC (args := #[]) hvm ty).trans h
  exact h0
/-- the tables' words move on with what has been resolved -/
theorem ST.warm {g : Gp} {s U : State} (hW : s.WarmedH U.vm) (h : ST g s) : ST g U := by
  obtain ⟨h1, h2, h3, h4, h5, h6, h7, h8, h9⟩ := h
  have hvm := hW.alike
  refine ⟨fun c hc => by rw [hvm.findClass]; exact h1 c hc, fun c hc => ?_, fun c k hc hk => ?_, fun t ht => ?_, fun t ht => by rw [hvm.findClass]; exact h5 t ht, fun q hq => ?_, fun t ht => ?_, h8.warm hW, h9.warm hW⟩
  · obtain ⟨kC, k1, k2⟩ := h2 c hc
    obtain ⟨k', hk', he⟩ := hvm.2.2 _ _ k1
    exact ⟨k', hk', by rw [he]; exact k2⟩
  · obtain ⟨cf, kf, fi, fd, q1, q2⟩ := h3 c k hc hk
    obtain ⟨kf', hi', -⟩ := State.fieldFound?_setVm hvm q1
    exact ⟨cf, kf', fi, fd, hi', q2⟩
  · obtain ⟨k, comp, k1, k2⟩ := h4 t ht
    obtain ⟨k', hk', he⟩ := hvm.2.2 _ _ k1
    exact ⟨k', comp, hk', by rw [he]; exact k2⟩
  · have hn := (List.mem_filter.mp hq).2
    have hz := h6 q hq
    cases q with
    | methodLinkNest a i x h => exact hz.warmM hW
    | _ => simp [isNest] at hn
  · exact hh_over hvm (h7 t ht)
/-- the frames change, the tables stay -/
theorem ST.same {g : Gp} {s U : State} (hv : U.vm = s.vm) (h : ST g s) : ST g U := by
  obtain ⟨h1, h2, h3, h4, h5, h6, h7, h8, h9⟩ := h
  have hvm : s.vm.Alike U.vm := by rw [hv]; exact Vm.Alike.refl _
  refine ⟨fun c hc => by rw [hv]; exact h1 c hc, fun c hc => by rw [hv]; exact h2 c hc, fun c k hc hk => ?_, fun t ht => by rw [hv]; exact h4 t ht, fun t ht => by rw [hv]; exact h5 t ht, fun q hq => ?_, fun t ht => ?_, h8.same hv, h9.same hv⟩
  · obtain ⟨cf, kf, fi, fd, q1, q2⟩ := h3 c k hc hk
    obtain ⟨kf', hi', -⟩ := State.fieldFound?_setVm hvm q1
    exact ⟨cf, kf', fi, fd, hi', q2⟩
  · have hn := (List.mem_filter.mp hq).2
    have hz := h6 q hq
    cases q with
    | methodLinkNest a i x h => exact hz.same rfl hv.symm
    | _ => simp [isNest] at hn
  · exact hh_over hvm (h7 t ht)
theorem ZZ.moved {g : Gp} {s U : State} {H : Heap} (hvm : s.vm.Alike U.vm) (h : ZZ g s H) : ZZ g U H := ⟨h.1.moved hvm, h.2.1.moved hvm, h.2.2⟩
theorem ZZ.kept {g : Gp} {s : State} {H H1 : Heap} (h : ZZ g s H) (hq : ∀ a : Nat, a < H.size → ¬ Ar g a → H1[a]? = H[a]?) : ZZ g s H1 := ⟨h.1.kept hq, h.2.1.kept hq, h.2.2⟩
