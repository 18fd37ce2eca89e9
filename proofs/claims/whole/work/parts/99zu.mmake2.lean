/-! Level 3, the start: the reference's rows are made. -/
section MN
variable {L : Nat} {w : Wd}
theorem i_Mo (h : PO L 223 (fun _ _ => False) w) : Wp (Mo_init 223 (nw w 12 68)) (MOK L w) := by
  have hs : SH L 223 = (12, 68) := rfl
  obtain ⟨h0, f0, z0⟩ := q_new h hs
  generalize nw w 12 68 = w0 at h0 f0 z0
  have g0 : ZN 224 w0 w0 := ⟨fun a j _ => ⟨rfl, rfl⟩, fun a j h1 h2 => absurd h2 (by omega)⟩
  unfold Mo_init Mo_init_0
  refine x_gd (h0.at (by omega) hs) (x_tg (h0.at (by omega) hs) ?_)
  refine q_rowM h0 g0 (by omega) (m := 2000) rfl (by decide) (by decide) (k := 1) rfl (by decide +kernel) (by omega) (fun w1 h1 g1 => ?_)
  clear h0 g0
  refine q_rowM h1 g1 (by omega) (m := 2000) rfl (by decide) (by decide) (k := 3) rfl (by decide +kernel) (by omega) (fun w2 h2 g2 => ?_)
  clear h1 g1
  refine q_rowM h2 g2 (by omega) (m := 403) rfl (by decide) (by decide) (k := 5) rfl (by decide +kernel) (by omega) (fun w3 h3 g3 => ?_)
  clear h2 g2
  refine q_rowM h3 g3 (by omega) (m := 403) rfl (by decide) (by decide) (k := 6) rfl (by decide +kernel) (by omega) (fun w4 h4 g4 => ?_)
  clear h3 g3
  refine q_rowM h4 g4 (by omega) (m := 403) rfl (by decide) (by decide) (k := 7) rfl (by decide +kernel) (by omega) (fun w5 h5 g5 => ?_)
  clear h4 g4
  refine q_rowM h5 g5 (by omega) (m := 403) rfl (by decide) (by decide) (k := 8) rfl (by decide +kernel) (by omega) (fun w6 h6 g6 => ?_)
  clear h5 g5
  refine q_rowM h6 g6 (by omega) (m := 17) rfl (by decide) (by decide) (k := 9) rfl (by decide +kernel) (by omega) (fun w7 h7 g7 => ?_)
  clear h6 g6
  refine x_pI (h7.at (by omega) hs) ?_
  have h7 := h7.sI (a := 223) (k := 17) (z := -1)
  have v7 : ∀ j, wI (sI w7 223 17 (-1)) 223 j = if j = 17 then -1 else 0 := fun j => by
    by_cases e : j = 17
    · rw [if_pos e, e, wI_eq]
    · rw [if_neg e, wI_ne (by omega)]; exact (g7.1 223 j (by omega)).1.trans (z0 j).1
  have u7 : ∀ a j, a < 223 → wI (sI w7 223 17 (-1)) a j = wI w a j ∧ wL (sI w7 223 17 (-1)) a j = wL w a j := fun a j ha => ⟨((wI_ne (by omega)).trans (g7.1 a j (by omega)).1).trans (f0 a j ha).1, (g7.1 a j (by omega)).2.trans (f0 a j ha).2⟩
  have g7 : ZN 231 (sI w7 223 17 (-1)) (sI w7 223 17 (-1)) := ⟨fun a j _ => ⟨rfl, rfl⟩, fun a j h1 h2 => (wI_ne (by omega)).trans (g7.2 a j h1 (by omega))⟩
  generalize sI w7 223 17 (-1) = v at h7 v7 u7 g7 ⊢
  clear f0 z0
  refine q_rowM h7 g7 (by omega) (m := 15) rfl (by decide) (by decide) (k := 21) rfl (by decide +kernel) (by omega) (fun w8 h8 g8 => ?_)
  clear h7 g7
  refine q_rowM h8 g8 (by omega) (m := 15) rfl (by decide) (by decide) (k := 22) rfl (by decide +kernel) (by omega) (fun w9 h9 g9 => ?_)
  clear h8 g8
  refine q_rowM h9 g9 (by omega) (m := 2) rfl (by decide) (by decide) (k := 23) rfl (by decide +kernel) (by omega) (fun w10 h10 g10 => ?_)
  clear h9 g9
  refine q_rowM h10 g10 (by omega) (m := 12) rfl (by decide) (by decide) (k := 24) rfl (by decide +kernel) (by omega) (fun w11 h11 g11 => ?_)
  clear h10 g10
  refine q_rowM h11 g11 (by omega) (m := 2) rfl (by decide) (by decide) (k := 25) rfl (by decide +kernel) (by omega) (fun w12 h12 g12 => ?_)
  clear h11 g11
  refine q_rowM h12 g12 (by omega) (m := 12) rfl (by decide) (by decide) (k := 26) rfl (by decide +kernel) (by omega) (fun w13 h13 g13 => ?_)
  clear h12 g12
  refine q_rowM h13 g13 (by omega) (m := 12) rfl (by decide) (by decide) (k := 27) rfl (by decide +kernel) (by omega) (fun w14 h14 g14 => ?_)
  clear h13 g13
  refine q_rowM h14 g14 (by omega) (m := 72) rfl (by decide) (by decide) (k := 28) rfl (by decide +kernel) (by omega) (fun w15 h15 g15 => ?_)
  clear h14 g14
  refine q_rowM h15 g15 (by omega) (m := 2) rfl (by decide) (by decide) (k := 29) rfl (by decide +kernel) (by omega) (fun w16 h16 g16 => ?_)
  clear h15 g15
  refine q_rowM h16 g16 (by omega) (m := 2) rfl (by decide) (by decide) (k := 30) rfl (by decide +kernel) (by omega) (fun w17 h17 g17 => ?_)
  clear h16 g16
  refine q_rowM h17 g17 (by omega) (m := 2) rfl (by decide) (by decide) (k := 31) rfl (by decide +kernel) (by omega) (fun w18 h18 g18 => ?_)
  clear h17 g17
  refine q_rowM h18 g18 (by omega) (m := 2) rfl (by decide) (by decide) (k := 32) rfl (by decide +kernel) (by omega) (fun w19 h19 g19 => ?_)
  clear h18 g18
  refine q_rowM h19 g19 (by omega) (m := 20) rfl (by decide) (by decide) (k := 33) rfl (by decide +kernel) (by omega) (fun w20 h20 g20 => ?_)
  clear h19 g19
  refine q_rowM h20 g20 (by omega) (m := 20) rfl (by decide) (by decide) (k := 34) rfl (by decide +kernel) (by omega) (fun w21 h21 g21 => ?_)
  clear h20 g20
  refine q_rowM h21 g21 (by omega) (m := 260) rfl (by decide) (by decide) (k := 36) rfl (by decide +kernel) (by omega) (fun w22 h22 g22 => ?_)
  clear h21 g21
  refine q_rowM h22 g22 (by omega) (m := 260) rfl (by decide) (by decide) (k := 37) rfl (by decide +kernel) (by omega) (fun w23 h23 g23 => ?_)
  clear h22 g22
  refine q_rowM h23 g23 (by omega) (m := 260) rfl (by decide) (by decide) (k := 38) rfl (by decide +kernel) (by omega) (fun w24 h24 g24 => ?_)
  clear h23 g23
  refine q_rowM h24 g24 (by omega) (m := 260) rfl (by decide) (by decide) (k := 39) rfl (by decide +kernel) (by omega) (fun w25 h25 g25 => ?_)
  clear h24 g24
  refine q_rowM h25 g25 (by omega) (m := 260) rfl (by decide) (by decide) (k := 40) rfl (by decide +kernel) (by omega) (fun w26 h26 g26 => ?_)
  clear h25 g25
  refine q_rowM h26 g26 (by omega) (m := 840) rfl (by decide) (by decide) (k := 42) rfl (by decide +kernel) (by omega) (fun w27 h27 g27 => ?_)
  clear h26 g26
  refine q_rowM h27 g27 (by omega) (m := 840) rfl (by decide) (by decide) (k := 43) rfl (by decide +kernel) (by omega) (fun w28 h28 g28 => ?_)
  clear h27 g27
  refine q_rowM h28 g28 (by omega) (m := 64) rfl (by decide) (by decide) (k := 44) rfl (by decide +kernel) (by omega) (fun w29 h29 g29 => ?_)
  clear h28 g28
  refine q_rowM h29 g29 (by omega) (m := 7) rfl (by decide) (by decide) (k := 46) rfl (by decide +kernel) (by omega) (fun w30 h30 g30 => ?_)
  clear h29 g29
  refine q_rowM h30 g30 (by omega) (m := 400) rfl (by decide) (by decide) (k := 47) rfl (by decide +kernel) (by omega) (fun w31 h31 g31 => ?_)
  clear h30 g30
  refine q_rowM h31 g31 (by omega) (m := 2860) rfl (by decide) (by decide) (k := 49) rfl (by decide +kernel) (by omega) (fun w32 h32 g32 => ?_)
  clear h31 g31
  refine q_rowM h32 g32 (by omega) (m := 2860) rfl (by decide) (by decide) (k := 50) rfl (by decide +kernel) (by omega) (fun w33 h33 g33 => ?_)
  clear h32 g32
  refine q_rowM h33 g33 (by omega) (m := 6) rfl (by decide) (by decide) (k := 56) rfl (by decide +kernel) (by omega) (fun w34 h34 g34 => ?_)
  clear h33 g33
  refine q_rowM h34 g34 (by omega) (m := 3) rfl (by decide) (by decide) (k := 57) rfl (by decide +kernel) (by omega) (fun w35 h35 g35 => ?_)
  clear h34 g34
  refine q_rowM h35 g35 (by omega) (m := 85800) rfl (by decide) (by decide) (k := 59) rfl (by decide +kernel) (by omega) (fun w36 h36 g36 => ?_)
  clear h35 g35
  refine q_rowM h36 g36 (by omega) (m := 91) rfl (by decide) (by decide) (k := 60) rfl (by decide +kernel) (by omega) (fun w37 h37 g37 => ?_)
  clear h36 g36
  refine q_rowM h37 g37 (by omega) (m := 6) rfl (by decide) (by decide) (k := 61) rfl (by decide +kernel) (by omega) (fun w38 h38 g38 => ?_)
  clear h37 g37
  refine q_rowM h38 g38 (by omega) (m := 78) rfl (by decide) (by decide) (k := 62) rfl (by decide +kernel) (by omega) (fun w39 h39 g39 => ?_)
  clear h38 g38
  refine q_rowM h39 g39 (by omega) (m := 20) rfl (by decide) (by decide) (k := 64) rfl (by decide +kernel) (by omega) (fun w40 h40 g40 => ?_)
  clear h39 g39
  refine q_rowM h40 g40 (by omega) (m := 20) rfl (by decide) (by decide) (k := 65) rfl (by decide +kernel) (by omega) (fun w41 h41 g41 => ?_)
  clear h40 g40
  refine q_rowM h41 g41 (by omega) (m := 3) rfl (by decide) (by decide) (k := 66) rfl (by decide +kernel) (by omega) (fun w42 h42 g42 => ?_)
  clear h41 g41
  refine q_rowM h42 g42 (by omega) (m := 8580) rfl (by decide) (by decide) (k := 67) rfl (by decide +kernel) (by omega) (fun w43 h43 g43 => ?_)
  clear h42 g42
  have h44 : PO L 267 (fun _ _ => False) w43 := po_close (P := fun _ _ => False) h43 (fun j q => rr_big (L := L) hs (by decide) (by decide) q)
  have hO : Ok L 28 9 26 w43 := po_ok h44
  refine i_MoK hO (fun a j ha => ⟨(g43.1 a j (by omega)).1.trans (u7 a j ha).1, (g43.1 a j (by omega)).2.trans (u7 a j ha).2⟩) ⟨?_, ?_, ?_, ?_, ?_⟩ (fun j => g43.2 265 j (by omega) (by omega)) h44.1 h44.2.2.2.2.2.2.2
  · exact (g43.1 223 2 (by omega)).1.trans (v7 2)
  · exact (g43.1 223 17 (by omega)).1.trans (v7 17)
  · exact (g43.1 223 18 (by omega)).1.trans (v7 18)
  · exact (g43.1 223 58 (by omega)).1.trans (v7 58)
  · exact (g43.1 223 63 (by omega)).1.trans (v7 63)
end MN
