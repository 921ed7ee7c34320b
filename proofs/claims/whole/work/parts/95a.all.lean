/-! all calls together -/
theorem ops_all {x o u : Nat} {sc : Nat × Nat × (Nat → Int32)} : Ops (II x o u sc) x o u := ⟨op0, op1, op2, op3, op4, op5, op6, op7, op8, op9, op10, op11, op12, op13, op14, op15, op16, op17, op18, op19, op20, op21, op22, op23, op24, op25, op26, op27, op28, op29, op30, op31, op32, op33, op34, op35, op36, op37, op38, op39, op40, op41, op42⟩
theorem iok_all {x o u : Nat} {sc : Nat × Nat × (Nat → Int32)} : IOk (II x o u sc) x o u sc := fun M h => by
  obtain ⟨hsc, ad, nc, nb, nt, wk, nw, nx, nl, ne, nk, kd, op, rfl, rfl, rfl, hW⟩ := h
  obtain ⟨hi, ⟨hF, hM, -⟩, -⟩ := hW
  exact ⟨hF.o 0, hM.1, hF.o 40, hF.n 40, hsc⟩
/-- from the first memory on -/
theorem law_from {x o u b L : Nat} {xs : Nat → Int32} {x5 x6 : Value} {M : Mem} (hL : L ≤ 3072) (h : II x o u (b, L, xs) M) : Go 1312 277 51200 512000 23 [.ref b, .ref x, .ref o, .ref u, .int 0, x5, x6] [] M (fun v _ => v = some (.int 1)) :=
  law_loop iok_all ops_all hL 512 0 x5 x6 M (by omega) h
