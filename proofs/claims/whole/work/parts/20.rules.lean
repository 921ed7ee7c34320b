/-! rules: branches, calls, ends -/
section RULES
variable {d k bc bs pc : Nat} {vs st r : List Value} {M : Mem} {R : Option Value → Mem → Prop} {p0 len a b t : Nat} {x0 : Int32} {w0 : Int64} {ts : List (Int32 × Nat)}
theorem go_if {c : ClassFile.Cond} {o : Int} {x : Int32} (hf : fet k pc = some (p0, .ifCond c o, len, a, b, t, x0, w0, ts)) (h1 : cmpP c x 0 → Go d k bc bs a vs r M R) (h2 : ¬ cmpP c x 0 → Go d k bc bs (pc + 3) vs r M R) : Go d k bc bs pc vs (.int x :: r) M R := by
  refine go_fold ?_
  unfold runF
  rw [hf]
  exact ⟨h1, h2⟩
theorem go_icmp {c : ClassFile.Cond} {o : Int} {x y : Int32} (hf : fet k pc = some (p0, .if_icmp c o, len, a, b, t, x0, w0, ts)) (h1 : cmpP c x y → Go d k bc bs a vs r M R) (h2 : ¬ cmpP c x y → Go d k bc bs (pc + 3) vs r M R) : Go d k bc bs pc vs (.int y :: .int x :: r) M R := by
  refine go_fold ?_
  unfold runF
  rw [hf]
  exact ⟨h1, h2⟩
theorem go_acmp {o : Int} {rx ry : Option Nat} (hf : fet k pc = some (p0, .if_acmp .ne o, len, a, b, t, x0, w0, ts)) (h1 : ¬ rx = ry → Go d k bc bs a vs r M R) (h2 : rx = ry → Go d k bc bs (pc + 3) vs r M R) : Go d k bc bs pc vs (va_rf ry :: va_rf rx :: r) M R := by
  refine go_fold ?_
  unfold runF
  rw [hf]
  exact ⟨rx, ry, rfl, rfl, h1, h2⟩
theorem go_ifnull0 {o : Int} (hf : fet k pc = some (p0, .ifnull o, len, a, b, t, x0, w0, ts)) (h : Go d k bc bs a vs r M R) : Go d k bc bs pc vs (.null :: r) M R := by
  refine go_fold ?_
  unfold runF
  rw [hf]
  exact h
theorem go_ifnull1 {o : Int} {q : Nat} (hf : fet k pc = some (p0, .ifnull o, len, a, b, t, x0, w0, ts)) (h : Go d k bc bs (pc + 3) vs r M R) : Go d k bc bs pc vs (.ref q :: r) M R := by
  refine go_fold ?_
  unfold runF
  rw [hf]
  exact h
theorem go_ifnon0 {o : Int} (hf : fet k pc = some (p0, .ifnonnull o, len, a, b, t, x0, w0, ts)) (h : Go d k bc bs (pc + 3) vs r M R) : Go d k bc bs pc vs (.null :: r) M R := by
  refine go_fold ?_
  unfold runF
  rw [hf]
  exact h
theorem go_ifnon1 {o : Int} {q : Nat} (hf : fet k pc = some (p0, .ifnonnull o, len, a, b, t, x0, w0, ts)) (h : Go d k bc bs a vs r M R) : Go d k bc bs pc vs (.ref q :: r) M R := by
  refine go_fold ?_
  unfold runF
  rw [hf]
  exact h
theorem go_tsw {d0 l0 h0 : Int} {os : Array Int} {x : Int32} (hf : fet k pc = some (p0, .tableswitch d0 l0 h0 os, len, a, b, t, x0, w0, ts)) (h : swR x (fun t => Go d k bc bs t vs r M R) a ts) : Go d k bc bs pc vs (.int x :: r) M R := by
  refine go_fold ?_
  unfold runF
  rw [hf]
  exact h
theorem go_lsw {d0 : Int} {os : Array (Int × Int)} {x : Int32} (hf : fet k pc = some (p0, .lookupswitch d0 os, len, a, b, t, x0, w0, ts)) (h : swR x (fun t => Go d k bc bs t vs r M R) a ts) : Go d k bc bs pc vs (.int x :: r) M R := by
  refine go_fold ?_
  unfold runF
  rw [hf]
  exact h
theorem go_new {ix : Nat} (hf : fet k pc = some (p0, .new ix, len, a, b, t, x0, w0, ts)) (ha : a < 13) (h1 : 1 ≤ bc) (h2 : clNn a ≤ bs) (h : ∀ q, q ∉ mL M → Go d k (bc - 1) (bs - clNn a) (pc + 3) vs (.ref q :: st) (alO M q a) R) : Go d k bc bs pc vs st M R := by
  refine go_fold ?_
  unfold runF
  rw [hf]
  dsimp only
  split
  · omega
  · exact ⟨h1, h2, h⟩
theorem go_newa {at0 : ArrayType} {x : Int32} (hf : fet k pc = some (p0, .newarray at0, len, a, b, t, x0, w0, ts)) (h0 : ¬ x < 0) (h9 : x.toNatClampNeg ≤ 100000) (h1 : 1 ≤ bc) (h2 : x.toNatClampNeg ≤ bs) (h : ∀ q, q ∉ mL M → Go d k (bc - 1) (bs - x.toNatClampNeg) (pc + 2) vs (.ref q :: r) (alA M q a x.toNatClampNeg) R) : Go d k bc bs pc vs (.int x :: r) M R := by
  refine go_fold ?_
  unfold runF
  rw [hf]
  exact ⟨h0, h9, h1, h2, h⟩
theorem go_anewa {ix : Nat} {x : Int32} (hf : fet k pc = some (p0, .anewarray ix, len, a, b, t, x0, w0, ts)) (h0 : ¬ x < 0) (h9 : x.toNatClampNeg ≤ 100000) (h1 : 1 ≤ bc) (h2 : x.toNatClampNeg ≤ bs) (h : ∀ q, q ∉ mL M → Go d k (bc - 1) (bs - x.toNatClampNeg) (pc + 3) vs (.ref q :: r) (alA M q a x.toNatClampNeg) R) : Go d k bc bs pc vs (.int x :: r) M R := by
  refine go_fold ?_
  unfold runF
  rw [hf]
  exact ⟨h0, h9, h1, h2, h⟩
theorem go_obj {ix q : Nat} (hf : fet k pc = some (p0, .invokespecial ix, len, 9000, b, t, x0, w0, ts)) (h1 : 1 ≤ d) (h2 : wsum r ≤ 8) (h : Go d k bc bs (pc + 3) vs r M R) : Go d k bc bs pc vs (.ref q :: r) M R := by
  refine go_fold ?_
  unfold runF
  rw [hf]
  exact ⟨h1, h2, h⟩
theorem go_acp {ix a0 a1 : Nat} {z dp sp : Int32} (hf : fet k pc = some (p0, .invokestatic ix, len, 9001, b, t, x0, w0, ts)) (h1 : 1 ≤ d) (h2 : wsum r ≤ 8) (h3 : ob M a0 15) (h4 : ob M a1 15) (h5 : ¬ sp < 0) (h6 : ¬ dp < 0) (h7 : ¬ z < 0) (h8 : sp.toNatClampNeg + z.toNatClampNeg ≤ mN M a0) (h9 : dp.toNatClampNeg + z.toNatClampNeg ≤ mN M a1) (h : Go d k bc bs (pc + 3) vs r (cpI M a0 a1 sp.toNatClampNeg dp.toNatClampNeg z.toNatClampNeg) R) : Go d k bc bs pc vs (.int z :: .int dp :: .ref a1 :: .int sp :: .ref a0 :: r) M R := by
  refine go_fold ?_
  unfold runF
  rw [hf]
  exact ⟨h1, h2, h3, h4, h5, h6, h7, h8, h9, h⟩
theorem go_let {ix : Nat} {x : Int32} (hf : fet k pc = some (p0, .invokestatic ix, len, 86, b, t, x0, w0, ts)) (h1 : 30 ≤ d) (h2 : wsum r ≤ 8) (h : Go d k bc bs (pc + 3) vs (.int (letV x) :: r) M R) : Go d k bc bs pc vs (.int x :: r) M R := by
  refine go_fold ?_
  unfold runF
  rw [hf]
  exact ⟨h1, h2, h⟩
theorem go_callI {ix q : Nat} {as rest : List Value} (hf : fet k pc = some (p0, .invokespecial ix, len, a, b, t, x0, w0, ts)) (ha : a ≠ 9000) (hst : (st.take (pN (tbl a) + 1)).reverse = .ref q :: as) (hrest : st.drop (pN (tbl a) + 1) = rest) (h1 : 1 ≤ d) (hk : cok a 1 st = true) (h2 : pMc (tbl a) ≤ bc) (h3 : pMs (tbl a) ≤ bs)
    (h : Call (d - 1) a (.ref q :: as) M (fun v M' => v = none ∧ Go d k (bc - pMc (tbl a)) (bs - pMs (tbl a)) (pc + 3) vs rest M' R)) : Go d k bc bs pc vs st M R := by
  subst hrest
  refine go_fold ?_
  unfold runF
  rw [hf]
  dsimp only
  split
  · exact absurd rfl ha
  · rw [hst]
    exact ⟨h1, hk, h2, h3, h⟩
theorem go_callV {ix q : Nat} {as rest : List Value} (hf : fet k pc = some (p0, .invokevirtual ix, len, a, b, t, x0, w0, ts)) (hst : (st.take (pN (tbl a) + 1)).reverse = .ref q :: as) (hrest : st.drop (pN (tbl a) + 1) = rest) (h1 : 1 ≤ d) (hk : cok a 1 st = true) (h2 : pMc (tbl a) ≤ bc) (h3 : pMs (tbl a) ≤ bs) (ho : ob M q (pC (tbl a)))
    (h : Call (d - 1) a (.ref q :: as) M (fun v M' => v ≠ some (.retAddr 7) ∧ Go d k (bc - pMc (tbl a)) (bs - pMs (tbl a)) (pc + 3) vs (v.toList ++ rest) M' R)) : Go d k bc bs pc vs st M R := by
  subst hrest
  refine go_fold ?_
  unfold runF
  rw [hf]
  dsimp only
  rw [hst]
  exact ⟨h1, hk, h2, h3, ho, h⟩
theorem go_callS {ix : Nat} {as rest : List Value} (hf : fet k pc = some (p0, .invokestatic ix, len, a, b, t, x0, w0, ts)) (ha : a ≠ 9001 ∧ a ≠ 86 ∧ a ≠ 276) (hst : (st.take (pN (tbl a))).reverse = as) (hrest : st.drop (pN (tbl a)) = rest) (h1 : 1 ≤ d) (hk : cok a 0 st = true) (h2 : pMc (tbl a) ≤ bc) (h3 : pMs (tbl a) ≤ bs)
    (h : Call (d - 1) a as M (fun v M' => v ≠ some (.retAddr 7) ∧ Go d k (bc - pMc (tbl a)) (bs - pMs (tbl a)) (pc + 3) vs (v.toList ++ rest) M' R)) : Go d k bc bs pc vs st M R := by
  subst hrest
  subst hst
  refine go_fold ?_
  unfold runF
  rw [hf]
  dsimp only
  split
  · exact absurd rfl ha.1
  · exact absurd rfl ha.2.1
  · exact absurd rfl ha.2.2
  · exact ⟨h1, hk, h2, h3, h⟩
theorem go_abt {ix u q : Nat} {w z : Int32} (hf : fet k pc = some (p0, .invokestatic ix, len, 276, b, t, x0, w0, ts)) (h1 : 30 ≤ d) (h2 : wsum r ≤ 8) (h3 : 100 ≤ bc) (h4 : 1000 ≤ bs) (h5 : ob M u 16) (h6 : 1 ≤ mN M u) (h7 : ob M q 11)
    (h : Call (d - 10) 137 [.ref q, .int z, .int w] M (fun v M' => (∃ y : Int32, v = some (.int y) ∧ (ob M' u 16 ∧ 1 ≤ mN M' u) ∧ Go d k (bc - 100) (bs - 1000) (pc + 3) vs (.int 0 :: r) (sJ M' u 0 y.toInt64) R) ∨ (v = some (.retAddr 7) ∧ Go d k (bc - 100) (bs - 1000) (pc + 3) vs (.int 1 :: r) M' R))) : Go d k bc bs pc vs (.ref u :: .int w :: .int z :: .ref q :: r) M R := by
  refine go_fold ?_
  unfold runF
  rw [hf]
  exact ⟨h1, h2, h3, h4, h5, h6, h7, h⟩
theorem go_iret {x : Int32} (hf : fet k pc = some (p0, .ireturn, len, a, b, t, x0, w0, ts)) (h0 : pRet (tbl k) = some .int) (h : R (some (.int x)) M) : Go d k bc bs pc vs [.int x] M R := by
  refine go_fold ?_
  unfold runF
  rw [hf]
  exact ⟨Or.inl h0, h⟩
theorem go_zret {x : Int32} (hf : fet k pc = some (p0, .ireturn, len, a, b, t, x0, w0, ts)) (h0 : pRet (tbl k) = some .boolean) (h1 : x = 0 ∨ x = 1) (h : R (some (.int x)) M) : Go d k bc bs pc vs [.int x] M R := by
  refine go_fold ?_
  unfold runF
  rw [hf]
  exact ⟨Or.inr ⟨h0, h1⟩, h⟩
theorem go_lret {x : Int64} (hf : fet k pc = some (p0, .lreturn, len, a, b, t, x0, w0, ts)) (h0 : pRet (tbl k) = some .long) (h : R (some (.long x)) M) : Go d k bc bs pc vs [.long x] M R := by
  refine go_fold ?_
  unfold runF
  rw [hf]
  exact ⟨h0, h⟩
theorem go_aret {q : Option Nat} (hf : fet k pc = some (p0, .areturn, len, a, b, t, x0, w0, ts)) (h0 : isObjTy (pRet (tbl k))) (h : R (some (va_rf q)) M) : Go d k bc bs pc vs [va_rf q] M R := by
  refine go_fold ?_
  unfold runF
  rw [hf]
  cases q with
  | none => exact ⟨h0, h⟩
  | some q => exact ⟨h0, h⟩
theorem go_vret (hf : fet k pc = some (p0, .return_, len, a, b, t, x0, w0, ts)) (h0 : pRet (tbl k) = none) (h : R none M) : Go d k bc bs pc vs [] M R := by
  refine go_fold ?_
  unfold runF
  rw [hf]
  exact ⟨rfl, h0, h⟩
end RULES
/-- reads behind writes -/
theorem mI_sI (M : Mem) (a j : Nat) (v : Int32) (b i : Nat) : mI (sI M a j v) b i = if b = a ∧ i = j then v else mI M b i := rfl
theorem mI_sJ (M : Mem) (a j : Nat) (v : Int64) (b i : Nat) : mI (sJ M a j v) b i = mI M b i := rfl
theorem mI_sR (M : Mem) (a j : Nat) (v : Option Nat) (b i : Nat) : mI (sR M a j v) b i = mI M b i := rfl
theorem mJ_sJ (M : Mem) (a j : Nat) (v : Int64) (b i : Nat) : mJ (sJ M a j v) b i = if b = a ∧ i = j then v else mJ M b i := rfl
theorem mJ_sI (M : Mem) (a j : Nat) (v : Int32) (b i : Nat) : mJ (sI M a j v) b i = mJ M b i := rfl
theorem mJ_sR (M : Mem) (a j : Nat) (v : Option Nat) (b i : Nat) : mJ (sR M a j v) b i = mJ M b i := rfl
theorem mR_sR (M : Mem) (a j : Nat) (v : Option Nat) (b i : Nat) : mR (sR M a j v) b i = if b = a ∧ i = j then v else mR M b i := rfl
theorem mR_sI (M : Mem) (a j : Nat) (v : Int32) (b i : Nat) : mR (sI M a j v) b i = mR M b i := rfl
theorem mR_sJ (M : Mem) (a j : Nat) (v : Int64) (b i : Nat) : mR (sJ M a j v) b i = mR M b i := rfl
