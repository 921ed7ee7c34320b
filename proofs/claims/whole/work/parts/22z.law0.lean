/-! the law's loop, over an invariant I of the memory between two calls, and what each call does to it -/
/-- a call of the class, then the same call of the model: one answer, and the invariant again -/
def OpP (I : Mem → Prop) (x o kx km : Nat) (as : List Value) (M : Mem) : Prop := ∀ R : Option Value → Mem → Prop,
  (∀ (r : Int32) (M1 : Mem), ob M1 o 12 → mSc M1 = mSc M → (∀ R2 : Option Value → Mem → Prop, (∀ M2, I M2 → R2 (some (.int r)) M2) → Call 1311 km (.ref o :: as) M1 R2) → R (some (.int r)) M1) → Call 1311 kx (.ref x :: as) M R
def OpA (I : Mem → Prop) (x o u : Nat) (z w : Int32) (M : Mem) : Prop := ∀ R : Option Value → Mem → Prop,
  (∀ (y : Int32) (M1 : Mem), ob M1 o 12 → (ob M1 u 16 ∧ 1 ≤ mN M1 u) → mSc M1 = mSc M → (∀ R2 : Option Value → Mem → Prop, (∀ M2, I M2 → mI M2 o 0 = 0 → mJ M2 u 0 = y.toInt64 → R2 (some (.int y)) M2) → Call 1311 227 [.ref o, .int z, .int w] (sJ M1 u 0 y.toInt64) R2) → R (some (.int y)) M1) →
  (∀ M1 : Mem, ob M1 o 12 → mSc M1 = mSc M → (∀ R2 : Option Value → Mem → Prop, (∀ M2 v, I M2 → mI M2 o 0 = 1 → R2 (some (.int v)) M2) → Call 1311 227 [.ref o, .int z, .int w] M1 R2) → R (some (.retAddr 7)) M1) → Call 1302 137 [.ref x, .int z, .int w] M R
def Op0 (I : Mem → Prop) (x o : Nat) : Prop := ∀ (M : Mem) (a1 : Int32) (a2 : Int32) (a3 : Int32) (a4 : Int32), I M → (a2 = 0 ∨ a2 = 1) → OpP I x o 116 191 [.int a1, .int a2, .int a3, .int a4] M
def Op1 (I : Mem → Prop) (x o : Nat) : Prop := ∀ (M : Mem) (a1 : Int32) (a2 : Int32), I M → OpP I x o 117 192 [.int a1, .int a2] M
def Op2 (I : Mem → Prop) (x o : Nat) : Prop := ∀ (M : Mem) (a1 : Int32) (a2 : Int32) (a3 : Int32) (a4 : Int32) (a5 : Int32), I M → (a4 = 0 ∨ a4 = 1) → OpP I x o 118 194 [.int a1, .int a2, .int a3, .int a4, .int a5] M
def Op3 (I : Mem → Prop) (x o : Nat) : Prop := ∀ (M : Mem) (a1 : Int32), I M → OpP I x o 119 195 [.int a1] M
def Op4 (I : Mem → Prop) (x o : Nat) : Prop := ∀ (M : Mem) (a1 : Int32) (a2 : Int32) (a3 : Int32), I M → (a3 = 0 ∨ a3 = 1) → OpP I x o 120 196 [.int a1, .int a2, .int a3] M
def Op5 (I : Mem → Prop) (x o : Nat) : Prop := ∀ (M : Mem) (a1 : Int32) (a2 : Int32), I M → OpP I x o 121 199 [.int a1, .int a2] M
def Op6 (I : Mem → Prop) (x o : Nat) : Prop := ∀ (M : Mem) (a1 : Int32), I M → OpP I x o 122 200 [.int a1] M
def Op7 (I : Mem → Prop) (x o : Nat) : Prop := ∀ (M : Mem) (a1 : Int32), I M → OpP I x o 123 201 [.int a1] M
def Op8 (I : Mem → Prop) (x o : Nat) : Prop := ∀ (M : Mem) (a1 : Int32) (a2 : Int32), I M → OpP I x o 124 202 [.int a1, .int a2] M
def Op9 (I : Mem → Prop) (x o : Nat) : Prop := ∀ (M : Mem) (a1 : Int32) (a2 : Int32), I M → OpP I x o 125 203 [.int a1, .int a2] M
def Op10 (I : Mem → Prop) (x o : Nat) : Prop := ∀ (M : Mem) (a1 : Int32), I M → OpP I x o 126 204 [.int a1] M
def Op11 (I : Mem → Prop) (x o : Nat) : Prop := ∀ (M : Mem) (a1 : Int32) (a2 : Int32) (a3 : Int32), I M → OpP I x o 127 205 [.int a1, .int a2, .int a3] M
def Op12 (I : Mem → Prop) (x o : Nat) : Prop := ∀ (M : Mem) (a1 : Int32), I M → OpP I x o 128 206 [.int a1] M
def Op13 (I : Mem → Prop) (x o : Nat) : Prop := ∀ (M : Mem), I M → OpP I x o 129 209 [] M
def Op14 (I : Mem → Prop) (x o : Nat) : Prop := ∀ (M : Mem), I M → OpP I x o 130 235 [] M
def Op15 (I : Mem → Prop) (x o : Nat) : Prop := ∀ (M : Mem) (a1 : Int32) (a2 : Int32), I M → OpP I x o 131 211 [.int a1, .int a2] M
def Op16 (I : Mem → Prop) (x o : Nat) : Prop := ∀ (M : Mem) (a1 : Int32) (a2 : Int32), I M → OpP I x o 132 212 [.int a1, .int a2] M
def Op17 (I : Mem → Prop) (x o : Nat) : Prop := ∀ (M : Mem) (a1 : Int32), I M → OpP I x o 133 221 [.int a1] M
def Op18 (I : Mem → Prop) (x o : Nat) : Prop := ∀ (M : Mem), I M → OpP I x o 134 222 [] M
def Op19 (I : Mem → Prop) (x o : Nat) : Prop := ∀ (M : Mem) (a1 : Int32) (a2 : Int32), I M → OpP I x o 135 224 [.int a1, .int a2] M
def Op20 (I : Mem → Prop) (x o : Nat) : Prop := ∀ (M : Mem) (a1 : Int32), I M → OpP I x o 136 226 [.int a1] M
def Op22 (I : Mem → Prop) (x o : Nat) : Prop := ∀ (M : Mem) (a1 : Int32) (a2 : Int32) (a3 : Int32), I M → OpP I x o 138 230 [.int a1, .int a2, .int a3] M
def Op23 (I : Mem → Prop) (x o : Nat) : Prop := ∀ (M : Mem) (a1 : Int32) (a2 : Int32), I M → OpP I x o 139 231 [.int a1, .int a2] M
def Op24 (I : Mem → Prop) (x o : Nat) : Prop := ∀ (M : Mem) (a1 : Int32), I M → OpP I x o 140 232 [.int a1] M
def Op25 (I : Mem → Prop) (x o : Nat) : Prop := ∀ (M : Mem), I M → OpP I x o 141 234 [] M
def Op26 (I : Mem → Prop) (x o : Nat) : Prop := ∀ (M : Mem) (a1 : Int32) (a2 : Int32) (a3 : Int32) (a4 : Int32) (a5 : Int32), I M → OpP I x o 142 239 [.int a1, .int a2, .int a3, .int a4, .int a5] M
def Op27 (I : Mem → Prop) (x o : Nat) : Prop := ∀ (M : Mem) (a1 : Int32), I M → OpP I x o 143 240 [.int a1] M
def Op28 (I : Mem → Prop) (x o : Nat) : Prop := ∀ (M : Mem), I M → OpP I x o 144 253 [] M
def Op29 (I : Mem → Prop) (x o : Nat) : Prop := ∀ (M : Mem) (a1 : Int32), I M → OpP I x o 145 254 [.int a1] M
def Op30 (I : Mem → Prop) (x o : Nat) : Prop := ∀ (M : Mem) (a1 : Int32) (a2 : Int32), I M → OpP I x o 146 256 [.int a1, .int a2] M
def Op31 (I : Mem → Prop) (x o : Nat) : Prop := ∀ (M : Mem) (a1 : Int32) (a2 : Int32) (a3 : Int32), I M → OpP I x o 147 259 [.int a1, .int a2, .int a3] M
def Op32 (I : Mem → Prop) (x o : Nat) : Prop := ∀ (M : Mem) (a1 : Int32) (a2 : Int32), I M → OpP I x o 148 236 [.int a1, .int a2] M
def Op33 (I : Mem → Prop) (x o : Nat) : Prop := ∀ (M : Mem) (a1 : Int32) (a2 : Int32) (a3 : Int32) (a4 : Int32), I M → OpP I x o 149 261 [.int a1, .int a2, .int a3, .int a4] M
def Op34 (I : Mem → Prop) (x o : Nat) : Prop := ∀ (M : Mem) (a1 : Int32) (a2 : Int32), I M → OpP I x o 150 262 [.int a1, .int a2] M
def Op35 (I : Mem → Prop) (x o : Nat) : Prop := ∀ (M : Mem) (a1 : Int32) (a2 : Int32), I M → OpP I x o 151 266 [.int a1, .int a2] M
def Op36 (I : Mem → Prop) (x o : Nat) : Prop := ∀ (M : Mem) (a1 : Int32), I M → OpP I x o 152 267 [.int a1] M
def Op37 (I : Mem → Prop) (x o : Nat) : Prop := ∀ (M : Mem) (a1 : Int32) (a2 : Int32), I M → OpP I x o 153 268 [.int a1, .int a2] M
def Op38 (I : Mem → Prop) (x o : Nat) : Prop := ∀ (M : Mem) (a1 : Int32) (a2 : Int32), I M → OpP I x o 154 269 [.int a1, .int a2] M
def Op39 (I : Mem → Prop) (x o : Nat) : Prop := ∀ (M : Mem) (a1 : Int32) (a2 : Int64), I M → OpP I x o 155 271 [.int a1, .long a2] M
def Op40 (I : Mem → Prop) (x o : Nat) : Prop := ∀ (M : Mem) (a1 : Int32), I M → OpP I x o 156 273 [.int a1] M
def Op41 (I : Mem → Prop) (x o : Nat) : Prop := ∀ (M : Mem) (a1 : Int32) (a2 : Int32) (a3 : Int32), I M → OpP I x o 157 274 [.int a1, .int a2, .int a3] M
def Op42 (I : Mem → Prop) (x o : Nat) : Prop := ∀ (M : Mem) (a1 : Int32), I M → OpP I x o 158 275 [.int a1] M
def Op21 (I : Mem → Prop) (x o u : Nat) : Prop := ∀ (M : Mem) (z w : Int32), I M → OpA I x o u z w M
def Ops (I : Mem → Prop) (x o u : Nat) : Prop := Op0 I x o ∧ Op1 I x o ∧ Op2 I x o ∧ Op3 I x o ∧ Op4 I x o ∧ Op5 I x o ∧ Op6 I x o ∧ Op7 I x o ∧ Op8 I x o ∧ Op9 I x o ∧ Op10 I x o ∧ Op11 I x o ∧ Op12 I x o ∧ Op13 I x o ∧ Op14 I x o ∧ Op15 I x o ∧ Op16 I x o ∧ Op17 I x o ∧ Op18 I x o ∧ Op19 I x o ∧ Op20 I x o ∧ Op21 I x o u ∧ Op22 I x o ∧ Op23 I x o ∧ Op24 I x o ∧ Op25 I x o ∧ Op26 I x o ∧ Op27 I x o ∧ Op28 I x o ∧ Op29 I x o ∧ Op30 I x o ∧ Op31 I x o ∧ Op32 I x o ∧ Op33 I x o ∧ Op34 I x o ∧ Op35 I x o ∧ Op36 I x o ∧ Op37 I x o ∧ Op38 I x o ∧ Op39 I x o ∧ Op40 I x o ∧ Op41 I x o ∧ Op42 I x o
def IOk (I : Mem → Prop) (x o u : Nat) (sc : Nat × Nat × (Nat → Int32)) : Prop := ∀ M, I M → ob M x 11 ∧ ob M o 12 ∧ ob M u 16 ∧ mN M u = 1 ∧ mSc M = sc
theorem sc_b {M : Mem} {b L : Nat} {xs : Nat → Int32} (h : mSc M = (b, L, xs)) : b = mSb M := (congrArg (fun z => z.1) h).symm
theorem sc_l {M : Mem} {b L : Nat} {xs : Nat → Int32} (h : mSc M = (b, L, xs)) : mSl M = L := congrArg (fun z => z.2.1) h
theorem sc_s {M : Mem} {b L : Nat} {xs : Nat → Int32} (h : mSc M = (b, L, xs)) : mSx M = xs := congrArg (fun z => z.2.2) h
theorem lg_self {x y : Int64} (h : x = y) : lg_cmp x y = 0 := by
  subst h
  unfold lg_cmp
  rw [if_neg (by simp), if_pos rfl]
theorem b63 (x : Int32) : 0 ≤ x &&& 63 := by
  obtain ⟨j, hj, e⟩ := pk_andE x (m := 63) 6 (by decide)
  rw [e]
  exact nI_pos' (by omega)
theorem sc_e (t : Nat) : nI (6 * t) = nI (6 * t) := rfl
theorem sc_v {M : Mem} {b L t : Nat} {xs : Nat → Int32} (h : mSc M = (b, L, xs)) (hin : 6 * t + 6 ≤ L ∧ L ≤ 3072) : vp_in (nI (6 * t)) (mSl M) := by rw [sc_l h, sc_e]; exact vp_in_nI (by omega) (by omega)
theorem sc_x {M : Mem} {b L t : Nat} {xs : Nat → Int32} (h : mSc M = (b, L, xs)) (hin : 6 * t + 6 ≤ L ∧ L ≤ 3072) (hL : L ≤ 3072) : mSx M (nI (6 * t)).toNatClampNeg = xs (6 * t) := by rw [sc_s h, sc_e, nI_clamp (by omega)]
theorem sc_e1 (t : Nat) : nI (6 * t) + 1 = nI (6 * t + 1) := by rw [show (1 : Int32) = nI 1 from rfl, nI_add]
theorem sc_v1 {M : Mem} {b L t : Nat} {xs : Nat → Int32} (h : mSc M = (b, L, xs)) (hin : 6 * t + 6 ≤ L ∧ L ≤ 3072) : vp_in (nI (6 * t) + 1) (mSl M) := by rw [sc_l h, sc_e1]; exact vp_in_nI (by omega) (by omega)
theorem sc_x1 {M : Mem} {b L t : Nat} {xs : Nat → Int32} (h : mSc M = (b, L, xs)) (hin : 6 * t + 6 ≤ L ∧ L ≤ 3072) (hL : L ≤ 3072) : mSx M (nI (6 * t) + 1).toNatClampNeg = xs (6 * t + 1) := by rw [sc_s h, sc_e1, nI_clamp (by omega)]
theorem sc_e2 (t : Nat) : nI (6 * t) + 2 = nI (6 * t + 2) := by rw [show (2 : Int32) = nI 2 from rfl, nI_add]
theorem sc_v2 {M : Mem} {b L t : Nat} {xs : Nat → Int32} (h : mSc M = (b, L, xs)) (hin : 6 * t + 6 ≤ L ∧ L ≤ 3072) : vp_in (nI (6 * t) + 2) (mSl M) := by rw [sc_l h, sc_e2]; exact vp_in_nI (by omega) (by omega)
theorem sc_x2 {M : Mem} {b L t : Nat} {xs : Nat → Int32} (h : mSc M = (b, L, xs)) (hin : 6 * t + 6 ≤ L ∧ L ≤ 3072) (hL : L ≤ 3072) : mSx M (nI (6 * t) + 2).toNatClampNeg = xs (6 * t + 2) := by rw [sc_s h, sc_e2, nI_clamp (by omega)]
theorem sc_e3 (t : Nat) : nI (6 * t) + 3 = nI (6 * t + 3) := by rw [show (3 : Int32) = nI 3 from rfl, nI_add]
theorem sc_v3 {M : Mem} {b L t : Nat} {xs : Nat → Int32} (h : mSc M = (b, L, xs)) (hin : 6 * t + 6 ≤ L ∧ L ≤ 3072) : vp_in (nI (6 * t) + 3) (mSl M) := by rw [sc_l h, sc_e3]; exact vp_in_nI (by omega) (by omega)
theorem sc_x3 {M : Mem} {b L t : Nat} {xs : Nat → Int32} (h : mSc M = (b, L, xs)) (hin : 6 * t + 6 ≤ L ∧ L ≤ 3072) (hL : L ≤ 3072) : mSx M (nI (6 * t) + 3).toNatClampNeg = xs (6 * t + 3) := by rw [sc_s h, sc_e3, nI_clamp (by omega)]
theorem sc_e4 (t : Nat) : nI (6 * t) + 4 = nI (6 * t + 4) := by rw [show (4 : Int32) = nI 4 from rfl, nI_add]
theorem sc_v4 {M : Mem} {b L t : Nat} {xs : Nat → Int32} (h : mSc M = (b, L, xs)) (hin : 6 * t + 6 ≤ L ∧ L ≤ 3072) : vp_in (nI (6 * t) + 4) (mSl M) := by rw [sc_l h, sc_e4]; exact vp_in_nI (by omega) (by omega)
theorem sc_x4 {M : Mem} {b L t : Nat} {xs : Nat → Int32} (h : mSc M = (b, L, xs)) (hin : 6 * t + 6 ≤ L ∧ L ≤ 3072) (hL : L ≤ 3072) : mSx M (nI (6 * t) + 4).toNatClampNeg = xs (6 * t + 4) := by rw [sc_s h, sc_e4, nI_clamp (by omega)]
theorem sc_e5 (t : Nat) : nI (6 * t) + 5 = nI (6 * t + 5) := by rw [show (5 : Int32) = nI 5 from rfl, nI_add]
theorem sc_v5 {M : Mem} {b L t : Nat} {xs : Nat → Int32} (h : mSc M = (b, L, xs)) (hin : 6 * t + 6 ≤ L ∧ L ≤ 3072) : vp_in (nI (6 * t) + 5) (mSl M) := by rw [sc_l h, sc_e5]; exact vp_in_nI (by omega) (by omega)
theorem sc_x5 {M : Mem} {b L t : Nat} {xs : Nat → Int32} (h : mSc M = (b, L, xs)) (hin : 6 * t + 6 ≤ L ∧ L ≤ 3072) (hL : L ≤ 3072) : mSx M (nI (6 * t) + 5).toNatClampNeg = xs (6 * t + 5) := by rw [sc_s h, sc_e5, nI_clamp (by omega)]
theorem sc_gt {M : Mem} {b L t : Nat} {xs : Nat → Int32} (h : mSc M = (b, L, xs)) (hL : L ≤ 3072) (ht : t ≤ 512) : (nI (mSl M) - 6 < nI (6 * t)) ↔ L < 6 * t + 6 := by
  rw [sc_l h, i32_lt, nI_toInt (by omega), show (6 : Int32) = nI 6 from rfl, pk_sub_toInt (by omega) (by omega)]
  omega
set_option maxRecDepth 100000 in
theorem s_Mo_thrown {d : Nat} {M : Mem} {o : Nat} {R : Option Value → Mem → Prop} (ho : ob M o 12) (h : R (some (.int (mI M o 0))) M) : Call d 186 [.ref o] M R := by
  show Go d 186 0 0 0 [.ref o] [] M R
  refine go_blk 2 [] (pc' := 4) (vs' := [.ref o]) (st' := [.int (mI M o 0)]) (M' := M) (ps := [ob M o 12]) rfl ⟨ho, trivial⟩ ?_
  exact go_iret rfl rfl h
