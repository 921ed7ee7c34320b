/-! the world's addresses: ad tag index, all apart; memory with its ints and longs named -/
def mm (M : Mem) (f : Nat → Nat → Int32) (g : Nat → Nat → Int64) : Mem := (mL M, mK M, mN M, f, g, mR M, mSb M, mSl M, mSx M)
theorem mm_self (M : Mem) : mm M (mI M) (mJ M) = M := rfl
def Inj (ad : Nat → Nat → Nat) : Prop := ∀ i j i' j', ad i j = ad i' j' → i = i' ∧ j = j'
theorem Inj.iff {ad : Nat → Nat → Nat} (h : Inj ad) (i j i' j' : Nat) : ad i j = ad i' j' ↔ i = i' ∧ j = j' := ⟨h i j i' j', fun q => by rw [q.1, q.2]⟩
/-- the fixed cells of the class (tag 0): kinds and lengths -/
def fxL : List (Nat × Nat) := [(11, 0), (18, 7), (17, 60), (20, 3), (17, 364), (19, 7), (5, 0), (6, 0), (4, 0), (1, 0), (10, 0),
  (18, 7), (13, 7), (17, 7), (15, 7), (15, 7),
  (7, 0), (19, 7), (15, 7), (16, 384), (15, 384), (15, 8), (15, 8), (15, 8), (15, 8), (16, 8), (15, 3584), (15, 3584), (16, 3584), (15, 896), (15, 3),
  (15, 64), (15, 120), (15, 120), (15, 180), (15, 3), (21, 20), (15, 3000), (19, 3000), (15, 3000), (16, 1)]
def fxK (i : Nat) : Nat := (fxL.getD i (0, 0)).1
def fxN (i : Nat) : Nat := (fxL.getD i (0, 0)).2
def fxR : List (Nat × Nat × Nat) := [(0, 0, 1), (0, 2, 2), (0, 4, 3), (0, 10, 4), (0, 11, 5), (0, 13, 6), (0, 14, 7), (0, 15, 8), (0, 16, 9), (0, 17, 10),
  (6, 0, 11), (6, 1, 12), (6, 3, 13), (6, 5, 14), (6, 6, 15),
  (7, 0, 16), (7, 1, 17), (7, 3, 18), (7, 5, 19), (7, 6, 20), (7, 7, 21), (7, 8, 22), (7, 9, 23), (7, 10, 24), (7, 11, 25), (7, 12, 26), (7, 13, 27), (7, 14, 28), (7, 15, 29), (7, 18, 30),
  (16, 0, 31), (9, 0, 32), (9, 1, 33), (9, 3, 34), (9, 5, 35), (10, 1, 36), (10, 3, 37), (10, 4, 38), (10, 5, 39)]
def Fx (M : Mem) (ad : Nat → Nat → Nat) : Prop := (∀ i, i < 41 → ob M (ad 0 i) (fxK i) ∧ mN M (ad 0 i) = fxN i) ∧ ∀ q ∈ fxR, mR M (ad 0 q.1) q.2.1 = some (ad 0 q.2.2)
theorem Fx.o {M : Mem} {ad : Nat → Nat → Nat} (h : Fx M ad) (i : Nat) (hi : i < 41 := by decide) : ob M (ad 0 i) (fxK i) := (h.1 i hi).1
theorem Fx.n {M : Mem} {ad : Nat → Nat → Nat} (h : Fx M ad) (i : Nat) (hi : i < 41 := by decide) : mN M (ad 0 i) = fxN i := (h.1 i hi).2
theorem Fx.r {M : Mem} {ad : Nat → Nat → Nat} (h : Fx M ad) (i j k : Nat) (hq : (i, j, k) ∈ fxR := by decide) : mR M (ad 0 i) j = some (ad 0 k) := h.2 (i, j, k) hq
/-- the model (tag 10: the object; tag 9: its arrays by their fields) -/
def moL : List (Nat × Nat × Nat) := [(1, 15, 7), (2, 15, 7), (3, 15, 7), (4, 13, 7), (5, 13, 364), (6, 15, 60), (7, 15, 60), (8, 15, 60), (9, 15, 60), (10, 15, 60), (11, 15, 60), (12, 15, 60), (13, 15, 60), (14, 13, 60), (15, 13, 60), (16, 13, 60), (22, 15, 60), (23, 15, 60), (24, 13, 7), (28, 15, 3), (29, 15, 64), (32, 13, 364), (33, 15, 364), (34, 15, 364), (35, 15, 364), (36, 15, 364), (37, 15, 364), (38, 15, 364), (39, 15, 364), (40, 15, 364), (41, 15, 364), (42, 15, 364), (43, 15, 364), (44, 15, 3), (45, 15, 3), (46, 15, 3), (47, 15, 3), (48, 15, 3), (49, 15, 3), (50, 15, 21), (51, 15, 3), (53, 15, 21), (54, 15, 3), (55, 15, 21), (56, 15, 3), (57, 13, 7), (72, 15, 15000), (75, 14, 120), (76, 14, 2400), (77, 15, 20), (78, 15, 20), (79, 15, 20), (91, 15, 600), (92, 15, 600), (93, 15, 1800), (94, 15, 3), (97, 15, 12)]
def Mx (M : Mem) (ad : Nat → Nat → Nat) : Prop := ob M (ad 10 0) 12 ∧ ∀ q ∈ moL, mR M (ad 10 0) q.1 = some (ad 9 q.1) ∧ ob M (ad 9 q.1) q.2.1 ∧ mN M (ad 9 q.1) = q.2.2
theorem Mx.r {M : Mem} {ad : Nat → Nat → Nat} (h : Mx M ad) (j t n : Nat) (hq : (j, t, n) ∈ moL := by decide) : mR M (ad 10 0) j = some (ad 9 j) := (h.2 (j, t, n) hq).1
theorem Mx.o {M : Mem} {ad : Nat → Nat → Nat} (h : Mx M ad) (j t n : Nat) (hq : (j, t, n) ∈ moL := by decide) : ob M (ad 9 j) t := (h.2 (j, t, n) hq).2.1
theorem Mx.n {M : Mem} {ad : Nat → Nat → Nat} (h : Mx M ad) (j t n : Nat) (hq : (j, t, n) ∈ moL := by decide) : mN M (ad 9 j) = n := (h.2 (j, t, n) hq).2.2
theorem vpi {x N i : Nat} (h : x = N) (hi : i < N) (hN : N < 2 ^ 31 := by decide) : vp_in (nI i) x := by rw [h]; exact vp_in_nI hi hN
theorem ne_i {x : Int32} : some (Value.int x) ≠ some (.retAddr 7) := fun h => by cases h
theorem ne_l {x : Int64} : some (Value.long x) ≠ some (.retAddr 7) := fun h => by cases h
theorem ne_r {q : Option Nat} : some (va_rf q) ≠ some (.retAddr 7) := fun h => by cases q <;> cases h
theorem ne_v : (none : Option Value) ≠ some (.retAddr 7) := fun h => by cases h
/-- a loop that counts up to n -/
theorem up_ind {P : Nat → Prop} (n : Nat) (hn : P n) (hs : ∀ i, i < n → P (i + 1) → P i) : ∀ i, i ≤ n → P i := by
  intro i hi
  obtain ⟨j, hj⟩ : ∃ j, i + j = n := ⟨n - i, by omega⟩
  induction j generalizing i with
  | zero => rw [show i = n by omega]; exact hn
  | succ j ih => exact hs i (by omega) (ih (i + 1) (by omega) (by omega))
theorem ne_a {a : Nat} : some (Value.ref a) ≠ some (.retAddr 7) := fun h => by cases h
theorem ne_0 : some Value.null ≠ some (.retAddr 7) := fun h => by cases h
/-- the class's own objects: cottages (tag 1), bookings (2), teams (3; blames 4, rows 5) -/
def Cs (M : Mem) (ad : Nat → Nat → Nat) (n : Nat) : Prop := ∀ c, c < n → mR M (ad 0 1) c = some (ad 1 c) ∧ ob M (ad 1 c) 2
def Bs (M : Mem) (ad : Nat → Nat → Nat) (n : Nat) : Prop := ∀ b, b < n → mR M (ad 0 2) b = some (ad 2 b) ∧ ob M (ad 2 b) 0
def Ts (M : Mem) (ad : Nat → Nat → Nat) (n : Nat) : Prop := ∀ t, t < n → mR M (ad 0 3) t = some (ad 3 t) ∧ ob M (ad 3 t) 8 ∧ (mR M (ad 3 t) 2 = some (ad 4 t) ∧ ob M (ad 4 t) 15 ∧ mN M (ad 4 t) = 4) ∧ mR M (ad 3 t) 3 = some (ad 5 t) ∧ ob M (ad 5 t) 15 ∧ mN M (ad 5 t) = 7
theorem nI_ti {n : Nat} (h : n < 2 ^ 31) : (nI n).toInt = (n : Int) := nI_toInt h
theorem i32_lt (a b : Int32) : a < b ↔ a.toInt < b.toInt := Int32.lt_iff_toInt_lt
theorem i32_le (a b : Int32) : a ≤ b ↔ a.toInt ≤ b.toInt := Int32.le_iff_toInt_le
theorem sub1_ti {n : Nat} (h : n < 2 ^ 31) : (nI n - 1).toInt = (n : Int) - 1 := by
  cases n with
  | zero => rfl
  | succ n => rw [nI_pred, nI_toInt (by omega)]; omega
theorem in_lt {x : Int32} {n : Nat} (hn : n < 2 ^ 31) : (0 ≤ x ∧ x ≤ nI n - 1) ↔ ∃ j, j < n ∧ x = nI j := by
  constructor
  · rintro ⟨h1, h2⟩
    rw [i32_le, sub1_ti hn] at h2
    rw [i32_le] at h1
    have h0 : (0 : Int32).toInt = 0 := rfl
    rw [h0] at h1
    refine ⟨x.toInt.toNat, by omega, ?_⟩
    apply Int32.toInt_inj.mp
    rw [nI_toInt (by omega)]
    omega
  · rintro ⟨j, hj, rfl⟩
    rw [i32_le, i32_le, sub1_ti hn, nI_toInt (by omega)]
    have h0 : (0 : Int32).toInt = 0 := rfl
    rw [h0]
    omega
theorem in_lt2 {x : Int32} {n : Nat} (hn : n < 2 ^ 31) : (0 ≤ x ∧ x < nI n) ↔ ∃ j, j < n ∧ x = nI j := by
  rw [← in_lt hn, i32_lt, i32_le, i32_le, sub1_ti hn, nI_toInt hn]
  omega
theorem nI_0lt {n : Nat} (h : n < 2 ^ 31) : (0 : Int32) < nI n ↔ 0 < n := by
  rw [i32_lt, nI_toInt h]
  have h0 : (0 : Int32).toInt = 0 := rfl
  rw [h0]
  omega
theorem nI_lts {a b : Nat} (ha : a < 2 ^ 31) (hb : b < 2 ^ 31) : nI a < nI b ↔ a < b := by rw [i32_lt, nI_toInt ha, nI_toInt hb]; omega
theorem nI_les {a b : Nat} (ha : a < 2 ^ 31) (hb : b < 2 ^ 31) : nI a ≤ nI b ↔ a ≤ b := by rw [i32_le, nI_toInt ha, nI_toInt hb]; omega
theorem nI_eqs {a b : Nat} (ha : a < 2 ^ 31) (hb : b < 2 ^ 31) : nI a = nI b ↔ a = b := by rw [← Int32.toInt_inj, nI_toInt ha, nI_toInt hb]; omega
theorem eq_mul {a b : Int32} {x y : Nat} (h1 : a = nI x) (h2 : b = nI y) : a * b = nI (x * y) := by rw [h1, h2, pk_mul]
theorem eq_add {a b : Int32} {x y : Nat} (h1 : a = nI x) (h2 : b = nI y) : a + b = nI (x + y) := by rw [h1, h2, nI_add]
theorem cl_of {a : Int32} {x : Nat} (h : a = nI x) (hx : x < 2 ^ 31) : a.toNatClampNeg = x := by rw [h, nI_clamp hx]
theorem vp_eq {a : Int32} {x n : Nat} (h : a = nI x) (hv : vp_in (nI x) n) : vp_in a n := by rw [h]; exact hv
