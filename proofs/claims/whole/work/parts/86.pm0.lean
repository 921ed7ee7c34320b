/-! sets of jobs as numbers, rows as seven octal digits -/
def mkN : List Nat → Nat
  | [] => 0
  | k :: w => 2 ^ k ||| mkN w
theorem mkN_tb : ∀ (w : List Nat) (i : Nat), (mkN w).testBit i = decide (i ∈ w)
  | [], i => by simp [mkN]
  | k :: w, i => by
    rw [mkN, Nat.testBit_or, Nat.testBit_two_pow, mkN_tb w i]
    by_cases h : k = i
    · simp [h]
    · simp [h, Ne.symm h]
theorem mkN_app (w : List Nat) (k : Nat) : mkN (w ++ [k]) = mkN w ||| 2 ^ k := by
  apply Nat.eq_of_testBit_eq
  intro i
  rw [mkN_tb, Nat.testBit_or, mkN_tb, Nat.testBit_two_pow]
  by_cases h : k = i
  · simp [h]
  · simp [h, Ne.symm h]
theorem mkN_lt {n : Nat} : ∀ {w : List Nat}, (∀ k ∈ w, k < n) → mkN w < 2 ^ n
  | [], _ => Nat.two_pow_pos n
  | k :: w, h => by
    rw [mkN]
    exact Nat.or_lt_two_pow (Nat.pow_lt_pow_right (by decide) (h k (List.mem_cons_self ..))) (mkN_lt (fun x hx => h x (List.mem_cons_of_mem _ hx)))
theorem mkN_mem {x y : List Nat} (h : mkN x = mkN y) (i : Nat) : i ∈ x ↔ i ∈ y := by
  have := mkN_tb x i
  rw [h, mkN_tb y i] at this
  simpa using this.symm
theorem mkN_perm {x y : List Nat} (hx : x.Nodup) (hy : y.Nodup) (h : mkN x = mkN y) : x.Perm y := (List.perm_ext_iff_of_nodup hx hy).mpr (fun i => mkN_mem h i)
theorem mkN_of_perm {x y : List Nat} (h : x.Perm y) : mkN x = mkN y := by
  apply Nat.eq_of_testBit_eq
  intro i
  rw [mkN_tb, mkN_tb]
  simp [h.mem_iff]
theorem mkN_0 {x : List Nat} : mkN x = 0 ↔ x = [] := by
  constructor
  · intro h
    cases x with
    | nil => rfl
    | cons k w =>
      have := mkN_tb (k :: w) k
      rw [h] at this
      simp at this
  · rintro rfl; rfl
theorem mkN_pos {x : List Nat} (h : ¬ x = []) : 0 < mkN x := Nat.pos_of_ne_zero (fun z => h (mkN_0.mp z))
/-- what of a is not in b -/
def dfN (a b : Nat) : Nat := a ^^^ (a &&& b)
theorem dfN_tb (a b i : Nat) : (dfN a b).testBit i = (a.testBit i && !b.testBit i) := by
  unfold dfN
  rw [Nat.testBit_xor, Nat.testBit_and]
  cases a.testBit i <;> cases b.testBit i <;> rfl
theorem dfN_lt {a b n : Nat} (h : a < 2 ^ n) : dfN a b < 2 ^ n := by
  unfold dfN
  exact Nat.xor_lt_two_pow h (by rw [Nat.and_comm]; exact Nat.and_lt_two_pow _ h)
theorem nI_bv (a : Nat) : (nI a).toBitVec = BitVec.ofNat 32 a := rfl
theorem i32_bv {x y : Int32} (h : x.toBitVec = y.toBitVec) : x = y := Int32.toBitVec_inj.mp h
theorem nI_or (a b : Nat) : nI a ||| nI b = nI (a ||| b) := i32_bv (by rw [Int32.toBitVec_or, nI_bv, nI_bv, nI_bv, BitVec.ofNat_or])
theorem nI_and (a b : Nat) : nI a &&& nI b = nI (a &&& b) := i32_bv (by rw [Int32.toBitVec_and, nI_bv, nI_bv, nI_bv, BitVec.ofNat_and])
theorem nI_df {a b : Nat} (ha : a < 2 ^ 31) : nI a &&& (nI b ^^^ (-1)) = nI (dfN a b) := by
  apply i32_bv
  rw [Int32.toBitVec_and, Int32.toBitVec_xor, nI_bv, nI_bv, nI_bv]
  apply BitVec.eq_of_getLsbD_eq
  intro i hi
  rw [BitVec.getLsbD_and, BitVec.getLsbD_xor, BitVec.getLsbD_ofNat, BitVec.getLsbD_ofNat, BitVec.getLsbD_ofNat, dfN_tb]
  have e : (-1 : Int32).toBitVec.getLsbD i = decide (i < 32) := by
    rw [show (-1 : Int32).toBitVec = BitVec.allOnes 32 from by decide, BitVec.getLsbD_allOnes]
  rw [e]
  simp [hi]
theorem nI_sh1 : ∀ k, k < 8 → (1 : Int32) <<< (nI k &&& 31) = nI (2 ^ k) := by decide +kernel
theorem nI_sh7 : ∀ m, m < 7 → (7 : Int32) <<< ((3 * (6 - nI m)) &&& 31) = nI (7 * 2 ^ (3 * (6 - m))) := by decide +kernel
theorem nI_shk : ∀ m, m < 7 → ∀ k, k < 7 → nI k <<< ((3 * (6 - nI m)) &&& 31) = nI (k * 2 ^ (3 * (6 - m))) := by decide +kernel
/-- a row in n octal digits, 7 its end -/
def octD : Nat → List Nat → Nat
  | 0, _ => 0
  | n + 1, w => w.headD 7 * 8 ^ n + octD n w.tail
theorem octD_nil : ∀ n, octD n [] = 8 ^ n - 1
  | 0 => rfl
  | n + 1 => by
    show 7 * 8 ^ n + octD n [] = 8 ^ (n + 1) - 1
    rw [octD_nil n, Nat.pow_succ]
    have := Nat.pow_pos (n := n) (show 0 < 8 by decide)
    omega
theorem octD_cons (n c : Nat) (w : List Nat) : octD (n + 1) (c :: w) = c * 8 ^ n + octD n w := rfl
theorem octD_lt : ∀ {n : Nat} {w : List Nat}, (∀ x ∈ w, x ≤ 7) → octD n w < 8 ^ n
  | 0, _, _ => by simp [octD]
  | n + 1, [], _ => by
    rw [octD_nil]
    have := Nat.pow_pos (n := n + 1) (show 0 < 8 by decide)
    omega
  | n + 1, c :: w, h => by
    rw [octD_cons, Nat.pow_succ]
    have h1 := octD_lt (n := n) (w := w) (fun x hx => h x (List.mem_cons_of_mem _ hx))
    have h2 : c * 8 ^ n ≤ 7 * 8 ^ n := Nat.mul_le_mul_right _ (h c (List.mem_cons_self ..))
    omega
/-- the digits themselves -/
def hiN : List Nat → Nat
  | [] => 0
  | c :: w => c * 8 ^ w.length + hiN w
theorem hiN_app : ∀ (w : List Nat) (k : Nat), hiN (w ++ [k]) = hiN w * 8 + k
  | [], k => by simp [hiN]
  | c :: w, k => by
    show c * 8 ^ (w ++ [k]).length + hiN (w ++ [k]) = (c * 8 ^ w.length + hiN w) * 8 + k
    rw [hiN_app w k, List.length_append, List.length_singleton, Nat.pow_succ, Nat.add_mul, ← Nat.mul_assoc]
    omega
theorem octD_hi : ∀ {n : Nat} {w : List Nat}, w.length ≤ n → octD n w = 8 ^ (n - w.length) * hiN w + (8 ^ (n - w.length) - 1)
  | n, [], _ => by rw [octD_nil]; simp [hiN]
  | 0, c :: w, h => by simp at h
  | n + 1, c :: w, h => by
    have hl : w.length ≤ n := by simpa using h
    rw [octD_cons, octD_hi hl, List.length_cons, show n + 1 - (w.length + 1) = n - w.length by omega]
    show c * 8 ^ n + (8 ^ (n - w.length) * hiN w + (8 ^ (n - w.length) - 1)) = 8 ^ (n - w.length) * (c * 8 ^ w.length + hiN w) + (8 ^ (n - w.length) - 1)
    have e : 8 ^ (n - w.length) * (c * 8 ^ w.length) = c * 8 ^ n := by
      rw [Nat.mul_left_comm, ← Nat.pow_add, show n - w.length + w.length = n by omega]
    rw [Nat.mul_add, e, Nat.add_assoc]
theorem octD_le : ∀ {n : Nat} {x y : List Nat}, lexL x y → x.length = y.length → (∀ z ∈ x, z ≤ 7) → (∀ z ∈ y, z ≤ 7) → octD n x ≤ octD n y
  | 0, _, _, _, _, _, _ => Nat.le_refl _
  | n + 1, [], [], _, _, _, _ => Nat.le_refl _
  | n + 1, [], _ :: _, _, h, _, _ => by simp at h
  | n + 1, _ :: _, [], h, _, _, _ => h.elim
  | n + 1, c :: x, d :: y, h, hl, hx, hy => by
    rw [octD_cons, octD_cons]
    rcases h with h | h
    · have h1 := octD_lt (n := n) (w := x) (fun z hz => hx z (List.mem_cons_of_mem _ hz))
      have h2 : (c + 1) * 8 ^ n ≤ d * 8 ^ n := Nat.mul_le_mul_right _ h
      rw [Nat.add_mul] at h2
      omega
    · have := octD_le (n := n) h.2 (by simpa using hl) (fun z hz => hx z (List.mem_cons_of_mem _ hz)) (fun z hz => hy z (List.mem_cons_of_mem _ hz))
      rw [h.1]
      omega
theorem octD_inj : ∀ {n : Nat} {x y : List Nat}, x.length ≤ n → y.length ≤ n → (∀ z ∈ x, z < 7) → (∀ z ∈ y, z < 7) → octD n x = octD n y → x = y
  | 0, [], [], _, _, _, _, _ => rfl
  | 0, _ :: _, _, h, _, _, _, _ => by simp at h
  | 0, [], _ :: _, _, h, _, _, _ => by simp at h
  | n + 1, [], [], _, _, _, _, _ => rfl
  | n + 1, [], d :: y, _, _, _, hy, e => by
    exfalso
    rw [octD_nil, octD_cons, Nat.pow_succ] at e
    have h1 := octD_lt (n := n) (w := y) (fun z hz => by have := hy z (List.mem_cons_of_mem _ hz); omega)
    have h2 : d * 8 ^ n ≤ 6 * 8 ^ n := Nat.mul_le_mul_right _ (by have := hy d (List.mem_cons_self ..); omega)
    omega
  | n + 1, c :: x, [], _, _, hx, _, e => by
    exfalso
    rw [octD_nil, octD_cons, Nat.pow_succ] at e
    have h1 := octD_lt (n := n) (w := x) (fun z hz => by have := hx z (List.mem_cons_of_mem _ hz); omega)
    have h2 : c * 8 ^ n ≤ 6 * 8 ^ n := Nat.mul_le_mul_right _ (by have := hx c (List.mem_cons_self ..); omega)
    omega
  | n + 1, c :: x, d :: y, hx1, hy1, hx, hy, e => by
    rw [octD_cons, octD_cons] at e
    have h1 := octD_lt (n := n) (w := x) (fun z hz => by have := hx z (List.mem_cons_of_mem _ hz); omega)
    have h2 := octD_lt (n := n) (w := y) (fun z hz => by have := hy z (List.mem_cons_of_mem _ hz); omega)
    have hcd : c = d := by
      rcases Nat.lt_trichotomy c d with z | z | z
      · have : (c + 1) * 8 ^ n ≤ d * 8 ^ n := Nat.mul_le_mul_right _ z
        rw [Nat.add_mul] at this; omega
      · exact z
      · have : (d + 1) * 8 ^ n ≤ c * 8 ^ n := Nat.mul_le_mul_right _ z
        rw [Nat.add_mul] at this; omega
    rw [hcd] at e ⊢
    rw [octD_inj (n := n) (by simpa using hx1) (by simpa using hy1) (fun z hz => hx z (List.mem_cons_of_mem _ hz)) (fun z hz => hy z (List.mem_cons_of_mem _ hz)) (by omega)]
theorem octD_lex : ∀ {n : Nat} {x y u v : List Nat}, x.length ≤ n → y.length ≤ n → (∀ z ∈ x, z < 7) → (∀ z ∈ y, z < 7) → octD n x < octD n y → lexL (x ++ 7 :: u) (y ++ 7 :: v)
  | 0, _, _, _, _, _, _, _, _, e => by simp [octD] at e
  | n + 1, [], [], _, _, _, _, _, _, e => by omega
  | n + 1, [], d :: y, u, v, _, _, _, hy, e => by
    exfalso
    rw [octD_nil, octD_cons, Nat.pow_succ] at e
    have h1 := octD_lt (n := n) (w := y) (fun z hz => by have := hy z (List.mem_cons_of_mem _ hz); omega)
    have h2 : d * 8 ^ n ≤ 6 * 8 ^ n := Nat.mul_le_mul_right _ (by have := hy d (List.mem_cons_self ..); omega)
    omega
  | n + 1, c :: x, [], u, v, _, _, hx, _, _ => Or.inl (hx c (List.mem_cons_self ..))
  | n + 1, c :: x, d :: y, u, v, hx1, hy1, hx, hy, e => by
    rw [octD_cons, octD_cons] at e
    have h2 := octD_lt (n := n) (w := y) (fun z hz => by have := hy z (List.mem_cons_of_mem _ hz); omega)
    rcases Nat.lt_trichotomy c d with z | z | z
    · exact Or.inl z
    · refine Or.inr ⟨z, octD_lex (n := n) (by simpa using hx1) (by simpa using hy1) (fun z hz => hx z (List.mem_cons_of_mem _ hz)) (fun z hz => hy z (List.mem_cons_of_mem _ hz)) ?_⟩
      rw [z] at e; omega
    · exfalso
      have : (d + 1) * 8 ^ n ≤ c * 8 ^ n := Nat.mul_le_mul_right _ z
      rw [Nat.add_mul] at this; omega
theorem octR_D (td : List Nat) : ∀ (n : Nat) (row : List Nat), octR td row n = octD n (row.map td.idxOf)
  | 0, _ => rfl
  | n + 1, [] => by
    show 7 * 8 ^ n + octR td [] n = 7 * 8 ^ n + octD n []
    rw [octR_D td n []]; rfl
  | n + 1, c :: row => by
    show td.idxOf c * 8 ^ n + octR td row n = td.idxOf c * 8 ^ n + octD n (row.map td.idxOf)
    rw [octR_D td n row]
/-- a digit put in -/
theorem pack_nat {s hi k : Nat} (hk : k < 8) : dfN (2 ^ (s + 3) * hi + (2 ^ (s + 3) - 1)) (7 * 2 ^ s) ||| k * 2 ^ s = 2 ^ (s + 3) * hi + (2 ^ s * k + (2 ^ s - 1)) := by
  have p3 := Nat.two_pow_pos (s + 3)
  have ps := Nat.two_pow_pos s
  have e8 : 2 ^ (s + 3) = 8 * 2 ^ s := by rw [Nat.pow_add, Nat.mul_comm]
  have lt : 2 ^ s * k + (2 ^ s - 1) < 2 ^ (s + 3) := by
    have : 2 ^ s * k ≤ 2 ^ s * 7 := Nat.mul_le_mul_left _ (by omega)
    omega
  apply Nat.eq_of_testBit_eq
  intro i
  have k3 : ∀ j, 3 ≤ j → k.testBit j = false := fun j hj => Nat.testBit_lt_two_pow (Nat.lt_of_lt_of_le hk (Nat.pow_le_pow_right (n := 2) (by decide) hj))
  rw [Nat.testBit_or, dfN_tb, Nat.testBit_two_pow_mul_add _ (by omega), Nat.testBit_two_pow_mul_add _ lt, Nat.testBit_two_pow_mul_add _ (by omega), Nat.testBit_two_pow_sub_one, Nat.testBit_two_pow_sub_one]
  have m7 : (7 * 2 ^ s).testBit i = (decide (s ≤ i) && (7 : Nat).testBit (i - s)) := by
    rw [Nat.mul_comm]; exact Nat.testBit_two_pow_mul
  have mk : (k * 2 ^ s).testBit i = (decide (s ≤ i) && k.testBit (i - s)) := by
    rw [Nat.mul_comm]; exact Nat.testBit_two_pow_mul
  rw [m7, mk]
  have b7 : ∀ j, (7 : Nat).testBit j = decide (j < 3) := fun j => by
    rw [show (7 : Nat) = 2 ^ 3 - 1 from rfl]; exact Nat.testBit_two_pow_sub_one 3 j
  rw [b7]
  by_cases h1 : i < s
  · rw [if_pos (by omega), if_pos (by omega), if_pos h1]
    simp [show ¬ s ≤ i by omega, show i < s + 3 by omega, h1]
  · by_cases h2 : i < s + 3
    · rw [if_pos h2, if_pos h2, if_neg h1]
      simp [show s ≤ i by omega, h2, show i - s < 3 by omega]
    · rw [if_neg h2, if_neg h2, k3 (i - s) (by omega)]
      simp [show s ≤ i by omega, show ¬ i - s < 3 by omega]
theorem pack_snoc {w : List Nat} {k : Nat} (hl : w.length < 7) (hk : k < 7) : dfN (octD 7 w) (7 * 2 ^ (3 * (6 - w.length))) ||| k * 2 ^ (3 * (6 - w.length)) = octD 7 (w ++ [k]) := by
  have e8 : ∀ n, 8 ^ n = 2 ^ (3 * n) := fun n => by rw [show (8 : Nat) = 2 ^ 3 from rfl, ← Nat.pow_mul]
  rw [octD_hi (by omega), octD_hi (by simp; omega), List.length_append, List.length_singleton, hiN_app, e8, e8, show 3 * (7 - w.length) = 3 * (6 - w.length) + 3 by omega, pack_nat (by omega), show 7 - (w.length + 1) = 6 - w.length by omega]
  rw [Nat.pow_add, Nat.mul_add, Nat.mul_assoc]
  rw [show (2 : Nat) ^ 3 = 8 from rfl, Nat.mul_comm (hiN w) 8, Nat.add_assoc]
theorem pack_i32 {w : List Nat} {k : Nat} (hl : w.length < 7) (hk : k < 7) (hw : ∀ x ∈ w, x ≤ 7) : (nI (octD 7 w) &&& ((7 : Int32) <<< ((3 * (6 - nI w.length)) &&& 31) ^^^ (-1))) ||| nI k <<< ((3 * (6 - nI w.length)) &&& 31) = nI (octD 7 (w ++ [k])) := by
  have lt := octD_lt (n := 7) hw
  rw [nI_sh7 _ hl, nI_shk _ hl _ hk, nI_df (by omega), nI_or, pack_snoc hl hk]
