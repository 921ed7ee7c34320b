/-! call: feed -/
def bt (x : Int32) (i : Nat) : Bool := x.toBitVec.getLsbD i
theorem b_ext {x y : Int32} (h : ∀ i, i < 32 → bt x i = bt y i) : x = y := Int32.toBitVec_inj.mp (BitVec.eq_of_getLsbD_eq (fun i hi => h i hi))
theorem b_and (x y : Int32) (i : Nat) : bt (x &&& y) i = (bt x i && bt y i) := by unfold bt; rw [Int32.toBitVec_and, BitVec.getLsbD_and]
theorem b_big {x : Int32} {i : Nat} (h : 32 ≤ i) : bt x i = false := BitVec.getLsbD_of_ge _ _ h
theorem b_255 (i : Nat) : bt 255 i = decide (i < 8) := by
  rcases Nat.lt_or_ge i 32 with h | h
  · exact (by decide +kernel : ∀ i, i < 32 → bt 255 i = decide (i < 8)) i h
  · rw [b_big h, decide_eq_false (by omega)]
theorem s_l : ∀ n, n < 32 → ((nI n &&& 31).toBitVec.smod 32).toNat = n := by decide +kernel
theorem s_u : ∀ n, n < 32 → (((nI n).toUInt32 &&& Int32.toUInt32 31).toBitVec % 32).toNat = n := by decide +kernel
theorem b_ushr (n : Nat) (hn : n < 32) (x : Int32) (i : Nat) : bt ((x.toUInt32 >>> ((nI n).toUInt32 &&& Int32.toUInt32 31)).toInt32) i = bt x (n + i) := by
  show (x.toUInt32 >>> ((nI n).toUInt32 &&& Int32.toUInt32 31)).toBitVec.getLsbD i = x.toUInt32.toBitVec.getLsbD (n + i)
  rw [UInt32.toBitVec_shiftRight]
  show (x.toUInt32.toBitVec >>> (((nI n).toUInt32 &&& Int32.toUInt32 31).toBitVec % 32).toNat).getLsbD i = _
  rw [s_u n hn, BitVec.getLsbD_ushiftRight]
theorem b_sshr (n : Nat) (hn : n < 32) (x : Int32) {i : Nat} (hi : i < 32) : bt (x >>> (nI n &&& 31)) i = if n + i < 32 then bt x (n + i) else bt x 31 := by
  unfold bt
  rw [Int32.toBitVec_shiftRight]
  show (x.toBitVec.sshiftRight ((nI n &&& 31).toBitVec.smod 32).toNat).getLsbD i = _
  rw [s_l n hn, BitVec.getLsbD_sshiftRight, BitVec.msb_eq_getLsbD_last]
  simp [hi]
theorem bp_b (x : Int32) : x.toInt8.toInt32 &&& 255 = x &&& 255 := by
  apply Int32.toBitVec_inj.mp
  rw [Int32.toBitVec_and, Int32.toBitVec_and, Int8.toBitVec_toInt32, Int32.toBitVec_toInt8]
  apply BitVec.eq_of_getLsbD_eq
  intro i hi
  rw [BitVec.getLsbD_and, BitVec.getLsbD_and]
  have hm : ∀ i < 32, 8 ≤ i → (255 : Int32).toBitVec.getLsbD i = false := by decide
  rcases Nat.lt_or_ge i 8 with z | z
  · rw [BitVec.getLsbD_signExtend, BitVec.getLsbD_signExtend, if_pos z, if_pos hi]
    simp only [z, hi, decide_true, Bool.true_and]
  · rw [hm i hi z]; simp
/-- the bytes of a number, from a shift on -/
def byt (x s : Int32) : Int32 := (x.toUInt32 >>> (s.toUInt32 &&& Int32.toUInt32 31)).toInt32 &&& 255
def bL (x : Int32) : List Int32 → List Int32
  | [] => []
  | s :: r => if byt x s = 0 then bL x r else byt x s :: bL x r
def bM (x : Int32) : List Int32 → List Int32
  | [] => []
  | s :: r => if (x >>> (s &&& 31)) &&& 255 = 0 then bM x r else (x >>> (s &&& 31)).toInt8.toInt32 :: bM x r
theorem byt_M (x : Int32) {s : Int32} (hs : s ∈ [24, 16, 8, (0 : Int32)]) : (x >>> (s &&& 31)) &&& 255 = byt x s := by
  have key : ∀ n, n ≤ 24 → (x >>> (nI n &&& 31)) &&& 255 = byt x (nI n) := by
    intro n hn
    unfold byt
    apply b_ext
    intro i hi
    rw [b_and, b_and, b_ushr n (by omega), b_sshr n (by omega) x hi, b_255]
    by_cases h8 : i < 8
    · rw [if_pos (by omega)]
    · rw [decide_eq_false h8, Bool.and_false, Bool.and_false]
  simp only [List.mem_cons, List.not_mem_nil, or_false] at hs
  rcases hs with rfl | rfl | rfl | rfl
  · exact key 24 (by omega)
  · exact key 16 (by omega)
  · exact key 8 (by omega)
  · exact key 0 (by omega)
theorem b8_32 : ∀ x : Int32, x.toInt8.toInt32.toInt8.toInt32 = x.toInt8.toInt32 := fun x => by simp
theorem bLM (x : Int32) : ∀ l : List Int32, (∀ s ∈ l, s ∈ [24, 16, 8, (0 : Int32)]) → (bL x l).length = (bM x l).length ∧ ∀ i, i < (bL x l).length → bts ((bL x l).getD i 0) ((bM x l).getD i 0)
  | [], _ => ⟨rfl, fun i hi => absurd hi (Nat.not_lt_zero _)⟩
  | s :: r, h => by
    obtain ⟨h1, h2⟩ := bLM x r (fun s hs => h s (List.mem_cons_of_mem _ hs))
    have hb := byt_M x (h s List.mem_cons_self)
    rw [bL, bM, hb]
    by_cases c : byt x s = 0
    · rw [if_pos c, if_pos c]; exact ⟨h1, h2⟩
    · rw [if_neg c, if_neg c]
      refine ⟨by rw [List.length_cons, List.length_cons, h1], fun i hi => ?_⟩
      cases i with
      | zero => exact ⟨by show (x >>> (s &&& 31)).toInt8.toInt32 &&& 255 = byt x s; rw [bp_b, hb], c, b8_32 _⟩
      | succ i => exact h2 i (by rw [List.length_cons] at hi; omega)
/-- a list put behind a text -/
def Ap (f f' : Nat → Nat → Int32) (a c j n : Nat) (l : List Int32) : Prop := f' c j = nI (n + l.length) ∧ (∀ i, i < l.length → f' a (n + i) = l.getD i 0) ∧ ∀ b k, ¬ (b = c ∧ k = j) → ¬ (b = a ∧ n ≤ k ∧ k < n + l.length) → f' b k = f b k
theorem Ap.nil {f : Nat → Nat → Int32} {a c j n : Nat} (h : f c j = nI n) : Ap f f a c j n [] := ⟨h, fun i hi => absurd hi (Nat.not_lt_zero _), fun _ _ _ _ => rfl⟩
theorem Ap.cons {f f' : Nat → Nat → Int32} {a c j n : Nat} {v : Int32} {l : List Int32} (hac : ¬ a = c) (h : Ap (up2 (up2 f a n v) c j (nI (n + 1))) f' a c j (n + 1) l) : Ap f f' a c j n (v :: l) := by
  obtain ⟨h1, h2, h3⟩ := h
  refine ⟨by rw [h1, List.length_cons]; congr 1; omega, fun i hi => ?_, fun b k hb hk => ?_⟩
  · cases i with
    | zero =>
      rw [Nat.add_zero, h3 a n (fun z => hac z.1) (fun z => by omega), up2_n _ _ (fun z => hac z.1)]
      exact up2_s _ _ _ _
    | succ i =>
      rw [show n + (i + 1) = n + 1 + i by omega, h2 i (by rw [List.length_cons] at hi; omega)]
      rfl
  · rw [List.length_cons] at hk
    rw [h3 b k hb (fun z => hk ⟨z.1, by omega, by omega⟩), up2_n _ _ hb, up2_n _ _ (fun z => hk ⟨z.1, by omega, by omega⟩)]
theorem Ap.app {f f1 f2 : Nat → Nat → Int32} {a c j n : Nat} {l1 l2 : List Int32} (hac : ¬ a = c) (h1 : Ap f f1 a c j n l1) (h2 : Ap f1 f2 a c j (n + l1.length) l2) : Ap f f2 a c j n (l1 ++ l2) := by
  obtain ⟨p1, p2, p3⟩ := h1
  obtain ⟨q1, q2, q3⟩ := h2
  refine ⟨by rw [q1, List.length_append]; congr 1; omega, fun i hi => ?_, fun b k hb hk => ?_⟩
  · rw [List.length_append] at hi
    by_cases c1 : i < l1.length
    · rw [q3 a (n + i) (fun z => hac z.1) (fun z => by omega), p2 i c1, List.getD_eq_getElem?_getD, List.getD_eq_getElem?_getD, List.getElem?_append_left c1]
    · rw [show n + i = n + l1.length + (i - l1.length) by omega, q2 _ (by omega), List.getD_eq_getElem?_getD, List.getD_eq_getElem?_getD, List.getElem?_append_right (by omega)]
  · rw [List.length_append] at hk
    rw [q3 b k hb (fun z => hk ⟨z.1, by omega, by omega⟩), p3 b k hb (fun z => hk ⟨z.1, by omega, by omega⟩)]
theorem ITx.app {φ φ' : VI} {nx n m : Nat} (h : ITx φ nx) (hn : φ 7 nx 1 = nI n) (hn2 : n ≤ 120) (hm : m ≤ 120) (e : ∀ t i k, ¬ ((t = 7 ∧ i = nx ∧ k = 1) ∨ (t = 8 ∧ i = nx ∧ n ≤ k) ∨ (t = 9 ∧ i = 75 ∧ n ≤ k) ∨ (t = 10 ∧ i = 0 ∧ (k = 80 ∨ k = 0))) → φ' t i k = φ t i k) (e1 : φ' 7 nx 1 = nI m) (e2 : φ' 10 0 80 = nI m) (e3 : ∀ k, n ≤ k → k < m → bts (φ' 8 nx k) (φ' 9 75 k)) : ITx φ' nx := by
  refine ⟨?_, ⟨m, hm, e1, e2, fun k hk => ?_⟩, fun i hi => ?_⟩
  · rw [e 0 10 2 (by omega), e 10 0 81 (by omega)]
    exact h.1
  · by_cases c : k < n
    · obtain ⟨n', h1, h2, h3, h4⟩ := h.2.1
      rw [hn] at h2
      obtain rfl := (nI_eqs (by omega) (by omega)).mp h2
      rw [e 8 nx k (by omega), e 9 75 k (by omega)]
      exact h4 k c
    · exact e3 k (by omega) hk
  · obtain ⟨h0, n, h1, h2, h3, h4⟩ := h.2.2 i hi
    rw [e 7 i 2 (by omega), e 7 i 3 (by omega), e 9 78 i (by omega), e 9 79 i (by omega)]
    refine ⟨h0, n, h1, by rw [e 7 i 1 (by omega)]; exact h2, by rw [e 9 77 i (by omega)]; exact h3, fun k hk => ?_⟩
    rw [e 8 i k (by omega), e 9 76 _ (by omega)]
    exact h4 k hk

set_option maxRecDepth 100000 in
theorem lp_Tx_bytesOf_m8 {d : Nat} {M : Mem} {f : Nat → Nat → Int32} {g : Nat → Nat → Int64} {R : Option Value → Mem → Prop} {x : Int32} {m : Nat} (hR : R (some (.int (nI (m + (bL x ([] : List Int32)).length)))) (mm M f g)) : Go d 83 0 0 5 [.int x, .int (nI m), .int (-8)] [] (mm M f g) R := by
  show Go d 83 0 0 5 [.int x, .int (nI m), .int (-8)] [] (mm M f g) R
  refine go_blk 1 [] (pc' := 6) (vs' := [.int x, .int (nI m), .int (-8)]) (st' := [.int (-8)]) (M' := mm M f g) (ps := []) rfl trivial ?_
  refine go_if rfl (fun _ => ?_) (fun (z : ¬ (((-8) : Int32) < 0)) => absurd (show ((-8) : Int32) < 0 from (by decide)) z)
  refine go_blk 1 [] (pc' := 34) (vs' := [.int x, .int (nI m), .int (-8)]) (st' := [.int (nI m)]) (M' := mm M f g) (ps := []) rfl trivial ?_
  refine go_iret rfl rfl ?_
  exact hR

set_option maxRecDepth 100000 in
theorem lp_Tx_bytesOf_0 {d : Nat} {M : Mem} {f : Nat → Nat → Int32} {g : Nat → Nat → Int64} {R : Option Value → Mem → Prop} {x : Int32} {m : Nat} (hR : R (some (.int (nI (m + (bL x [0]).length)))) (mm M f g)) : Go d 83 0 0 5 [.int x, .int (nI m), .int 0] [] (mm M f g) R := by
  show Go d 83 0 0 5 [.int x, .int (nI m), .int 0] [] (mm M f g) R
  refine go_blk 1 [] (pc' := 6) (vs' := [.int x, .int (nI m), .int 0]) (st' := [.int 0]) (M' := mm M f g) (ps := []) rfl trivial ?_
  refine go_if rfl (fun (z : (0 : Int32) < 0) => absurd z (show ¬ ((0 : Int32) < 0) from (by decide))) (fun _ => ?_)
  refine go_blk 6 [] (pc' := 17) (vs' := [.int x, .int (nI m), .int 0]) (st' := [.int (((x.toUInt32 >>> ((0 : Int32).toUInt32 &&& Int32.toUInt32 31)).toInt32) &&& 255), .int (nI m)]) (M' := mm M f g) (ps := []) rfl trivial ?_
  refine go_if rfl (fun (c1 : ¬ (((x.toUInt32 >>> ((0 : Int32).toUInt32 &&& Int32.toUInt32 31)).toInt32) &&& 255) = 0) => ?_) (fun (c1 : ¬ (¬ (((x.toUInt32 >>> ((0 : Int32).toUInt32 &&& Int32.toUInt32 31)).toInt32) &&& 255) = 0)) => ?_)
  · -- ¬ (((x.toUInt32 >>> ((0 : Int32).toUInt32 &&& Int32.toUInt32 31)).toInt32) &&& 255) = 0
    refine go_blk 5 [] (pc' := 5) (vs' := [.int x, .int ((nI m) + 1), .int (0 + (-8))]) (st' := []) (M' := mm M f g) (ps := []) rfl trivial ?_
    rw [show (0 : Int32) + (-8) = (-8) from rfl]
    have cz : ¬ (byt x 0 = 0) := by first | exact c1 | exact Classical.not_not.mp c1
    rw [show nI m + 1 = nI (m + 1) from nI_add m 1]
    refine lp_Tx_bytesOf_m8 ?_
    rw [bL, if_neg cz, List.length_cons] at hR
    rw [show m + 1 + (bL x ([] : List Int32)).length = m + ((bL x ([] : List Int32)).length + 1) by omega]
    exact hR
  · -- ¬ (¬ (((x.toUInt32 >>> ((0 : Int32).toUInt32 &&& Int32.toUInt32 31)).toInt32) &&& 255) = 0)
    refine go_blk 6 [] (pc' := 5) (vs' := [.int x, .int ((nI m) + 0), .int (0 + (-8))]) (st' := []) (M' := mm M f g) (ps := []) rfl trivial ?_
    rw [show (0 : Int32) + (-8) = (-8) from rfl]
    have cz : (byt x 0 = 0) := by first | exact c1 | exact Classical.not_not.mp c1
    rw [show nI m + 0 = nI m from nI_add m 0]
    refine lp_Tx_bytesOf_m8 ?_
    rw [bL, if_pos cz] at hR
    exact hR

set_option maxRecDepth 100000 in
theorem lp_Tx_bytesOf_8 {d : Nat} {M : Mem} {f : Nat → Nat → Int32} {g : Nat → Nat → Int64} {R : Option Value → Mem → Prop} {x : Int32} {m : Nat} (hR : R (some (.int (nI (m + (bL x [8, 0]).length)))) (mm M f g)) : Go d 83 0 0 5 [.int x, .int (nI m), .int 8] [] (mm M f g) R := by
  show Go d 83 0 0 5 [.int x, .int (nI m), .int 8] [] (mm M f g) R
  refine go_blk 1 [] (pc' := 6) (vs' := [.int x, .int (nI m), .int 8]) (st' := [.int 8]) (M' := mm M f g) (ps := []) rfl trivial ?_
  refine go_if rfl (fun (z : (8 : Int32) < 0) => absurd z (show ¬ ((8 : Int32) < 0) from (by decide))) (fun _ => ?_)
  refine go_blk 6 [] (pc' := 17) (vs' := [.int x, .int (nI m), .int 8]) (st' := [.int (((x.toUInt32 >>> ((8 : Int32).toUInt32 &&& Int32.toUInt32 31)).toInt32) &&& 255), .int (nI m)]) (M' := mm M f g) (ps := []) rfl trivial ?_
  refine go_if rfl (fun (c1 : ¬ (((x.toUInt32 >>> ((8 : Int32).toUInt32 &&& Int32.toUInt32 31)).toInt32) &&& 255) = 0) => ?_) (fun (c1 : ¬ (¬ (((x.toUInt32 >>> ((8 : Int32).toUInt32 &&& Int32.toUInt32 31)).toInt32) &&& 255) = 0)) => ?_)
  · -- ¬ (((x.toUInt32 >>> ((8 : Int32).toUInt32 &&& Int32.toUInt32 31)).toInt32) &&& 255) = 0
    refine go_blk 5 [] (pc' := 5) (vs' := [.int x, .int ((nI m) + 1), .int (8 + (-8))]) (st' := []) (M' := mm M f g) (ps := []) rfl trivial ?_
    rw [show (8 : Int32) + (-8) = 0 from rfl]
    have cz : ¬ (byt x 8 = 0) := by first | exact c1 | exact Classical.not_not.mp c1
    rw [show nI m + 1 = nI (m + 1) from nI_add m 1]
    refine lp_Tx_bytesOf_0 ?_
    rw [bL, if_neg cz, List.length_cons] at hR
    rw [show m + 1 + (bL x [0]).length = m + ((bL x [0]).length + 1) by omega]
    exact hR
  · -- ¬ (¬ (((x.toUInt32 >>> ((8 : Int32).toUInt32 &&& Int32.toUInt32 31)).toInt32) &&& 255) = 0)
    refine go_blk 6 [] (pc' := 5) (vs' := [.int x, .int ((nI m) + 0), .int (8 + (-8))]) (st' := []) (M' := mm M f g) (ps := []) rfl trivial ?_
    rw [show (8 : Int32) + (-8) = 0 from rfl]
    have cz : (byt x 8 = 0) := by first | exact c1 | exact Classical.not_not.mp c1
    rw [show nI m + 0 = nI m from nI_add m 0]
    refine lp_Tx_bytesOf_0 ?_
    rw [bL, if_pos cz] at hR
    exact hR

set_option maxRecDepth 100000 in
theorem lp_Tx_bytesOf_16 {d : Nat} {M : Mem} {f : Nat → Nat → Int32} {g : Nat → Nat → Int64} {R : Option Value → Mem → Prop} {x : Int32} {m : Nat} (hR : R (some (.int (nI (m + (bL x [16, 8, 0]).length)))) (mm M f g)) : Go d 83 0 0 5 [.int x, .int (nI m), .int 16] [] (mm M f g) R := by
  show Go d 83 0 0 5 [.int x, .int (nI m), .int 16] [] (mm M f g) R
  refine go_blk 1 [] (pc' := 6) (vs' := [.int x, .int (nI m), .int 16]) (st' := [.int 16]) (M' := mm M f g) (ps := []) rfl trivial ?_
  refine go_if rfl (fun (z : (16 : Int32) < 0) => absurd z (show ¬ ((16 : Int32) < 0) from (by decide))) (fun _ => ?_)
  refine go_blk 6 [] (pc' := 17) (vs' := [.int x, .int (nI m), .int 16]) (st' := [.int (((x.toUInt32 >>> ((16 : Int32).toUInt32 &&& Int32.toUInt32 31)).toInt32) &&& 255), .int (nI m)]) (M' := mm M f g) (ps := []) rfl trivial ?_
  refine go_if rfl (fun (c1 : ¬ (((x.toUInt32 >>> ((16 : Int32).toUInt32 &&& Int32.toUInt32 31)).toInt32) &&& 255) = 0) => ?_) (fun (c1 : ¬ (¬ (((x.toUInt32 >>> ((16 : Int32).toUInt32 &&& Int32.toUInt32 31)).toInt32) &&& 255) = 0)) => ?_)
  · -- ¬ (((x.toUInt32 >>> ((16 : Int32).toUInt32 &&& Int32.toUInt32 31)).toInt32) &&& 255) = 0
    refine go_blk 5 [] (pc' := 5) (vs' := [.int x, .int ((nI m) + 1), .int (16 + (-8))]) (st' := []) (M' := mm M f g) (ps := []) rfl trivial ?_
    rw [show (16 : Int32) + (-8) = 8 from rfl]
    have cz : ¬ (byt x 16 = 0) := by first | exact c1 | exact Classical.not_not.mp c1
    rw [show nI m + 1 = nI (m + 1) from nI_add m 1]
    refine lp_Tx_bytesOf_8 ?_
    rw [bL, if_neg cz, List.length_cons] at hR
    rw [show m + 1 + (bL x [8, 0]).length = m + ((bL x [8, 0]).length + 1) by omega]
    exact hR
  · -- ¬ (¬ (((x.toUInt32 >>> ((16 : Int32).toUInt32 &&& Int32.toUInt32 31)).toInt32) &&& 255) = 0)
    refine go_blk 6 [] (pc' := 5) (vs' := [.int x, .int ((nI m) + 0), .int (16 + (-8))]) (st' := []) (M' := mm M f g) (ps := []) rfl trivial ?_
    rw [show (16 : Int32) + (-8) = 8 from rfl]
    have cz : (byt x 16 = 0) := by first | exact c1 | exact Classical.not_not.mp c1
    rw [show nI m + 0 = nI m from nI_add m 0]
    refine lp_Tx_bytesOf_8 ?_
    rw [bL, if_pos cz] at hR
    exact hR

set_option maxRecDepth 100000 in
theorem lp_Tx_bytesOf_24 {d : Nat} {M : Mem} {f : Nat → Nat → Int32} {g : Nat → Nat → Int64} {R : Option Value → Mem → Prop} {x : Int32} {m : Nat} (hR : R (some (.int (nI (m + (bL x [24, 16, 8, 0]).length)))) (mm M f g)) : Go d 83 0 0 5 [.int x, .int (nI m), .int 24] [] (mm M f g) R := by
  show Go d 83 0 0 5 [.int x, .int (nI m), .int 24] [] (mm M f g) R
  refine go_blk 1 [] (pc' := 6) (vs' := [.int x, .int (nI m), .int 24]) (st' := [.int 24]) (M' := mm M f g) (ps := []) rfl trivial ?_
  refine go_if rfl (fun (z : (24 : Int32) < 0) => absurd z (show ¬ ((24 : Int32) < 0) from (by decide))) (fun _ => ?_)
  refine go_blk 6 [] (pc' := 17) (vs' := [.int x, .int (nI m), .int 24]) (st' := [.int (((x.toUInt32 >>> ((24 : Int32).toUInt32 &&& Int32.toUInt32 31)).toInt32) &&& 255), .int (nI m)]) (M' := mm M f g) (ps := []) rfl trivial ?_
  refine go_if rfl (fun (c1 : ¬ (((x.toUInt32 >>> ((24 : Int32).toUInt32 &&& Int32.toUInt32 31)).toInt32) &&& 255) = 0) => ?_) (fun (c1 : ¬ (¬ (((x.toUInt32 >>> ((24 : Int32).toUInt32 &&& Int32.toUInt32 31)).toInt32) &&& 255) = 0)) => ?_)
  · -- ¬ (((x.toUInt32 >>> ((24 : Int32).toUInt32 &&& Int32.toUInt32 31)).toInt32) &&& 255) = 0
    refine go_blk 5 [] (pc' := 5) (vs' := [.int x, .int ((nI m) + 1), .int (24 + (-8))]) (st' := []) (M' := mm M f g) (ps := []) rfl trivial ?_
    rw [show (24 : Int32) + (-8) = 16 from rfl]
    have cz : ¬ (byt x 24 = 0) := by first | exact c1 | exact Classical.not_not.mp c1
    rw [show nI m + 1 = nI (m + 1) from nI_add m 1]
    refine lp_Tx_bytesOf_16 ?_
    rw [bL, if_neg cz, List.length_cons] at hR
    rw [show m + 1 + (bL x [16, 8, 0]).length = m + ((bL x [16, 8, 0]).length + 1) by omega]
    exact hR
  · -- ¬ (¬ (((x.toUInt32 >>> ((24 : Int32).toUInt32 &&& Int32.toUInt32 31)).toInt32) &&& 255) = 0)
    refine go_blk 6 [] (pc' := 5) (vs' := [.int x, .int ((nI m) + 0), .int (24 + (-8))]) (st' := []) (M' := mm M f g) (ps := []) rfl trivial ?_
    rw [show (24 : Int32) + (-8) = 16 from rfl]
    have cz : (byt x 24 = 0) := by first | exact c1 | exact Classical.not_not.mp c1
    rw [show nI m + 0 = nI m from nI_add m 0]
    refine lp_Tx_bytesOf_16 ?_
    rw [bL, if_pos cz] at hR
    exact hR

set_option maxRecDepth 100000 in
theorem s_Tx_bytesOf {d : Nat} {M : Mem} {f : Nat → Nat → Int32} {g : Nat → Nat → Int64} {R : Option Value → Mem → Prop} {x : Int32} (hd : 0 ≤ d) (hR : R (some (.int (nI (bL x [24, 16, 8, 0]).length))) (mm M f g)) : Call d 83 [.int x] (mm M f g) R := by
  show Go d 83 0 0 0 [.int x, .retAddr 0, .retAddr 0] [] (mm M f g) R
  refine go_blk 4 [] (pc' := 5) (vs' := [.int x, .int 0, .int 24]) (st' := []) (M' := mm M f g) (ps := []) rfl trivial ?_
  exact lp_Tx_bytesOf_24 (m := 0) (by rw [Nat.zero_add]; exact hR)

set_option maxRecDepth 100000 in
theorem lp_Mo_bytesIn_m8 {d : Nat} {M : Mem} {f : Nat → Nat → Int32} {g : Nat → Nat → Int64} {R : Option Value → Mem → Prop} {x : Int32} {m : Nat} (hR : R (some (.int (nI (m + (bM x ([] : List Int32)).length)))) (mm M f g)) : Go d 237 0 0 5 [.int x, .int (nI m), .int (-8)] [] (mm M f g) R := by
  show Go d 237 0 0 5 [.int x, .int (nI m), .int (-8)] [] (mm M f g) R
  refine go_blk 1 [] (pc' := 6) (vs' := [.int x, .int (nI m), .int (-8)]) (st' := [.int (-8)]) (M' := mm M f g) (ps := []) rfl trivial ?_
  refine go_if rfl (fun _ => ?_) (fun (z : ¬ (((-8) : Int32) < 0)) => absurd (show ((-8) : Int32) < 0 from (by decide)) z)
  refine go_blk 1 [] (pc' := 34) (vs' := [.int x, .int (nI m), .int (-8)]) (st' := [.int (nI m)]) (M' := mm M f g) (ps := []) rfl trivial ?_
  refine go_iret rfl rfl ?_
  exact hR

set_option maxRecDepth 100000 in
theorem lp_Mo_bytesIn_0 {d : Nat} {M : Mem} {f : Nat → Nat → Int32} {g : Nat → Nat → Int64} {R : Option Value → Mem → Prop} {x : Int32} {m : Nat} (hR : R (some (.int (nI (m + (bM x [0]).length)))) (mm M f g)) : Go d 237 0 0 5 [.int x, .int (nI m), .int 0] [] (mm M f g) R := by
  show Go d 237 0 0 5 [.int x, .int (nI m), .int 0] [] (mm M f g) R
  refine go_blk 1 [] (pc' := 6) (vs' := [.int x, .int (nI m), .int 0]) (st' := [.int 0]) (M' := mm M f g) (ps := []) rfl trivial ?_
  refine go_if rfl (fun (z : (0 : Int32) < 0) => absurd z (show ¬ ((0 : Int32) < 0) from (by decide))) (fun _ => ?_)
  refine go_blk 6 [] (pc' := 17) (vs' := [.int x, .int (nI m), .int 0]) (st' := [.int ((x >>> (0 &&& 31)) &&& 255), .int (nI m)]) (M' := mm M f g) (ps := []) rfl trivial ?_
  refine go_if rfl (fun (c1 : ((x >>> (0 &&& 31)) &&& 255) = 0) => ?_) (fun (c1 : ¬ (((x >>> (0 &&& 31)) &&& 255) = 0)) => ?_)
  · -- ((x >>> (0 &&& 31)) &&& 255) = 0
    refine go_blk 5 [] (pc' := 5) (vs' := [.int x, .int ((nI m) + 0), .int (0 + (-8))]) (st' := []) (M' := mm M f g) (ps := []) rfl trivial ?_
    rw [show (0 : Int32) + (-8) = (-8) from rfl]
    have cz : ((x >>> (0 &&& 31)) &&& 255 = 0) := by first | exact c1 | exact Classical.not_not.mp c1
    rw [show nI m + 0 = nI m from nI_add m 0]
    refine lp_Mo_bytesIn_m8 ?_
    rw [bM, if_pos cz] at hR
    exact hR
  · -- ¬ (((x >>> (0 &&& 31)) &&& 255) = 0)
    refine go_blk 6 [] (pc' := 5) (vs' := [.int x, .int ((nI m) + 1), .int (0 + (-8))]) (st' := []) (M' := mm M f g) (ps := []) rfl trivial ?_
    rw [show (0 : Int32) + (-8) = (-8) from rfl]
    have cz : ¬ ((x >>> (0 &&& 31)) &&& 255 = 0) := by first | exact c1 | exact Classical.not_not.mp c1
    rw [show nI m + 1 = nI (m + 1) from nI_add m 1]
    refine lp_Mo_bytesIn_m8 ?_
    rw [bM, if_neg cz, List.length_cons] at hR
    rw [show m + 1 + (bM x ([] : List Int32)).length = m + ((bM x ([] : List Int32)).length + 1) by omega]
    exact hR

set_option maxRecDepth 100000 in
theorem lp_Mo_bytesIn_8 {d : Nat} {M : Mem} {f : Nat → Nat → Int32} {g : Nat → Nat → Int64} {R : Option Value → Mem → Prop} {x : Int32} {m : Nat} (hR : R (some (.int (nI (m + (bM x [8, 0]).length)))) (mm M f g)) : Go d 237 0 0 5 [.int x, .int (nI m), .int 8] [] (mm M f g) R := by
  show Go d 237 0 0 5 [.int x, .int (nI m), .int 8] [] (mm M f g) R
  refine go_blk 1 [] (pc' := 6) (vs' := [.int x, .int (nI m), .int 8]) (st' := [.int 8]) (M' := mm M f g) (ps := []) rfl trivial ?_
  refine go_if rfl (fun (z : (8 : Int32) < 0) => absurd z (show ¬ ((8 : Int32) < 0) from (by decide))) (fun _ => ?_)
  refine go_blk 6 [] (pc' := 17) (vs' := [.int x, .int (nI m), .int 8]) (st' := [.int ((x >>> (8 &&& 31)) &&& 255), .int (nI m)]) (M' := mm M f g) (ps := []) rfl trivial ?_
  refine go_if rfl (fun (c1 : ((x >>> (8 &&& 31)) &&& 255) = 0) => ?_) (fun (c1 : ¬ (((x >>> (8 &&& 31)) &&& 255) = 0)) => ?_)
  · -- ((x >>> (8 &&& 31)) &&& 255) = 0
    refine go_blk 5 [] (pc' := 5) (vs' := [.int x, .int ((nI m) + 0), .int (8 + (-8))]) (st' := []) (M' := mm M f g) (ps := []) rfl trivial ?_
    rw [show (8 : Int32) + (-8) = 0 from rfl]
    have cz : ((x >>> (8 &&& 31)) &&& 255 = 0) := by first | exact c1 | exact Classical.not_not.mp c1
    rw [show nI m + 0 = nI m from nI_add m 0]
    refine lp_Mo_bytesIn_0 ?_
    rw [bM, if_pos cz] at hR
    exact hR
  · -- ¬ (((x >>> (8 &&& 31)) &&& 255) = 0)
    refine go_blk 6 [] (pc' := 5) (vs' := [.int x, .int ((nI m) + 1), .int (8 + (-8))]) (st' := []) (M' := mm M f g) (ps := []) rfl trivial ?_
    rw [show (8 : Int32) + (-8) = 0 from rfl]
    have cz : ¬ ((x >>> (8 &&& 31)) &&& 255 = 0) := by first | exact c1 | exact Classical.not_not.mp c1
    rw [show nI m + 1 = nI (m + 1) from nI_add m 1]
    refine lp_Mo_bytesIn_0 ?_
    rw [bM, if_neg cz, List.length_cons] at hR
    rw [show m + 1 + (bM x [0]).length = m + ((bM x [0]).length + 1) by omega]
    exact hR

set_option maxRecDepth 100000 in
theorem lp_Mo_bytesIn_16 {d : Nat} {M : Mem} {f : Nat → Nat → Int32} {g : Nat → Nat → Int64} {R : Option Value → Mem → Prop} {x : Int32} {m : Nat} (hR : R (some (.int (nI (m + (bM x [16, 8, 0]).length)))) (mm M f g)) : Go d 237 0 0 5 [.int x, .int (nI m), .int 16] [] (mm M f g) R := by
  show Go d 237 0 0 5 [.int x, .int (nI m), .int 16] [] (mm M f g) R
  refine go_blk 1 [] (pc' := 6) (vs' := [.int x, .int (nI m), .int 16]) (st' := [.int 16]) (M' := mm M f g) (ps := []) rfl trivial ?_
  refine go_if rfl (fun (z : (16 : Int32) < 0) => absurd z (show ¬ ((16 : Int32) < 0) from (by decide))) (fun _ => ?_)
  refine go_blk 6 [] (pc' := 17) (vs' := [.int x, .int (nI m), .int 16]) (st' := [.int ((x >>> (16 &&& 31)) &&& 255), .int (nI m)]) (M' := mm M f g) (ps := []) rfl trivial ?_
  refine go_if rfl (fun (c1 : ((x >>> (16 &&& 31)) &&& 255) = 0) => ?_) (fun (c1 : ¬ (((x >>> (16 &&& 31)) &&& 255) = 0)) => ?_)
  · -- ((x >>> (16 &&& 31)) &&& 255) = 0
    refine go_blk 5 [] (pc' := 5) (vs' := [.int x, .int ((nI m) + 0), .int (16 + (-8))]) (st' := []) (M' := mm M f g) (ps := []) rfl trivial ?_
    rw [show (16 : Int32) + (-8) = 8 from rfl]
    have cz : ((x >>> (16 &&& 31)) &&& 255 = 0) := by first | exact c1 | exact Classical.not_not.mp c1
    rw [show nI m + 0 = nI m from nI_add m 0]
    refine lp_Mo_bytesIn_8 ?_
    rw [bM, if_pos cz] at hR
    exact hR
  · -- ¬ (((x >>> (16 &&& 31)) &&& 255) = 0)
    refine go_blk 6 [] (pc' := 5) (vs' := [.int x, .int ((nI m) + 1), .int (16 + (-8))]) (st' := []) (M' := mm M f g) (ps := []) rfl trivial ?_
    rw [show (16 : Int32) + (-8) = 8 from rfl]
    have cz : ¬ ((x >>> (16 &&& 31)) &&& 255 = 0) := by first | exact c1 | exact Classical.not_not.mp c1
    rw [show nI m + 1 = nI (m + 1) from nI_add m 1]
    refine lp_Mo_bytesIn_8 ?_
    rw [bM, if_neg cz, List.length_cons] at hR
    rw [show m + 1 + (bM x [8, 0]).length = m + ((bM x [8, 0]).length + 1) by omega]
    exact hR

set_option maxRecDepth 100000 in
theorem lp_Mo_bytesIn_24 {d : Nat} {M : Mem} {f : Nat → Nat → Int32} {g : Nat → Nat → Int64} {R : Option Value → Mem → Prop} {x : Int32} {m : Nat} (hR : R (some (.int (nI (m + (bM x [24, 16, 8, 0]).length)))) (mm M f g)) : Go d 237 0 0 5 [.int x, .int (nI m), .int 24] [] (mm M f g) R := by
  show Go d 237 0 0 5 [.int x, .int (nI m), .int 24] [] (mm M f g) R
  refine go_blk 1 [] (pc' := 6) (vs' := [.int x, .int (nI m), .int 24]) (st' := [.int 24]) (M' := mm M f g) (ps := []) rfl trivial ?_
  refine go_if rfl (fun (z : (24 : Int32) < 0) => absurd z (show ¬ ((24 : Int32) < 0) from (by decide))) (fun _ => ?_)
  refine go_blk 6 [] (pc' := 17) (vs' := [.int x, .int (nI m), .int 24]) (st' := [.int ((x >>> (24 &&& 31)) &&& 255), .int (nI m)]) (M' := mm M f g) (ps := []) rfl trivial ?_
  refine go_if rfl (fun (c1 : ((x >>> (24 &&& 31)) &&& 255) = 0) => ?_) (fun (c1 : ¬ (((x >>> (24 &&& 31)) &&& 255) = 0)) => ?_)
  · -- ((x >>> (24 &&& 31)) &&& 255) = 0
    refine go_blk 5 [] (pc' := 5) (vs' := [.int x, .int ((nI m) + 0), .int (24 + (-8))]) (st' := []) (M' := mm M f g) (ps := []) rfl trivial ?_
    rw [show (24 : Int32) + (-8) = 16 from rfl]
    have cz : ((x >>> (24 &&& 31)) &&& 255 = 0) := by first | exact c1 | exact Classical.not_not.mp c1
    rw [show nI m + 0 = nI m from nI_add m 0]
    refine lp_Mo_bytesIn_16 ?_
    rw [bM, if_pos cz] at hR
    exact hR
  · -- ¬ (((x >>> (24 &&& 31)) &&& 255) = 0)
    refine go_blk 6 [] (pc' := 5) (vs' := [.int x, .int ((nI m) + 1), .int (24 + (-8))]) (st' := []) (M' := mm M f g) (ps := []) rfl trivial ?_
    rw [show (24 : Int32) + (-8) = 16 from rfl]
    have cz : ¬ ((x >>> (24 &&& 31)) &&& 255 = 0) := by first | exact c1 | exact Classical.not_not.mp c1
    rw [show nI m + 1 = nI (m + 1) from nI_add m 1]
    refine lp_Mo_bytesIn_16 ?_
    rw [bM, if_neg cz, List.length_cons] at hR
    rw [show m + 1 + (bM x [16, 8, 0]).length = m + ((bM x [16, 8, 0]).length + 1) by omega]
    exact hR

set_option maxRecDepth 100000 in
theorem s_Mo_bytesIn {d : Nat} {M : Mem} {f : Nat → Nat → Int32} {g : Nat → Nat → Int64} {R : Option Value → Mem → Prop} {x : Int32} (hd : 0 ≤ d) (hR : R (some (.int (nI (bM x [24, 16, 8, 0]).length))) (mm M f g)) : Call d 237 [.int x] (mm M f g) R := by
  show Go d 237 0 0 0 [.int x, .retAddr 0, .retAddr 0] [] (mm M f g) R
  refine go_blk 4 [] (pc' := 5) (vs' := [.int x, .int 0, .int 24]) (st' := []) (M' := mm M f g) (ps := []) rfl trivial ?_
  exact lp_Mo_bytesIn_24 (m := 0) (by rw [Nat.zero_add]; exact hR)

set_option maxRecDepth 100000 in
theorem lp_Tx_addBytes_m8 {d : Nat} {M : Mem} {g : Nat → Nat → Int64} {ad : Nat → Nat → Nat} {R : Option Value → Mem → Prop} {x : Int32} {nx n : Nat} {f : Nat → Nat → Int32} {u3 : Value} (hi : Inj ad) (hX : Xs M ad nx) (hn : f (ad 7 nx) 1 = nI n) (hl : n + (bL x ([] : List Int32)).length ≤ 120) (hR : ∀ f', Ap f f' (ad 8 nx) (ad 7 nx) 1 n (bL x ([] : List Int32)) → R none (mm M f' g)) : Go d 84 0 0 3 [.ref (ad 7 nx), .int x, .int (-8), u3] [] (mm M f g) R := by
  show Go d 84 0 0 3 [.ref (ad 7 nx), .int x, .int (-8), u3] [] (mm M f g) R
  refine go_blk 1 [] (pc' := 4) (vs' := [.ref (ad 7 nx), .int x, .int (-8), u3]) (st' := [.int (-8)]) (M' := mm M f g) (ps := []) rfl trivial ?_
  refine go_if rfl (fun _ => ?_) (fun (z : ¬ (((-8) : Int32) < 0)) => absurd (show ((-8) : Int32) < 0 from (by decide)) z)
  refine go_vret rfl rfl ?_
  exact hR f (Ap.nil hn)

set_option maxRecDepth 100000 in
theorem lp_Tx_addBytes_0 {d : Nat} {M : Mem} {g : Nat → Nat → Int64} {ad : Nat → Nat → Nat} {R : Option Value → Mem → Prop} {x : Int32} {nx n : Nat} {f : Nat → Nat → Int32} {u3 : Value} (hi : Inj ad) (hX : Xs M ad nx) (hn : f (ad 7 nx) 1 = nI n) (hl : n + (bL x [0]).length ≤ 120) (hR : ∀ f', Ap f f' (ad 8 nx) (ad 7 nx) 1 n (bL x [0]) → R none (mm M f' g)) : Go d 84 0 0 3 [.ref (ad 7 nx), .int x, .int 0, u3] [] (mm M f g) R := by
  by_cases cz0 : byt x 0 = 0
  ·
    show Go d 84 0 0 3 [.ref (ad 7 nx), .int x, .int 0, u3] [] (mm M f g) R
    refine go_blk 1 [] (pc' := 4) (vs' := [.ref (ad 7 nx), .int x, .int 0, u3]) (st' := [.int 0]) (M' := mm M f g) (ps := []) rfl trivial ?_
    refine go_if rfl (fun (z : (0 : Int32) < 0) => absurd z (show ¬ ((0 : Int32) < 0) from (by decide))) (fun _ => ?_)
    refine go_blk 7 [] (pc' := 16) (vs' := [.ref (ad 7 nx), .int x, .int 0, .int (((x.toUInt32 >>> ((0 : Int32).toUInt32 &&& Int32.toUInt32 31)).toInt32) &&& 255)]) (st' := [.int (((x.toUInt32 >>> ((0 : Int32).toUInt32 &&& Int32.toUInt32 31)).toInt32) &&& 255)]) (M' := mm M f g) (ps := []) rfl trivial ?_
    refine go_if rfl (fun _ => ?_) (fun (z : ¬ ((((x.toUInt32 >>> ((0 : Int32).toUInt32 &&& Int32.toUInt32 31)).toInt32) &&& 255) = 0)) => absurd (show (((x.toUInt32 >>> ((0 : Int32).toUInt32 &&& Int32.toUInt32 31)).toInt32) &&& 255) = 0 from cz0) z)
    refine go_blk 2 [] (pc' := 3) (vs' := [.ref (ad 7 nx), .int x, .int (0 + (-8)), .int (((x.toUInt32 >>> ((0 : Int32).toUInt32 &&& Int32.toUInt32 31)).toInt32) &&& 255)]) (st' := []) (M' := mm M f g) (ps := []) rfl trivial ?_
    rw [show (0 : Int32) + (-8) = (-8) from rfl]
    have cz : (byt x 0 = 0) := cz0
    rw [bL, if_pos cz] at hl hR
    exact lp_Tx_addBytes_m8 hi hX hn hl hR
  ·
    have hlt : n < 120 := by have z := hl; rw [bL, if_neg cz0, List.length_cons] at z; omega
    show Go d 84 0 0 3 [.ref (ad 7 nx), .int x, .int 0, u3] [] (mm M f g) R
    refine go_blk 1 [] (pc' := 4) (vs' := [.ref (ad 7 nx), .int x, .int 0, u3]) (st' := [.int 0]) (M' := mm M f g) (ps := []) rfl trivial ?_
    refine go_if rfl (fun (z : (0 : Int32) < 0) => absurd z (show ¬ ((0 : Int32) < 0) from (by decide))) (fun _ => ?_)
    refine go_blk 7 [] (pc' := 16) (vs' := [.ref (ad 7 nx), .int x, .int 0, .int (((x.toUInt32 >>> ((0 : Int32).toUInt32 &&& Int32.toUInt32 31)).toInt32) &&& 255)]) (st' := [.int (((x.toUInt32 >>> ((0 : Int32).toUInt32 &&& Int32.toUInt32 31)).toInt32) &&& 255)]) (M' := mm M f g) (ps := []) rfl trivial ?_
    refine go_if rfl (fun (z : (((x.toUInt32 >>> ((0 : Int32).toUInt32 &&& Int32.toUInt32 31)).toInt32) &&& 255) = 0) => absurd z (show ¬ ((((x.toUInt32 >>> ((0 : Int32).toUInt32 &&& Int32.toUInt32 31)).toInt32) &&& 255) = 0) from cz0)) (fun _ => ?_)
    refine go_blk 3 [some (.int (nI n))] (pc' := 25) (vs' := [.ref (ad 7 nx), .int x, .int 0, .int (((x.toUInt32 >>> ((0 : Int32).toUInt32 &&& Int32.toUInt32 31)).toInt32) &&& 255)]) (st' := [.int 120, .int (nI n)]) (M' := mm M f g) (ps := [ob (mm M f g) (ad 7 nx) 9, (Value.int (f (ad 7 nx) 1)) = .int (nI n)]) rfl ⟨(hX.2.2 nx (Nat.le_refl _)).1, congrArg Value.int hn, trivial⟩ ?_
    refine go_icmp rfl (fun (z : 120 ≤ (nI n)) => absurd z (show ¬ (120 ≤ (nI n)) from (Int32.not_le.mpr ((nI_lts (a := n) (b := 120) (by omega) (by decide)).mpr hlt)))) (fun _ => ?_)
    refine go_blk 14 [some (.ref (ad 8 nx)), some (.int (nI n)), some (.int (nI n))] (pc' := 3) (vs' := [.ref (ad 7 nx), .int x, .int (0 + (-8)), .int (((x.toUInt32 >>> ((0 : Int32).toUInt32 &&& Int32.toUInt32 31)).toInt32) &&& 255)]) (st' := []) (M' := mm M (up2 (up2 f (ad 8 nx) ((nI n).toNatClampNeg) (((x.toUInt32 >>> ((0 : Int32).toUInt32 &&& Int32.toUInt32 31)).toInt32) &&& 255)) (ad 7 nx) 1 ((nI n) + 1)) g) (ps := [ob (mm M f g) (ad 7 nx) 9, mR (mm M f g) (ad 7 nx) 0 = some (ad 8 nx), va_rf (some (ad 8 nx)) = .ref (ad 8 nx), ob (mm M f g) (ad 7 nx) 9, (Value.int (f (ad 7 nx) 1)) = .int (nI n), ob (mm M f g) (ad 8 nx) 15, vp_in (nI n) (mN (mm M f g) (ad 8 nx)), (.ref (ad 7 nx) : Value).category = 1, ob (mm M (up2 f (ad 8 nx) ((nI n).toNatClampNeg) (((x.toUInt32 >>> ((0 : Int32).toUInt32 &&& Int32.toUInt32 31)).toInt32) &&& 255)) g) (ad 7 nx) 9, (Value.int ((up2 f (ad 8 nx) ((nI n).toNatClampNeg) (((x.toUInt32 >>> ((0 : Int32).toUInt32 &&& Int32.toUInt32 31)).toInt32) &&& 255)) (ad 7 nx) 1)) = .int (nI n), ob (mm M (up2 f (ad 8 nx) ((nI n).toNatClampNeg) (((x.toUInt32 >>> ((0 : Int32).toUInt32 &&& Int32.toUInt32 31)).toInt32) &&& 255)) g) (ad 7 nx) 9]) rfl ⟨(hX.2.2 nx (Nat.le_refl _)).1, (hX.2.2 nx (Nat.le_refl _)).2.1, rfl, (hX.2.2 nx (Nat.le_refl _)).1, congrArg Value.int hn, (hX.2.2 nx (Nat.le_refl _)).2.2.1, (vpi (hX.2.2 nx (Nat.le_refl _)).2.2.2 (show n < 120 by omega)), rfl, (hX.2.2 nx (Nat.le_refl _)).1, congrArg Value.int (((up2_n _ _ (fun z => absurd (hi _ _ _ _ z.1).1 (by decide))).trans (rfl)).trans hn), (hX.2.2 nx (Nat.le_refl _)).1, trivial⟩ ?_
    rw [nI_clamp (n := n) (by omega)]
    rw [show (0 : Int32) + (-8) = (-8) from rfl]
    have cz : ¬ (byt x 0 = 0) := cz0
    rw [bL, if_neg cz] at hl hR
    rw [List.length_cons] at hl
    rw [show nI n + 1 = nI (n + 1) from nI_add n 1]
    exact lp_Tx_addBytes_m8 (n := n + 1) (f := up2 (up2 f (ad 8 nx) n (byt x 0)) (ad 7 nx) 1 (nI (n + 1))) hi hX (up2_s _ _ _ _) (by omega) (fun f' hA => hR f' (Ap.cons (fun z => absurd (hi _ _ _ _ z).1 (by decide)) hA))

set_option maxRecDepth 100000 in
theorem lp_Tx_addBytes_8 {d : Nat} {M : Mem} {g : Nat → Nat → Int64} {ad : Nat → Nat → Nat} {R : Option Value → Mem → Prop} {x : Int32} {nx n : Nat} {f : Nat → Nat → Int32} {u3 : Value} (hi : Inj ad) (hX : Xs M ad nx) (hn : f (ad 7 nx) 1 = nI n) (hl : n + (bL x [8, 0]).length ≤ 120) (hR : ∀ f', Ap f f' (ad 8 nx) (ad 7 nx) 1 n (bL x [8, 0]) → R none (mm M f' g)) : Go d 84 0 0 3 [.ref (ad 7 nx), .int x, .int 8, u3] [] (mm M f g) R := by
  by_cases cz0 : byt x 8 = 0
  ·
    show Go d 84 0 0 3 [.ref (ad 7 nx), .int x, .int 8, u3] [] (mm M f g) R
    refine go_blk 1 [] (pc' := 4) (vs' := [.ref (ad 7 nx), .int x, .int 8, u3]) (st' := [.int 8]) (M' := mm M f g) (ps := []) rfl trivial ?_
    refine go_if rfl (fun (z : (8 : Int32) < 0) => absurd z (show ¬ ((8 : Int32) < 0) from (by decide))) (fun _ => ?_)
    refine go_blk 7 [] (pc' := 16) (vs' := [.ref (ad 7 nx), .int x, .int 8, .int (((x.toUInt32 >>> ((8 : Int32).toUInt32 &&& Int32.toUInt32 31)).toInt32) &&& 255)]) (st' := [.int (((x.toUInt32 >>> ((8 : Int32).toUInt32 &&& Int32.toUInt32 31)).toInt32) &&& 255)]) (M' := mm M f g) (ps := []) rfl trivial ?_
    refine go_if rfl (fun _ => ?_) (fun (z : ¬ ((((x.toUInt32 >>> ((8 : Int32).toUInt32 &&& Int32.toUInt32 31)).toInt32) &&& 255) = 0)) => absurd (show (((x.toUInt32 >>> ((8 : Int32).toUInt32 &&& Int32.toUInt32 31)).toInt32) &&& 255) = 0 from cz0) z)
    refine go_blk 2 [] (pc' := 3) (vs' := [.ref (ad 7 nx), .int x, .int (8 + (-8)), .int (((x.toUInt32 >>> ((8 : Int32).toUInt32 &&& Int32.toUInt32 31)).toInt32) &&& 255)]) (st' := []) (M' := mm M f g) (ps := []) rfl trivial ?_
    rw [show (8 : Int32) + (-8) = 0 from rfl]
    have cz : (byt x 8 = 0) := cz0
    rw [bL, if_pos cz] at hl hR
    exact lp_Tx_addBytes_0 hi hX hn hl hR
  ·
    have hlt : n < 120 := by have z := hl; rw [bL, if_neg cz0, List.length_cons] at z; omega
    show Go d 84 0 0 3 [.ref (ad 7 nx), .int x, .int 8, u3] [] (mm M f g) R
    refine go_blk 1 [] (pc' := 4) (vs' := [.ref (ad 7 nx), .int x, .int 8, u3]) (st' := [.int 8]) (M' := mm M f g) (ps := []) rfl trivial ?_
    refine go_if rfl (fun (z : (8 : Int32) < 0) => absurd z (show ¬ ((8 : Int32) < 0) from (by decide))) (fun _ => ?_)
    refine go_blk 7 [] (pc' := 16) (vs' := [.ref (ad 7 nx), .int x, .int 8, .int (((x.toUInt32 >>> ((8 : Int32).toUInt32 &&& Int32.toUInt32 31)).toInt32) &&& 255)]) (st' := [.int (((x.toUInt32 >>> ((8 : Int32).toUInt32 &&& Int32.toUInt32 31)).toInt32) &&& 255)]) (M' := mm M f g) (ps := []) rfl trivial ?_
    refine go_if rfl (fun (z : (((x.toUInt32 >>> ((8 : Int32).toUInt32 &&& Int32.toUInt32 31)).toInt32) &&& 255) = 0) => absurd z (show ¬ ((((x.toUInt32 >>> ((8 : Int32).toUInt32 &&& Int32.toUInt32 31)).toInt32) &&& 255) = 0) from cz0)) (fun _ => ?_)
    refine go_blk 3 [some (.int (nI n))] (pc' := 25) (vs' := [.ref (ad 7 nx), .int x, .int 8, .int (((x.toUInt32 >>> ((8 : Int32).toUInt32 &&& Int32.toUInt32 31)).toInt32) &&& 255)]) (st' := [.int 120, .int (nI n)]) (M' := mm M f g) (ps := [ob (mm M f g) (ad 7 nx) 9, (Value.int (f (ad 7 nx) 1)) = .int (nI n)]) rfl ⟨(hX.2.2 nx (Nat.le_refl _)).1, congrArg Value.int hn, trivial⟩ ?_
    refine go_icmp rfl (fun (z : 120 ≤ (nI n)) => absurd z (show ¬ (120 ≤ (nI n)) from (Int32.not_le.mpr ((nI_lts (a := n) (b := 120) (by omega) (by decide)).mpr hlt)))) (fun _ => ?_)
    refine go_blk 14 [some (.ref (ad 8 nx)), some (.int (nI n)), some (.int (nI n))] (pc' := 3) (vs' := [.ref (ad 7 nx), .int x, .int (8 + (-8)), .int (((x.toUInt32 >>> ((8 : Int32).toUInt32 &&& Int32.toUInt32 31)).toInt32) &&& 255)]) (st' := []) (M' := mm M (up2 (up2 f (ad 8 nx) ((nI n).toNatClampNeg) (((x.toUInt32 >>> ((8 : Int32).toUInt32 &&& Int32.toUInt32 31)).toInt32) &&& 255)) (ad 7 nx) 1 ((nI n) + 1)) g) (ps := [ob (mm M f g) (ad 7 nx) 9, mR (mm M f g) (ad 7 nx) 0 = some (ad 8 nx), va_rf (some (ad 8 nx)) = .ref (ad 8 nx), ob (mm M f g) (ad 7 nx) 9, (Value.int (f (ad 7 nx) 1)) = .int (nI n), ob (mm M f g) (ad 8 nx) 15, vp_in (nI n) (mN (mm M f g) (ad 8 nx)), (.ref (ad 7 nx) : Value).category = 1, ob (mm M (up2 f (ad 8 nx) ((nI n).toNatClampNeg) (((x.toUInt32 >>> ((8 : Int32).toUInt32 &&& Int32.toUInt32 31)).toInt32) &&& 255)) g) (ad 7 nx) 9, (Value.int ((up2 f (ad 8 nx) ((nI n).toNatClampNeg) (((x.toUInt32 >>> ((8 : Int32).toUInt32 &&& Int32.toUInt32 31)).toInt32) &&& 255)) (ad 7 nx) 1)) = .int (nI n), ob (mm M (up2 f (ad 8 nx) ((nI n).toNatClampNeg) (((x.toUInt32 >>> ((8 : Int32).toUInt32 &&& Int32.toUInt32 31)).toInt32) &&& 255)) g) (ad 7 nx) 9]) rfl ⟨(hX.2.2 nx (Nat.le_refl _)).1, (hX.2.2 nx (Nat.le_refl _)).2.1, rfl, (hX.2.2 nx (Nat.le_refl _)).1, congrArg Value.int hn, (hX.2.2 nx (Nat.le_refl _)).2.2.1, (vpi (hX.2.2 nx (Nat.le_refl _)).2.2.2 (show n < 120 by omega)), rfl, (hX.2.2 nx (Nat.le_refl _)).1, congrArg Value.int (((up2_n _ _ (fun z => absurd (hi _ _ _ _ z.1).1 (by decide))).trans (rfl)).trans hn), (hX.2.2 nx (Nat.le_refl _)).1, trivial⟩ ?_
    rw [nI_clamp (n := n) (by omega)]
    rw [show (8 : Int32) + (-8) = 0 from rfl]
    have cz : ¬ (byt x 8 = 0) := cz0
    rw [bL, if_neg cz] at hl hR
    rw [List.length_cons] at hl
    rw [show nI n + 1 = nI (n + 1) from nI_add n 1]
    exact lp_Tx_addBytes_0 (n := n + 1) (f := up2 (up2 f (ad 8 nx) n (byt x 8)) (ad 7 nx) 1 (nI (n + 1))) hi hX (up2_s _ _ _ _) (by omega) (fun f' hA => hR f' (Ap.cons (fun z => absurd (hi _ _ _ _ z).1 (by decide)) hA))

set_option maxRecDepth 100000 in
theorem lp_Tx_addBytes_16 {d : Nat} {M : Mem} {g : Nat → Nat → Int64} {ad : Nat → Nat → Nat} {R : Option Value → Mem → Prop} {x : Int32} {nx n : Nat} {f : Nat → Nat → Int32} {u3 : Value} (hi : Inj ad) (hX : Xs M ad nx) (hn : f (ad 7 nx) 1 = nI n) (hl : n + (bL x [16, 8, 0]).length ≤ 120) (hR : ∀ f', Ap f f' (ad 8 nx) (ad 7 nx) 1 n (bL x [16, 8, 0]) → R none (mm M f' g)) : Go d 84 0 0 3 [.ref (ad 7 nx), .int x, .int 16, u3] [] (mm M f g) R := by
  by_cases cz0 : byt x 16 = 0
  ·
    show Go d 84 0 0 3 [.ref (ad 7 nx), .int x, .int 16, u3] [] (mm M f g) R
    refine go_blk 1 [] (pc' := 4) (vs' := [.ref (ad 7 nx), .int x, .int 16, u3]) (st' := [.int 16]) (M' := mm M f g) (ps := []) rfl trivial ?_
    refine go_if rfl (fun (z : (16 : Int32) < 0) => absurd z (show ¬ ((16 : Int32) < 0) from (by decide))) (fun _ => ?_)
    refine go_blk 7 [] (pc' := 16) (vs' := [.ref (ad 7 nx), .int x, .int 16, .int (((x.toUInt32 >>> ((16 : Int32).toUInt32 &&& Int32.toUInt32 31)).toInt32) &&& 255)]) (st' := [.int (((x.toUInt32 >>> ((16 : Int32).toUInt32 &&& Int32.toUInt32 31)).toInt32) &&& 255)]) (M' := mm M f g) (ps := []) rfl trivial ?_
    refine go_if rfl (fun _ => ?_) (fun (z : ¬ ((((x.toUInt32 >>> ((16 : Int32).toUInt32 &&& Int32.toUInt32 31)).toInt32) &&& 255) = 0)) => absurd (show (((x.toUInt32 >>> ((16 : Int32).toUInt32 &&& Int32.toUInt32 31)).toInt32) &&& 255) = 0 from cz0) z)
    refine go_blk 2 [] (pc' := 3) (vs' := [.ref (ad 7 nx), .int x, .int (16 + (-8)), .int (((x.toUInt32 >>> ((16 : Int32).toUInt32 &&& Int32.toUInt32 31)).toInt32) &&& 255)]) (st' := []) (M' := mm M f g) (ps := []) rfl trivial ?_
    rw [show (16 : Int32) + (-8) = 8 from rfl]
    have cz : (byt x 16 = 0) := cz0
    rw [bL, if_pos cz] at hl hR
    exact lp_Tx_addBytes_8 hi hX hn hl hR
  ·
    have hlt : n < 120 := by have z := hl; rw [bL, if_neg cz0, List.length_cons] at z; omega
    show Go d 84 0 0 3 [.ref (ad 7 nx), .int x, .int 16, u3] [] (mm M f g) R
    refine go_blk 1 [] (pc' := 4) (vs' := [.ref (ad 7 nx), .int x, .int 16, u3]) (st' := [.int 16]) (M' := mm M f g) (ps := []) rfl trivial ?_
    refine go_if rfl (fun (z : (16 : Int32) < 0) => absurd z (show ¬ ((16 : Int32) < 0) from (by decide))) (fun _ => ?_)
    refine go_blk 7 [] (pc' := 16) (vs' := [.ref (ad 7 nx), .int x, .int 16, .int (((x.toUInt32 >>> ((16 : Int32).toUInt32 &&& Int32.toUInt32 31)).toInt32) &&& 255)]) (st' := [.int (((x.toUInt32 >>> ((16 : Int32).toUInt32 &&& Int32.toUInt32 31)).toInt32) &&& 255)]) (M' := mm M f g) (ps := []) rfl trivial ?_
    refine go_if rfl (fun (z : (((x.toUInt32 >>> ((16 : Int32).toUInt32 &&& Int32.toUInt32 31)).toInt32) &&& 255) = 0) => absurd z (show ¬ ((((x.toUInt32 >>> ((16 : Int32).toUInt32 &&& Int32.toUInt32 31)).toInt32) &&& 255) = 0) from cz0)) (fun _ => ?_)
    refine go_blk 3 [some (.int (nI n))] (pc' := 25) (vs' := [.ref (ad 7 nx), .int x, .int 16, .int (((x.toUInt32 >>> ((16 : Int32).toUInt32 &&& Int32.toUInt32 31)).toInt32) &&& 255)]) (st' := [.int 120, .int (nI n)]) (M' := mm M f g) (ps := [ob (mm M f g) (ad 7 nx) 9, (Value.int (f (ad 7 nx) 1)) = .int (nI n)]) rfl ⟨(hX.2.2 nx (Nat.le_refl _)).1, congrArg Value.int hn, trivial⟩ ?_
    refine go_icmp rfl (fun (z : 120 ≤ (nI n)) => absurd z (show ¬ (120 ≤ (nI n)) from (Int32.not_le.mpr ((nI_lts (a := n) (b := 120) (by omega) (by decide)).mpr hlt)))) (fun _ => ?_)
    refine go_blk 14 [some (.ref (ad 8 nx)), some (.int (nI n)), some (.int (nI n))] (pc' := 3) (vs' := [.ref (ad 7 nx), .int x, .int (16 + (-8)), .int (((x.toUInt32 >>> ((16 : Int32).toUInt32 &&& Int32.toUInt32 31)).toInt32) &&& 255)]) (st' := []) (M' := mm M (up2 (up2 f (ad 8 nx) ((nI n).toNatClampNeg) (((x.toUInt32 >>> ((16 : Int32).toUInt32 &&& Int32.toUInt32 31)).toInt32) &&& 255)) (ad 7 nx) 1 ((nI n) + 1)) g) (ps := [ob (mm M f g) (ad 7 nx) 9, mR (mm M f g) (ad 7 nx) 0 = some (ad 8 nx), va_rf (some (ad 8 nx)) = .ref (ad 8 nx), ob (mm M f g) (ad 7 nx) 9, (Value.int (f (ad 7 nx) 1)) = .int (nI n), ob (mm M f g) (ad 8 nx) 15, vp_in (nI n) (mN (mm M f g) (ad 8 nx)), (.ref (ad 7 nx) : Value).category = 1, ob (mm M (up2 f (ad 8 nx) ((nI n).toNatClampNeg) (((x.toUInt32 >>> ((16 : Int32).toUInt32 &&& Int32.toUInt32 31)).toInt32) &&& 255)) g) (ad 7 nx) 9, (Value.int ((up2 f (ad 8 nx) ((nI n).toNatClampNeg) (((x.toUInt32 >>> ((16 : Int32).toUInt32 &&& Int32.toUInt32 31)).toInt32) &&& 255)) (ad 7 nx) 1)) = .int (nI n), ob (mm M (up2 f (ad 8 nx) ((nI n).toNatClampNeg) (((x.toUInt32 >>> ((16 : Int32).toUInt32 &&& Int32.toUInt32 31)).toInt32) &&& 255)) g) (ad 7 nx) 9]) rfl ⟨(hX.2.2 nx (Nat.le_refl _)).1, (hX.2.2 nx (Nat.le_refl _)).2.1, rfl, (hX.2.2 nx (Nat.le_refl _)).1, congrArg Value.int hn, (hX.2.2 nx (Nat.le_refl _)).2.2.1, (vpi (hX.2.2 nx (Nat.le_refl _)).2.2.2 (show n < 120 by omega)), rfl, (hX.2.2 nx (Nat.le_refl _)).1, congrArg Value.int (((up2_n _ _ (fun z => absurd (hi _ _ _ _ z.1).1 (by decide))).trans (rfl)).trans hn), (hX.2.2 nx (Nat.le_refl _)).1, trivial⟩ ?_
    rw [nI_clamp (n := n) (by omega)]
    rw [show (16 : Int32) + (-8) = 8 from rfl]
    have cz : ¬ (byt x 16 = 0) := cz0
    rw [bL, if_neg cz] at hl hR
    rw [List.length_cons] at hl
    rw [show nI n + 1 = nI (n + 1) from nI_add n 1]
    exact lp_Tx_addBytes_8 (n := n + 1) (f := up2 (up2 f (ad 8 nx) n (byt x 16)) (ad 7 nx) 1 (nI (n + 1))) hi hX (up2_s _ _ _ _) (by omega) (fun f' hA => hR f' (Ap.cons (fun z => absurd (hi _ _ _ _ z).1 (by decide)) hA))

set_option maxRecDepth 100000 in
theorem lp_Tx_addBytes_24 {d : Nat} {M : Mem} {g : Nat → Nat → Int64} {ad : Nat → Nat → Nat} {R : Option Value → Mem → Prop} {x : Int32} {nx n : Nat} {f : Nat → Nat → Int32} {u3 : Value} (hi : Inj ad) (hX : Xs M ad nx) (hn : f (ad 7 nx) 1 = nI n) (hl : n + (bL x [24, 16, 8, 0]).length ≤ 120) (hR : ∀ f', Ap f f' (ad 8 nx) (ad 7 nx) 1 n (bL x [24, 16, 8, 0]) → R none (mm M f' g)) : Go d 84 0 0 3 [.ref (ad 7 nx), .int x, .int 24, u3] [] (mm M f g) R := by
  by_cases cz0 : byt x 24 = 0
  ·
    show Go d 84 0 0 3 [.ref (ad 7 nx), .int x, .int 24, u3] [] (mm M f g) R
    refine go_blk 1 [] (pc' := 4) (vs' := [.ref (ad 7 nx), .int x, .int 24, u3]) (st' := [.int 24]) (M' := mm M f g) (ps := []) rfl trivial ?_
    refine go_if rfl (fun (z : (24 : Int32) < 0) => absurd z (show ¬ ((24 : Int32) < 0) from (by decide))) (fun _ => ?_)
    refine go_blk 7 [] (pc' := 16) (vs' := [.ref (ad 7 nx), .int x, .int 24, .int (((x.toUInt32 >>> ((24 : Int32).toUInt32 &&& Int32.toUInt32 31)).toInt32) &&& 255)]) (st' := [.int (((x.toUInt32 >>> ((24 : Int32).toUInt32 &&& Int32.toUInt32 31)).toInt32) &&& 255)]) (M' := mm M f g) (ps := []) rfl trivial ?_
    refine go_if rfl (fun _ => ?_) (fun (z : ¬ ((((x.toUInt32 >>> ((24 : Int32).toUInt32 &&& Int32.toUInt32 31)).toInt32) &&& 255) = 0)) => absurd (show (((x.toUInt32 >>> ((24 : Int32).toUInt32 &&& Int32.toUInt32 31)).toInt32) &&& 255) = 0 from cz0) z)
    refine go_blk 2 [] (pc' := 3) (vs' := [.ref (ad 7 nx), .int x, .int (24 + (-8)), .int (((x.toUInt32 >>> ((24 : Int32).toUInt32 &&& Int32.toUInt32 31)).toInt32) &&& 255)]) (st' := []) (M' := mm M f g) (ps := []) rfl trivial ?_
    rw [show (24 : Int32) + (-8) = 16 from rfl]
    have cz : (byt x 24 = 0) := cz0
    rw [bL, if_pos cz] at hl hR
    exact lp_Tx_addBytes_16 hi hX hn hl hR
  ·
    have hlt : n < 120 := by have z := hl; rw [bL, if_neg cz0, List.length_cons] at z; omega
    show Go d 84 0 0 3 [.ref (ad 7 nx), .int x, .int 24, u3] [] (mm M f g) R
    refine go_blk 1 [] (pc' := 4) (vs' := [.ref (ad 7 nx), .int x, .int 24, u3]) (st' := [.int 24]) (M' := mm M f g) (ps := []) rfl trivial ?_
    refine go_if rfl (fun (z : (24 : Int32) < 0) => absurd z (show ¬ ((24 : Int32) < 0) from (by decide))) (fun _ => ?_)
    refine go_blk 7 [] (pc' := 16) (vs' := [.ref (ad 7 nx), .int x, .int 24, .int (((x.toUInt32 >>> ((24 : Int32).toUInt32 &&& Int32.toUInt32 31)).toInt32) &&& 255)]) (st' := [.int (((x.toUInt32 >>> ((24 : Int32).toUInt32 &&& Int32.toUInt32 31)).toInt32) &&& 255)]) (M' := mm M f g) (ps := []) rfl trivial ?_
    refine go_if rfl (fun (z : (((x.toUInt32 >>> ((24 : Int32).toUInt32 &&& Int32.toUInt32 31)).toInt32) &&& 255) = 0) => absurd z (show ¬ ((((x.toUInt32 >>> ((24 : Int32).toUInt32 &&& Int32.toUInt32 31)).toInt32) &&& 255) = 0) from cz0)) (fun _ => ?_)
    refine go_blk 3 [some (.int (nI n))] (pc' := 25) (vs' := [.ref (ad 7 nx), .int x, .int 24, .int (((x.toUInt32 >>> ((24 : Int32).toUInt32 &&& Int32.toUInt32 31)).toInt32) &&& 255)]) (st' := [.int 120, .int (nI n)]) (M' := mm M f g) (ps := [ob (mm M f g) (ad 7 nx) 9, (Value.int (f (ad 7 nx) 1)) = .int (nI n)]) rfl ⟨(hX.2.2 nx (Nat.le_refl _)).1, congrArg Value.int hn, trivial⟩ ?_
    refine go_icmp rfl (fun (z : 120 ≤ (nI n)) => absurd z (show ¬ (120 ≤ (nI n)) from (Int32.not_le.mpr ((nI_lts (a := n) (b := 120) (by omega) (by decide)).mpr hlt)))) (fun _ => ?_)
    refine go_blk 14 [some (.ref (ad 8 nx)), some (.int (nI n)), some (.int (nI n))] (pc' := 3) (vs' := [.ref (ad 7 nx), .int x, .int (24 + (-8)), .int (((x.toUInt32 >>> ((24 : Int32).toUInt32 &&& Int32.toUInt32 31)).toInt32) &&& 255)]) (st' := []) (M' := mm M (up2 (up2 f (ad 8 nx) ((nI n).toNatClampNeg) (((x.toUInt32 >>> ((24 : Int32).toUInt32 &&& Int32.toUInt32 31)).toInt32) &&& 255)) (ad 7 nx) 1 ((nI n) + 1)) g) (ps := [ob (mm M f g) (ad 7 nx) 9, mR (mm M f g) (ad 7 nx) 0 = some (ad 8 nx), va_rf (some (ad 8 nx)) = .ref (ad 8 nx), ob (mm M f g) (ad 7 nx) 9, (Value.int (f (ad 7 nx) 1)) = .int (nI n), ob (mm M f g) (ad 8 nx) 15, vp_in (nI n) (mN (mm M f g) (ad 8 nx)), (.ref (ad 7 nx) : Value).category = 1, ob (mm M (up2 f (ad 8 nx) ((nI n).toNatClampNeg) (((x.toUInt32 >>> ((24 : Int32).toUInt32 &&& Int32.toUInt32 31)).toInt32) &&& 255)) g) (ad 7 nx) 9, (Value.int ((up2 f (ad 8 nx) ((nI n).toNatClampNeg) (((x.toUInt32 >>> ((24 : Int32).toUInt32 &&& Int32.toUInt32 31)).toInt32) &&& 255)) (ad 7 nx) 1)) = .int (nI n), ob (mm M (up2 f (ad 8 nx) ((nI n).toNatClampNeg) (((x.toUInt32 >>> ((24 : Int32).toUInt32 &&& Int32.toUInt32 31)).toInt32) &&& 255)) g) (ad 7 nx) 9]) rfl ⟨(hX.2.2 nx (Nat.le_refl _)).1, (hX.2.2 nx (Nat.le_refl _)).2.1, rfl, (hX.2.2 nx (Nat.le_refl _)).1, congrArg Value.int hn, (hX.2.2 nx (Nat.le_refl _)).2.2.1, (vpi (hX.2.2 nx (Nat.le_refl _)).2.2.2 (show n < 120 by omega)), rfl, (hX.2.2 nx (Nat.le_refl _)).1, congrArg Value.int (((up2_n _ _ (fun z => absurd (hi _ _ _ _ z.1).1 (by decide))).trans (rfl)).trans hn), (hX.2.2 nx (Nat.le_refl _)).1, trivial⟩ ?_
    rw [nI_clamp (n := n) (by omega)]
    rw [show (24 : Int32) + (-8) = 16 from rfl]
    have cz : ¬ (byt x 24 = 0) := cz0
    rw [bL, if_neg cz] at hl hR
    rw [List.length_cons] at hl
    rw [show nI n + 1 = nI (n + 1) from nI_add n 1]
    exact lp_Tx_addBytes_16 (n := n + 1) (f := up2 (up2 f (ad 8 nx) n (byt x 24)) (ad 7 nx) 1 (nI (n + 1))) hi hX (up2_s _ _ _ _) (by omega) (fun f' hA => hR f' (Ap.cons (fun z => absurd (hi _ _ _ _ z).1 (by decide)) hA))

theorem s_Tx_addBytes {d : Nat} {M : Mem} {g : Nat → Nat → Int64} {ad : Nat → Nat → Nat} {R : Option Value → Mem → Prop} {x : Int32} {nx n : Nat} {f : Nat → Nat → Int32} (hi : Inj ad) (hX : Xs M ad nx) (hn : f (ad 7 nx) 1 = nI n) (hl : n + (bL x [24, 16, 8, 0]).length ≤ 120) (hR : ∀ f', Ap f f' (ad 8 nx) (ad 7 nx) 1 n (bL x [24, 16, 8, 0]) → R none (mm M f' g)) : Call d 84 [.ref (ad 7 nx), .int x] (mm M f g) R := by
  show Go d 84 0 0 0 [.ref (ad 7 nx), .int x, .retAddr 0, .retAddr 0] [] (mm M f g) R
  refine go_blk 2 [] (pc' := 3) (vs' := [.ref (ad 7 nx), .int x, .int 24, .retAddr 0]) (st' := []) (M' := mm M f g) (ps := []) rfl trivial ?_
  exact lp_Tx_addBytes_24 hi hX hn hl hR

set_option maxRecDepth 100000 in
theorem lp_Mo_put_m8 {d : Nat} {M : Mem} {g : Nat → Nat → Int64} {ad : Nat → Nat → Nat} {R : Option Value → Mem → Prop} {x : Int32} {n : Nat} {f : Nat → Nat → Int32} (hi : Inj ad) (hM : Mx M ad) (hn : f (ad 10 0) 80 = nI n) (hl : n + (bM x ([] : List Int32)).length ≤ 120) (hR : ∀ f', Ap f f' (ad 9 75) (ad 10 0) 80 n (bM x ([] : List Int32)) → R none (mm M f' g)) : Go d 238 0 0 3 [.ref (ad 10 0), .int x, .int (-8)] [] (mm M f g) R := by
  show Go d 238 0 0 3 [.ref (ad 10 0), .int x, .int (-8)] [] (mm M f g) R
  refine go_blk 1 [] (pc' := 4) (vs' := [.ref (ad 10 0), .int x, .int (-8)]) (st' := [.int (-8)]) (M' := mm M f g) (ps := []) rfl trivial ?_
  refine go_if rfl (fun _ => ?_) (fun (z : ¬ (((-8) : Int32) < 0)) => absurd (show ((-8) : Int32) < 0 from (by decide)) z)
  refine go_vret rfl rfl ?_
  exact hR f (Ap.nil hn)

set_option maxRecDepth 100000 in
theorem lp_Mo_put_0 {d : Nat} {M : Mem} {g : Nat → Nat → Int64} {ad : Nat → Nat → Nat} {R : Option Value → Mem → Prop} {x : Int32} {n : Nat} {f : Nat → Nat → Int32} (hi : Inj ad) (hM : Mx M ad) (hn : f (ad 10 0) 80 = nI n) (hl : n + (bM x [0]).length ≤ 120) (hR : ∀ f', Ap f f' (ad 9 75) (ad 10 0) 80 n (bM x [0]) → R none (mm M f' g)) : Go d 238 0 0 3 [.ref (ad 10 0), .int x, .int 0] [] (mm M f g) R := by
  by_cases cz0 : (x >>> (0 &&& 31)) &&& 255 = 0
  ·
    show Go d 238 0 0 3 [.ref (ad 10 0), .int x, .int 0] [] (mm M f g) R
    refine go_blk 1 [] (pc' := 4) (vs' := [.ref (ad 10 0), .int x, .int 0]) (st' := [.int 0]) (M' := mm M f g) (ps := []) rfl trivial ?_
    refine go_if rfl (fun (z : (0 : Int32) < 0) => absurd z (show ¬ ((0 : Int32) < 0) from (by decide))) (fun _ => ?_)
    refine go_blk 5 [] (pc' := 14) (vs' := [.ref (ad 10 0), .int x, .int 0]) (st' := [.int ((x >>> (0 &&& 31)) &&& 255)]) (M' := mm M f g) (ps := []) rfl trivial ?_
    refine go_if rfl (fun (z : ¬ ((x >>> (0 &&& 31)) &&& 255) = 0) => absurd z (show ¬ (¬ ((x >>> (0 &&& 31)) &&& 255) = 0) from (not_not_intro cz0))) (fun _ => ?_)
    refine go_blk 3 [] (pc' := 3) (vs' := [.ref (ad 10 0), .int x, .int (0 + (-8))]) (st' := []) (M' := mm M f g) (ps := []) rfl trivial ?_
    rw [show (0 : Int32) + (-8) = (-8) from rfl]
    have cz : ((x >>> (0 &&& 31)) &&& 255 = 0) := cz0
    rw [bM, if_pos cz] at hl hR
    exact lp_Mo_put_m8 hi hM hn hl hR
  ·
    have hlt : n < 120 := by have z := hl; rw [bM, if_neg cz0, List.length_cons] at z; omega
    show Go d 238 0 0 3 [.ref (ad 10 0), .int x, .int 0] [] (mm M f g) R
    refine go_blk 1 [] (pc' := 4) (vs' := [.ref (ad 10 0), .int x, .int 0]) (st' := [.int 0]) (M' := mm M f g) (ps := []) rfl trivial ?_
    refine go_if rfl (fun (z : (0 : Int32) < 0) => absurd z (show ¬ ((0 : Int32) < 0) from (by decide))) (fun _ => ?_)
    refine go_blk 5 [] (pc' := 14) (vs' := [.ref (ad 10 0), .int x, .int 0]) (st' := [.int ((x >>> (0 &&& 31)) &&& 255)]) (M' := mm M f g) (ps := []) rfl trivial ?_
    refine go_if rfl (fun _ => ?_) (fun (z : ¬ (¬ ((x >>> (0 &&& 31)) &&& 255) = 0)) => absurd (show ¬ ((x >>> (0 &&& 31)) &&& 255) = 0 from cz0) z)
    refine go_blk 17 [some (.ref (ad 9 75)), some (.int (nI n)), some (.int (nI n))] (pc' := 3) (vs' := [.ref (ad 10 0), .int x, .int (0 + (-8))]) (st' := []) (M' := mm M (up2 (up2 f (ad 9 75) ((nI n).toNatClampNeg) (vp_nar .byte ((x >>> (0 &&& 31)).toInt8.toInt32))) (ad 10 0) 80 ((nI n) + 1)) g) (ps := [ob (mm M f g) (ad 10 0) 12, mR (mm M f g) (ad 10 0) 75 = some (ad 9 75), va_rf (some (ad 9 75)) = .ref (ad 9 75), ob (mm M f g) (ad 10 0) 12, (Value.int (f (ad 10 0) 80)) = .int (nI n), ob (mm M f g) (ad 9 75) 14, vp_in (nI n) (mN (mm M f g) (ad 9 75)), (.ref (ad 10 0) : Value).category = 1, ob (mm M (up2 f (ad 9 75) ((nI n).toNatClampNeg) (vp_nar .byte ((x >>> (0 &&& 31)).toInt8.toInt32))) g) (ad 10 0) 12, (Value.int ((up2 f (ad 9 75) ((nI n).toNatClampNeg) (vp_nar .byte ((x >>> (0 &&& 31)).toInt8.toInt32))) (ad 10 0) 80)) = .int (nI n), ob (mm M (up2 f (ad 9 75) ((nI n).toNatClampNeg) (vp_nar .byte ((x >>> (0 &&& 31)).toInt8.toInt32))) g) (ad 10 0) 12]) rfl ⟨hM.1, (hM.r 75 14 120), rfl, hM.1, congrArg Value.int hn, (hM.o 75 14 120), (vpi (hM.n 75 14 120) (show n < 120 by omega)), rfl, hM.1, congrArg Value.int (((up2_n _ _ (fun z => absurd (hi _ _ _ _ z.1).1 (by decide))).trans (rfl)).trans hn), hM.1, trivial⟩ ?_
    rw [nI_clamp (n := n) (by omega)]
    rw [show (0 : Int32) + (-8) = (-8) from rfl]
    have cz : ¬ ((x >>> (0 &&& 31)) &&& 255 = 0) := cz0
    rw [bM, if_neg cz] at hl hR
    rw [List.length_cons] at hl
    rw [show nI n + 1 = nI (n + 1) from nI_add n 1]
    rw [show vp_nar .byte (x >>> (0 &&& 31)).toInt8.toInt32 = (x >>> (0 &&& 31)).toInt8.toInt32 from b8_32 _]
    exact lp_Mo_put_m8 (n := n + 1) (f := up2 (up2 f (ad 9 75) n ((x >>> (0 &&& 31)).toInt8.toInt32)) (ad 10 0) 80 (nI (n + 1))) hi hM (up2_s _ _ _ _) (by omega) (fun f' hA => hR f' (Ap.cons (fun z => absurd (hi _ _ _ _ z).1 (by decide)) hA))

set_option maxRecDepth 100000 in
theorem lp_Mo_put_8 {d : Nat} {M : Mem} {g : Nat → Nat → Int64} {ad : Nat → Nat → Nat} {R : Option Value → Mem → Prop} {x : Int32} {n : Nat} {f : Nat → Nat → Int32} (hi : Inj ad) (hM : Mx M ad) (hn : f (ad 10 0) 80 = nI n) (hl : n + (bM x [8, 0]).length ≤ 120) (hR : ∀ f', Ap f f' (ad 9 75) (ad 10 0) 80 n (bM x [8, 0]) → R none (mm M f' g)) : Go d 238 0 0 3 [.ref (ad 10 0), .int x, .int 8] [] (mm M f g) R := by
  by_cases cz0 : (x >>> (8 &&& 31)) &&& 255 = 0
  ·
    show Go d 238 0 0 3 [.ref (ad 10 0), .int x, .int 8] [] (mm M f g) R
    refine go_blk 1 [] (pc' := 4) (vs' := [.ref (ad 10 0), .int x, .int 8]) (st' := [.int 8]) (M' := mm M f g) (ps := []) rfl trivial ?_
    refine go_if rfl (fun (z : (8 : Int32) < 0) => absurd z (show ¬ ((8 : Int32) < 0) from (by decide))) (fun _ => ?_)
    refine go_blk 5 [] (pc' := 14) (vs' := [.ref (ad 10 0), .int x, .int 8]) (st' := [.int ((x >>> (8 &&& 31)) &&& 255)]) (M' := mm M f g) (ps := []) rfl trivial ?_
    refine go_if rfl (fun (z : ¬ ((x >>> (8 &&& 31)) &&& 255) = 0) => absurd z (show ¬ (¬ ((x >>> (8 &&& 31)) &&& 255) = 0) from (not_not_intro cz0))) (fun _ => ?_)
    refine go_blk 3 [] (pc' := 3) (vs' := [.ref (ad 10 0), .int x, .int (8 + (-8))]) (st' := []) (M' := mm M f g) (ps := []) rfl trivial ?_
    rw [show (8 : Int32) + (-8) = 0 from rfl]
    have cz : ((x >>> (8 &&& 31)) &&& 255 = 0) := cz0
    rw [bM, if_pos cz] at hl hR
    exact lp_Mo_put_0 hi hM hn hl hR
  ·
    have hlt : n < 120 := by have z := hl; rw [bM, if_neg cz0, List.length_cons] at z; omega
    show Go d 238 0 0 3 [.ref (ad 10 0), .int x, .int 8] [] (mm M f g) R
    refine go_blk 1 [] (pc' := 4) (vs' := [.ref (ad 10 0), .int x, .int 8]) (st' := [.int 8]) (M' := mm M f g) (ps := []) rfl trivial ?_
    refine go_if rfl (fun (z : (8 : Int32) < 0) => absurd z (show ¬ ((8 : Int32) < 0) from (by decide))) (fun _ => ?_)
    refine go_blk 5 [] (pc' := 14) (vs' := [.ref (ad 10 0), .int x, .int 8]) (st' := [.int ((x >>> (8 &&& 31)) &&& 255)]) (M' := mm M f g) (ps := []) rfl trivial ?_
    refine go_if rfl (fun _ => ?_) (fun (z : ¬ (¬ ((x >>> (8 &&& 31)) &&& 255) = 0)) => absurd (show ¬ ((x >>> (8 &&& 31)) &&& 255) = 0 from cz0) z)
    refine go_blk 17 [some (.ref (ad 9 75)), some (.int (nI n)), some (.int (nI n))] (pc' := 3) (vs' := [.ref (ad 10 0), .int x, .int (8 + (-8))]) (st' := []) (M' := mm M (up2 (up2 f (ad 9 75) ((nI n).toNatClampNeg) (vp_nar .byte ((x >>> (8 &&& 31)).toInt8.toInt32))) (ad 10 0) 80 ((nI n) + 1)) g) (ps := [ob (mm M f g) (ad 10 0) 12, mR (mm M f g) (ad 10 0) 75 = some (ad 9 75), va_rf (some (ad 9 75)) = .ref (ad 9 75), ob (mm M f g) (ad 10 0) 12, (Value.int (f (ad 10 0) 80)) = .int (nI n), ob (mm M f g) (ad 9 75) 14, vp_in (nI n) (mN (mm M f g) (ad 9 75)), (.ref (ad 10 0) : Value).category = 1, ob (mm M (up2 f (ad 9 75) ((nI n).toNatClampNeg) (vp_nar .byte ((x >>> (8 &&& 31)).toInt8.toInt32))) g) (ad 10 0) 12, (Value.int ((up2 f (ad 9 75) ((nI n).toNatClampNeg) (vp_nar .byte ((x >>> (8 &&& 31)).toInt8.toInt32))) (ad 10 0) 80)) = .int (nI n), ob (mm M (up2 f (ad 9 75) ((nI n).toNatClampNeg) (vp_nar .byte ((x >>> (8 &&& 31)).toInt8.toInt32))) g) (ad 10 0) 12]) rfl ⟨hM.1, (hM.r 75 14 120), rfl, hM.1, congrArg Value.int hn, (hM.o 75 14 120), (vpi (hM.n 75 14 120) (show n < 120 by omega)), rfl, hM.1, congrArg Value.int (((up2_n _ _ (fun z => absurd (hi _ _ _ _ z.1).1 (by decide))).trans (rfl)).trans hn), hM.1, trivial⟩ ?_
    rw [nI_clamp (n := n) (by omega)]
    rw [show (8 : Int32) + (-8) = 0 from rfl]
    have cz : ¬ ((x >>> (8 &&& 31)) &&& 255 = 0) := cz0
    rw [bM, if_neg cz] at hl hR
    rw [List.length_cons] at hl
    rw [show nI n + 1 = nI (n + 1) from nI_add n 1]
    rw [show vp_nar .byte (x >>> (8 &&& 31)).toInt8.toInt32 = (x >>> (8 &&& 31)).toInt8.toInt32 from b8_32 _]
    exact lp_Mo_put_0 (n := n + 1) (f := up2 (up2 f (ad 9 75) n ((x >>> (8 &&& 31)).toInt8.toInt32)) (ad 10 0) 80 (nI (n + 1))) hi hM (up2_s _ _ _ _) (by omega) (fun f' hA => hR f' (Ap.cons (fun z => absurd (hi _ _ _ _ z).1 (by decide)) hA))

set_option maxRecDepth 100000 in
theorem lp_Mo_put_16 {d : Nat} {M : Mem} {g : Nat → Nat → Int64} {ad : Nat → Nat → Nat} {R : Option Value → Mem → Prop} {x : Int32} {n : Nat} {f : Nat → Nat → Int32} (hi : Inj ad) (hM : Mx M ad) (hn : f (ad 10 0) 80 = nI n) (hl : n + (bM x [16, 8, 0]).length ≤ 120) (hR : ∀ f', Ap f f' (ad 9 75) (ad 10 0) 80 n (bM x [16, 8, 0]) → R none (mm M f' g)) : Go d 238 0 0 3 [.ref (ad 10 0), .int x, .int 16] [] (mm M f g) R := by
  by_cases cz0 : (x >>> (16 &&& 31)) &&& 255 = 0
  ·
    show Go d 238 0 0 3 [.ref (ad 10 0), .int x, .int 16] [] (mm M f g) R
    refine go_blk 1 [] (pc' := 4) (vs' := [.ref (ad 10 0), .int x, .int 16]) (st' := [.int 16]) (M' := mm M f g) (ps := []) rfl trivial ?_
    refine go_if rfl (fun (z : (16 : Int32) < 0) => absurd z (show ¬ ((16 : Int32) < 0) from (by decide))) (fun _ => ?_)
    refine go_blk 5 [] (pc' := 14) (vs' := [.ref (ad 10 0), .int x, .int 16]) (st' := [.int ((x >>> (16 &&& 31)) &&& 255)]) (M' := mm M f g) (ps := []) rfl trivial ?_
    refine go_if rfl (fun (z : ¬ ((x >>> (16 &&& 31)) &&& 255) = 0) => absurd z (show ¬ (¬ ((x >>> (16 &&& 31)) &&& 255) = 0) from (not_not_intro cz0))) (fun _ => ?_)
    refine go_blk 3 [] (pc' := 3) (vs' := [.ref (ad 10 0), .int x, .int (16 + (-8))]) (st' := []) (M' := mm M f g) (ps := []) rfl trivial ?_
    rw [show (16 : Int32) + (-8) = 8 from rfl]
    have cz : ((x >>> (16 &&& 31)) &&& 255 = 0) := cz0
    rw [bM, if_pos cz] at hl hR
    exact lp_Mo_put_8 hi hM hn hl hR
  ·
    have hlt : n < 120 := by have z := hl; rw [bM, if_neg cz0, List.length_cons] at z; omega
    show Go d 238 0 0 3 [.ref (ad 10 0), .int x, .int 16] [] (mm M f g) R
    refine go_blk 1 [] (pc' := 4) (vs' := [.ref (ad 10 0), .int x, .int 16]) (st' := [.int 16]) (M' := mm M f g) (ps := []) rfl trivial ?_
    refine go_if rfl (fun (z : (16 : Int32) < 0) => absurd z (show ¬ ((16 : Int32) < 0) from (by decide))) (fun _ => ?_)
    refine go_blk 5 [] (pc' := 14) (vs' := [.ref (ad 10 0), .int x, .int 16]) (st' := [.int ((x >>> (16 &&& 31)) &&& 255)]) (M' := mm M f g) (ps := []) rfl trivial ?_
    refine go_if rfl (fun _ => ?_) (fun (z : ¬ (¬ ((x >>> (16 &&& 31)) &&& 255) = 0)) => absurd (show ¬ ((x >>> (16 &&& 31)) &&& 255) = 0 from cz0) z)
    refine go_blk 17 [some (.ref (ad 9 75)), some (.int (nI n)), some (.int (nI n))] (pc' := 3) (vs' := [.ref (ad 10 0), .int x, .int (16 + (-8))]) (st' := []) (M' := mm M (up2 (up2 f (ad 9 75) ((nI n).toNatClampNeg) (vp_nar .byte ((x >>> (16 &&& 31)).toInt8.toInt32))) (ad 10 0) 80 ((nI n) + 1)) g) (ps := [ob (mm M f g) (ad 10 0) 12, mR (mm M f g) (ad 10 0) 75 = some (ad 9 75), va_rf (some (ad 9 75)) = .ref (ad 9 75), ob (mm M f g) (ad 10 0) 12, (Value.int (f (ad 10 0) 80)) = .int (nI n), ob (mm M f g) (ad 9 75) 14, vp_in (nI n) (mN (mm M f g) (ad 9 75)), (.ref (ad 10 0) : Value).category = 1, ob (mm M (up2 f (ad 9 75) ((nI n).toNatClampNeg) (vp_nar .byte ((x >>> (16 &&& 31)).toInt8.toInt32))) g) (ad 10 0) 12, (Value.int ((up2 f (ad 9 75) ((nI n).toNatClampNeg) (vp_nar .byte ((x >>> (16 &&& 31)).toInt8.toInt32))) (ad 10 0) 80)) = .int (nI n), ob (mm M (up2 f (ad 9 75) ((nI n).toNatClampNeg) (vp_nar .byte ((x >>> (16 &&& 31)).toInt8.toInt32))) g) (ad 10 0) 12]) rfl ⟨hM.1, (hM.r 75 14 120), rfl, hM.1, congrArg Value.int hn, (hM.o 75 14 120), (vpi (hM.n 75 14 120) (show n < 120 by omega)), rfl, hM.1, congrArg Value.int (((up2_n _ _ (fun z => absurd (hi _ _ _ _ z.1).1 (by decide))).trans (rfl)).trans hn), hM.1, trivial⟩ ?_
    rw [nI_clamp (n := n) (by omega)]
    rw [show (16 : Int32) + (-8) = 8 from rfl]
    have cz : ¬ ((x >>> (16 &&& 31)) &&& 255 = 0) := cz0
    rw [bM, if_neg cz] at hl hR
    rw [List.length_cons] at hl
    rw [show nI n + 1 = nI (n + 1) from nI_add n 1]
    rw [show vp_nar .byte (x >>> (16 &&& 31)).toInt8.toInt32 = (x >>> (16 &&& 31)).toInt8.toInt32 from b8_32 _]
    exact lp_Mo_put_8 (n := n + 1) (f := up2 (up2 f (ad 9 75) n ((x >>> (16 &&& 31)).toInt8.toInt32)) (ad 10 0) 80 (nI (n + 1))) hi hM (up2_s _ _ _ _) (by omega) (fun f' hA => hR f' (Ap.cons (fun z => absurd (hi _ _ _ _ z).1 (by decide)) hA))

set_option maxRecDepth 100000 in
theorem lp_Mo_put_24 {d : Nat} {M : Mem} {g : Nat → Nat → Int64} {ad : Nat → Nat → Nat} {R : Option Value → Mem → Prop} {x : Int32} {n : Nat} {f : Nat → Nat → Int32} (hi : Inj ad) (hM : Mx M ad) (hn : f (ad 10 0) 80 = nI n) (hl : n + (bM x [24, 16, 8, 0]).length ≤ 120) (hR : ∀ f', Ap f f' (ad 9 75) (ad 10 0) 80 n (bM x [24, 16, 8, 0]) → R none (mm M f' g)) : Go d 238 0 0 3 [.ref (ad 10 0), .int x, .int 24] [] (mm M f g) R := by
  by_cases cz0 : (x >>> (24 &&& 31)) &&& 255 = 0
  ·
    show Go d 238 0 0 3 [.ref (ad 10 0), .int x, .int 24] [] (mm M f g) R
    refine go_blk 1 [] (pc' := 4) (vs' := [.ref (ad 10 0), .int x, .int 24]) (st' := [.int 24]) (M' := mm M f g) (ps := []) rfl trivial ?_
    refine go_if rfl (fun (z : (24 : Int32) < 0) => absurd z (show ¬ ((24 : Int32) < 0) from (by decide))) (fun _ => ?_)
    refine go_blk 5 [] (pc' := 14) (vs' := [.ref (ad 10 0), .int x, .int 24]) (st' := [.int ((x >>> (24 &&& 31)) &&& 255)]) (M' := mm M f g) (ps := []) rfl trivial ?_
    refine go_if rfl (fun (z : ¬ ((x >>> (24 &&& 31)) &&& 255) = 0) => absurd z (show ¬ (¬ ((x >>> (24 &&& 31)) &&& 255) = 0) from (not_not_intro cz0))) (fun _ => ?_)
    refine go_blk 3 [] (pc' := 3) (vs' := [.ref (ad 10 0), .int x, .int (24 + (-8))]) (st' := []) (M' := mm M f g) (ps := []) rfl trivial ?_
    rw [show (24 : Int32) + (-8) = 16 from rfl]
    have cz : ((x >>> (24 &&& 31)) &&& 255 = 0) := cz0
    rw [bM, if_pos cz] at hl hR
    exact lp_Mo_put_16 hi hM hn hl hR
  ·
    have hlt : n < 120 := by have z := hl; rw [bM, if_neg cz0, List.length_cons] at z; omega
    show Go d 238 0 0 3 [.ref (ad 10 0), .int x, .int 24] [] (mm M f g) R
    refine go_blk 1 [] (pc' := 4) (vs' := [.ref (ad 10 0), .int x, .int 24]) (st' := [.int 24]) (M' := mm M f g) (ps := []) rfl trivial ?_
    refine go_if rfl (fun (z : (24 : Int32) < 0) => absurd z (show ¬ ((24 : Int32) < 0) from (by decide))) (fun _ => ?_)
    refine go_blk 5 [] (pc' := 14) (vs' := [.ref (ad 10 0), .int x, .int 24]) (st' := [.int ((x >>> (24 &&& 31)) &&& 255)]) (M' := mm M f g) (ps := []) rfl trivial ?_
    refine go_if rfl (fun _ => ?_) (fun (z : ¬ (¬ ((x >>> (24 &&& 31)) &&& 255) = 0)) => absurd (show ¬ ((x >>> (24 &&& 31)) &&& 255) = 0 from cz0) z)
    refine go_blk 17 [some (.ref (ad 9 75)), some (.int (nI n)), some (.int (nI n))] (pc' := 3) (vs' := [.ref (ad 10 0), .int x, .int (24 + (-8))]) (st' := []) (M' := mm M (up2 (up2 f (ad 9 75) ((nI n).toNatClampNeg) (vp_nar .byte ((x >>> (24 &&& 31)).toInt8.toInt32))) (ad 10 0) 80 ((nI n) + 1)) g) (ps := [ob (mm M f g) (ad 10 0) 12, mR (mm M f g) (ad 10 0) 75 = some (ad 9 75), va_rf (some (ad 9 75)) = .ref (ad 9 75), ob (mm M f g) (ad 10 0) 12, (Value.int (f (ad 10 0) 80)) = .int (nI n), ob (mm M f g) (ad 9 75) 14, vp_in (nI n) (mN (mm M f g) (ad 9 75)), (.ref (ad 10 0) : Value).category = 1, ob (mm M (up2 f (ad 9 75) ((nI n).toNatClampNeg) (vp_nar .byte ((x >>> (24 &&& 31)).toInt8.toInt32))) g) (ad 10 0) 12, (Value.int ((up2 f (ad 9 75) ((nI n).toNatClampNeg) (vp_nar .byte ((x >>> (24 &&& 31)).toInt8.toInt32))) (ad 10 0) 80)) = .int (nI n), ob (mm M (up2 f (ad 9 75) ((nI n).toNatClampNeg) (vp_nar .byte ((x >>> (24 &&& 31)).toInt8.toInt32))) g) (ad 10 0) 12]) rfl ⟨hM.1, (hM.r 75 14 120), rfl, hM.1, congrArg Value.int hn, (hM.o 75 14 120), (vpi (hM.n 75 14 120) (show n < 120 by omega)), rfl, hM.1, congrArg Value.int (((up2_n _ _ (fun z => absurd (hi _ _ _ _ z.1).1 (by decide))).trans (rfl)).trans hn), hM.1, trivial⟩ ?_
    rw [nI_clamp (n := n) (by omega)]
    rw [show (24 : Int32) + (-8) = 16 from rfl]
    have cz : ¬ ((x >>> (24 &&& 31)) &&& 255 = 0) := cz0
    rw [bM, if_neg cz] at hl hR
    rw [List.length_cons] at hl
    rw [show nI n + 1 = nI (n + 1) from nI_add n 1]
    rw [show vp_nar .byte (x >>> (24 &&& 31)).toInt8.toInt32 = (x >>> (24 &&& 31)).toInt8.toInt32 from b8_32 _]
    exact lp_Mo_put_16 (n := n + 1) (f := up2 (up2 f (ad 9 75) n ((x >>> (24 &&& 31)).toInt8.toInt32)) (ad 10 0) 80 (nI (n + 1))) hi hM (up2_s _ _ _ _) (by omega) (fun f' hA => hR f' (Ap.cons (fun z => absurd (hi _ _ _ _ z).1 (by decide)) hA))

theorem s_Mo_put {d : Nat} {M : Mem} {g : Nat → Nat → Int64} {ad : Nat → Nat → Nat} {R : Option Value → Mem → Prop} {x : Int32} {n : Nat} {f : Nat → Nat → Int32} (hi : Inj ad) (hM : Mx M ad) (hn : f (ad 10 0) 80 = nI n) (hl : n + (bM x [24, 16, 8, 0]).length ≤ 120) (hR : ∀ f', Ap f f' (ad 9 75) (ad 10 0) 80 n (bM x [24, 16, 8, 0]) → R none (mm M f' g)) : Call d 238 [.ref (ad 10 0), .int x] (mm M f g) R := by
  show Go d 238 0 0 0 [.ref (ad 10 0), .int x, .retAddr 0] [] (mm M f g) R
  refine go_blk 2 [] (pc' := 3) (vs' := [.ref (ad 10 0), .int x, .int 24]) (st' := []) (M' := mm M f g) (ps := []) rfl trivial ?_
  exact lp_Mo_put_24 hi hM hn hl hR

set_option maxHeartbeats 20000000 in
set_option maxRecDepth 100000 in
theorem op26 {x o u : Nat} {sc : Nat × Nat × (Nat → Int32)} : Op26 (II x o u sc) x o := by
  intro M a1 a2 a3 a4 a5 hI R K
  obtain ⟨hsc, ad, nc, nb, nt, wk, nw, nx, nl, ne, nk, kd, op, rfl, rfl, rfl, hW⟩ := hI
  obtain ⟨hi, ⟨hF, hM, hC, hB, hT, hX⟩, ⟨iS, iC, iB, iR, iL, iT⟩, ⟨jO, jR, jB, jX, jL⟩, kO, kC, kD, kP, kX⟩ := id hW
  obtain ⟨⟨nc1, nc2, nc3⟩, ⟨nb1, nb2, nb3⟩, ⟨nt1, nt2, nt3⟩, ⟨wk1, wk2, wk3⟩, ⟨nw1, nw2, nw3⟩, ⟨op1, op2, op3⟩, ncm, ncm1, ncm2, ncm3⟩ := id iS
  simp only [vw] at nc1 nc2 nb1 nb2 nt1 nt2 wk1 wk2 nw1 nw2 op1 op2 ncm2 ncm3
  obtain ⟨nn, nn3, nn1, nn2, nnb⟩ := jX.2.1
  simp only [vw] at nn1 nn2
  have nl3 := jL.1.2.2.1
  have nx3 := jX.1.2.2
  have nk3 := jB.1.2.2.2.2.1
  have ne3 := jB.1.2.2.2.2.2
  obtain ⟨l1, l2, l3, l4, l5, hl1, hl2, hl3, hl4, hl5⟩ : ∃ l1 l2 l3 l4 l5, l1 = bL a1 [24, 16, 8, 0] ∧ l2 = bL a2 [24, 16, 8, 0] ∧ l3 = bL a3 [24, 16, 8, 0] ∧ l4 = bL a4 [24, 16, 8, 0] ∧ l5 = bL a5 [24, 16, 8, 0] := ⟨_, _, _, _, _, rfl, rfl, rfl, rfl, rfl⟩
  obtain ⟨m1, hm1⟩ : ∃ m, m = bM a1 [24, 16, 8, 0] := ⟨_, rfl⟩
  obtain ⟨m2, hm2⟩ : ∃ m, m = bM a2 [24, 16, 8, 0] := ⟨_, rfl⟩
  obtain ⟨m3, hm3⟩ : ∃ m, m = bM a3 [24, 16, 8, 0] := ⟨_, rfl⟩
  obtain ⟨m4, hm4⟩ : ∃ m, m = bM a4 [24, 16, 8, 0] := ⟨_, rfl⟩
  obtain ⟨m5, hm5⟩ : ∃ m, m = bM a5 [24, 16, 8, 0] := ⟨_, rfl⟩
  have b1 := bLM a1 [24, 16, 8, 0] (fun s hs => hs)
  rw [← hl1, ← hm1] at b1
  have b2 := bLM a2 [24, 16, 8, 0] (fun s hs => hs)
  rw [← hl2, ← hm2] at b2
  have b3 := bLM a3 [24, 16, 8, 0] (fun s hs => hs)
  rw [← hl3, ← hm3] at b3
  have b4 := bLM a4 [24, 16, 8, 0] (fun s hs => hs)
  rw [← hl4, ← hm4] at b4
  have b5 := bLM a5 [24, 16, 8, 0] (fun s hs => hs)
  rw [← hl5, ← hm5] at b5
  have z1 : l1.length ≤ 4 := by rw [hl1]; simp only [bL]; split <;> split <;> split <;> split <;> simp
  have z2 : l2.length ≤ 4 := by rw [hl2]; simp only [bL]; split <;> split <;> split <;> split <;> simp
  have z3 : l3.length ≤ 4 := by rw [hl3]; simp only [bL]; split <;> split <;> split <;> split <;> simp
  have z4 : l4.length ≤ 4 := by rw [hl4]; simp only [bL]; split <;> split <;> split <;> split <;> simp
  have z5 : l5.length ≤ 4 := by rw [hl5]; simp only [bL]; split <;> split <;> split <;> split <;> simp
  show Go 1311 142 0 0 0 [.ref (ad 0 0), .int a1, .int a2, .int a3, .int a4, .int a5, .retAddr 0, .retAddr 0] [] (mm M (mI M) (mJ M)) R
  refine go_blk 1 [] (pc' := 1) (vs' := [.ref (ad 0 0), .int a1, .int a2, .int a3, .int a4, .int a5, .retAddr 0, .retAddr 0]) (st' := [.int a1]) (M' := mm M (mI M) (mJ M)) (ps := []) rfl trivial ?_
  refine go_callS rfl (by decide) rfl rfl (by omega) rfl (by decide) (by decide) ?_
  refine s_Tx_bytesOf (Nat.zero_le _) ⟨ne_i, ?_⟩
  rw [← hl1]
  show Go 1311 142 0 0 4 [.ref (ad 0 0), .int a1, .int a2, .int a3, .int a4, .int a5, .retAddr 0, .retAddr 0] [.int (nI l1.length)] (mm M (mI M) (mJ M)) R
  refine go_blk 1 [] (pc' := 5) (vs' := [.ref (ad 0 0), .int a1, .int a2, .int a3, .int a4, .int a5, .retAddr 0, .retAddr 0]) (st' := [.int a2, .int (nI l1.length)]) (M' := mm M (mI M) (mJ M)) (ps := []) rfl trivial ?_
  refine go_callS rfl (by decide) rfl rfl (by omega) rfl (by decide) (by decide) ?_
  refine s_Tx_bytesOf (Nat.zero_le _) ⟨ne_i, ?_⟩
  rw [← hl2]
  show Go 1311 142 0 0 8 [.ref (ad 0 0), .int a1, .int a2, .int a3, .int a4, .int a5, .retAddr 0, .retAddr 0] [.int (nI l2.length), .int (nI l1.length)] (mm M (mI M) (mJ M)) R
  refine go_blk 2 [] (pc' := 10) (vs' := [.ref (ad 0 0), .int a1, .int a2, .int a3, .int a4, .int a5, .retAddr 0, .retAddr 0]) (st' := [.int a3, .int ((nI l1.length) + nI l2.length)]) (M' := mm M (mI M) (mJ M)) (ps := []) rfl trivial ?_
  refine go_callS rfl (by decide) rfl rfl (by omega) rfl (by decide) (by decide) ?_
  refine s_Tx_bytesOf (Nat.zero_le _) ⟨ne_i, ?_⟩
  rw [← hl3]
  show Go 1311 142 0 0 13 [.ref (ad 0 0), .int a1, .int a2, .int a3, .int a4, .int a5, .retAddr 0, .retAddr 0] [.int (nI l3.length), .int ((nI l1.length) + nI l2.length)] (mm M (mI M) (mJ M)) R
  refine go_blk 2 [] (pc' := 16) (vs' := [.ref (ad 0 0), .int a1, .int a2, .int a3, .int a4, .int a5, .retAddr 0, .retAddr 0]) (st' := [.int a4, .int (((nI l1.length) + nI l2.length) + nI l3.length)]) (M' := mm M (mI M) (mJ M)) (ps := []) rfl trivial ?_
  refine go_callS rfl (by decide) rfl rfl (by omega) rfl (by decide) (by decide) ?_
  refine s_Tx_bytesOf (Nat.zero_le _) ⟨ne_i, ?_⟩
  rw [← hl4]
  show Go 1311 142 0 0 19 [.ref (ad 0 0), .int a1, .int a2, .int a3, .int a4, .int a5, .retAddr 0, .retAddr 0] [.int (nI l4.length), .int (((nI l1.length) + nI l2.length) + nI l3.length)] (mm M (mI M) (mJ M)) R
  refine go_blk 2 [] (pc' := 22) (vs' := [.ref (ad 0 0), .int a1, .int a2, .int a3, .int a4, .int a5, .retAddr 0, .retAddr 0]) (st' := [.int a5, .int ((((nI l1.length) + nI l2.length) + nI l3.length) + nI l4.length)]) (M' := mm M (mI M) (mJ M)) (ps := []) rfl trivial ?_
  refine go_callS rfl (by decide) rfl rfl (by omega) rfl (by decide) (by decide) ?_
  refine s_Tx_bytesOf (Nat.zero_le _) ⟨ne_i, ?_⟩
  rw [← hl5]
  show Go 1311 142 0 0 25 [.ref (ad 0 0), .int a1, .int a2, .int a3, .int a4, .int a5, .retAddr 0, .retAddr 0] [.int (nI l5.length), .int ((((nI l1.length) + nI l2.length) + nI l3.length) + nI l4.length)] (mm M (mI M) (mJ M)) R
  obtain ⟨tot, htot⟩ : ∃ tot, tot = l1.length + l2.length + l3.length + l4.length + l5.length := ⟨_, rfl⟩
  have eT : ((((nI l1.length) + nI l2.length) + nI l3.length) + nI l4.length) + nI l5.length = nI tot := by rw [nI_add, nI_add, nI_add, nI_add, htot]
  refine go_blk 2 [] (pc' := 28) (vs' := [.ref (ad 0 0), .int a1, .int a2, .int a3, .int a4, .int a5, .int (((((nI l1.length) + nI l2.length) + nI l3.length) + nI l4.length) + nI l5.length), .retAddr 0]) (st' := []) (M' := mm M (mI M) (mJ M)) (ps := []) rfl trivial ?_
  rw [eT]
  refine go_blk 9 [some (.ref (ad 0 10)), some (.ref (ad 7 nx)), some (.int (nI nn))] (pc' := 47) (vs' := [.ref (ad 0 0), .int a1, .int a2, .int a3, .int a4, .int a5, .int (nI tot), .ref (ad 7 nx)]) (st' := [.int 120, .int (nI nn + nI tot)]) (M' := mm M (mI M) (mJ M)) (ps := [ob (mm M (mI M) (mJ M)) (ad 0 0) 11, mR (mm M (mI M) (mJ M)) (ad 0 0) 17 = some (ad 0 10), va_rf (some (ad 0 10)) = .ref (ad 0 10), ob (mm M (mI M) (mJ M)) (ad 0 10) 10, mR (mm M (mI M) (mJ M)) (ad 0 10) 0 = some (ad 7 nx), va_rf (some (ad 7 nx)) = .ref (ad 7 nx), ob (mm M (mI M) (mJ M)) (ad 7 nx) 9, Value.int (mI M (ad 7 nx) 1) = .int (nI nn)]) rfl ⟨hF.o 0, hF.r 0 17 10, rfl, hF.o 10, hX.1, rfl, (hX.2.2 nx (Nat.le_refl _)).1, congrArg Value.int nn1, trivial⟩ ?_
  have oX : ∀ f : Nat → Nat → Int32, ob (mm M f (mJ M)) (ad 7 nx) 9 := fun f => (hX.2.2 nx (Nat.le_refl _)).1
  rw [nI_add nn tot]
  have hML : m1.length + m2.length + m3.length + m4.length + m5.length = tot := by omega
  have eqL1 : ((((l1 ++ l2) ++ l3) ++ l4) ++ l5).length = tot := by simp only [List.length_append]; omega
  have eqL2 : ((((m1 ++ m2) ++ m3) ++ m4) ++ m5).length = tot := by simp only [List.length_append]; omega
  have gbA : ∀ (p q r s : List Int32), p.length = r.length → (∀ i, i < p.length → bts (p.getD i 0) (r.getD i 0)) → q.length = s.length → (∀ i, i < q.length → bts (q.getD i 0) (s.getD i 0)) → (p ++ q).length = (r ++ s).length ∧ ∀ i, i < (p ++ q).length → bts ((p ++ q).getD i 0) ((r ++ s).getD i 0) := by
    intro p q r s e1 g1 e2 g2
    refine ⟨by rw [List.length_append, List.length_append, e1, e2], fun i hi2 => ?_⟩
    rw [List.length_append] at hi2
    simp only [List.getD_eq_getElem?_getD] at g1 g2 ⊢
    by_cases c : i < p.length
    · rw [List.getElem?_append_left c, List.getElem?_append_left (by omega)]
      exact g1 i c
    · rw [List.getElem?_append_right (by omega), List.getElem?_append_right (by omega), ← e1]
      exact g2 (i - p.length) (by omega)
  have c12 := gbA _ _ _ _ b1.1 b1.2 b2.1 b2.2
  have c13 := gbA _ _ _ _ c12.1 c12.2 b3.1 b3.2
  have c14 := gbA _ _ _ _ c13.1 c13.2 b4.1 b4.2
  have gb : ∀ i, i < tot → bts ((((((l1 ++ l2) ++ l3) ++ l4) ++ l5)).getD i 0) ((((((m1 ++ m2) ++ m3) ++ m4) ++ m5)).getD i 0) := fun i h => (gbA _ _ _ _ c14.1 c14.2 b5.1 b5.2).2 i (by rw [eqL1]; exact h)
  refine go_icmp rfl (fun (c0 : nI (nn + tot) ≤ 120) => ?_) (fun (c0 : ¬ nI (nn + tot) ≤ 120) => ?_)
  · have hle : nn + tot ≤ 120 := (nI_les (a := nn + tot) (b := 120) (by omega) (by decide)).mp c0
    refine go_blk 2 [] (pc' := 55) (vs' := [.ref (ad 0 0), .int a1, .int a2, .int a3, .int a4, .int a5, .int (nI tot), .ref (ad 7 nx)]) (st' := [.int a1, .ref (ad 7 nx)]) (M' := mm M (mI M) (mJ M)) (ps := []) rfl trivial ?_
    refine go_callV rfl rfl rfl (by omega) rfl (by decide) (by decide) (oX _) ?_
    refine s_Tx_addBytes (n := nn) hi hX nn1 (by rw [← hl1]; omega) (fun f1 hA1 => ⟨ne_v, ?_⟩)
    rw [← hl1] at hA1
    show Go 1311 142 0 0 58 [.ref (ad 0 0), .int a1, .int a2, .int a3, .int a4, .int a5, .int (nI tot), .ref (ad 7 nx)] [] (mm M f1 (mJ M)) R
    refine go_blk 2 [] (pc' := 61) (vs' := [.ref (ad 0 0), .int a1, .int a2, .int a3, .int a4, .int a5, .int (nI tot), .ref (ad 7 nx)]) (st' := [.int a2, .ref (ad 7 nx)]) (M' := mm M (f1) (mJ M)) (ps := []) rfl trivial ?_
    refine go_callV rfl rfl rfl (by omega) rfl (by decide) (by decide) (oX _) ?_
    refine s_Tx_addBytes (n := nn + l1.length) hi hX hA1.1 (by rw [← hl2]; omega) (fun f2 hA2 => ⟨ne_v, ?_⟩)
    rw [← hl2] at hA2
    show Go 1311 142 0 0 64 [.ref (ad 0 0), .int a1, .int a2, .int a3, .int a4, .int a5, .int (nI tot), .ref (ad 7 nx)] [] (mm M f2 (mJ M)) R
    refine go_blk 2 [] (pc' := 67) (vs' := [.ref (ad 0 0), .int a1, .int a2, .int a3, .int a4, .int a5, .int (nI tot), .ref (ad 7 nx)]) (st' := [.int a3, .ref (ad 7 nx)]) (M' := mm M (f2) (mJ M)) (ps := []) rfl trivial ?_
    refine go_callV rfl rfl rfl (by omega) rfl (by decide) (by decide) (oX _) ?_
    refine s_Tx_addBytes (n := nn + l1.length + l2.length) hi hX hA2.1 (by rw [← hl3]; omega) (fun f3 hA3 => ⟨ne_v, ?_⟩)
    rw [← hl3] at hA3
    show Go 1311 142 0 0 70 [.ref (ad 0 0), .int a1, .int a2, .int a3, .int a4, .int a5, .int (nI tot), .ref (ad 7 nx)] [] (mm M f3 (mJ M)) R
    refine go_blk 2 [] (pc' := 74) (vs' := [.ref (ad 0 0), .int a1, .int a2, .int a3, .int a4, .int a5, .int (nI tot), .ref (ad 7 nx)]) (st' := [.int a4, .ref (ad 7 nx)]) (M' := mm M (f3) (mJ M)) (ps := []) rfl trivial ?_
    refine go_callV rfl rfl rfl (by omega) rfl (by decide) (by decide) (oX _) ?_
    refine s_Tx_addBytes (n := nn + l1.length + l2.length + l3.length) hi hX hA3.1 (by rw [← hl4]; omega) (fun f4 hA4 => ⟨ne_v, ?_⟩)
    rw [← hl4] at hA4
    show Go 1311 142 0 0 77 [.ref (ad 0 0), .int a1, .int a2, .int a3, .int a4, .int a5, .int (nI tot), .ref (ad 7 nx)] [] (mm M f4 (mJ M)) R
    refine go_blk 2 [] (pc' := 81) (vs' := [.ref (ad 0 0), .int a1, .int a2, .int a3, .int a4, .int a5, .int (nI tot), .ref (ad 7 nx)]) (st' := [.int a5, .ref (ad 7 nx)]) (M' := mm M (f4) (mJ M)) (ps := []) rfl trivial ?_
    refine go_callV rfl rfl rfl (by omega) rfl (by decide) (by decide) (oX _) ?_
    refine s_Tx_addBytes (n := nn + l1.length + l2.length + l3.length + l4.length) hi hX hA4.1 (by rw [← hl5]; omega) (fun f5 hA5 => ⟨ne_v, ?_⟩)
    rw [← hl5] at hA5
    show Go 1311 142 0 0 84 [.ref (ad 0 0), .int a1, .int a2, .int a3, .int a4, .int a5, .int (nI tot), .ref (ad 7 nx)] [] (mm M f5 (mJ M)) R
    refine go_blk 2 [some (.int (nI (nn + tot)))] (pc' := 89) (vs' := [.ref (ad 0 0), .int a1, .int a2, .int a3, .int a4, .int a5, .int (nI tot), .ref (ad 7 nx)]) (st' := [.int (nI (nn + tot))]) (M' := mm M f5 (mJ M)) (ps := [ob (mm M f5 (mJ M)) (ad 7 nx) 9, Value.int (f5 (ad 7 nx) 1) = .int (nI (nn + tot))]) rfl ⟨oX _, congrArg Value.int (hA5.1.trans (by congr 1; omega)), trivial⟩ ?_
    refine go_iret rfl rfl ?_
    have n8 : ¬ ad 8 nx = ad 7 nx := fun z => absurd (hi _ _ _ _ z).1 (by decide)
    have AA := Ap.app n8 (Ap.app n8 (Ap.app n8 (Ap.app n8 hA1 hA2) (by rw [List.length_append, ← Nat.add_assoc]; exact hA3)) (by rw [List.length_append, List.length_append, ← Nat.add_assoc, ← Nat.add_assoc]; exact hA4)) (by rw [List.length_append, List.length_append, List.length_append, ← Nat.add_assoc, ← Nat.add_assoc, ← Nat.add_assoc]; exact hA5)
    have n80 : f5 (ad 10 0) 80 = nI nn := (AA.2.2 _ _ (fun z => absurd (hi _ _ _ _ z.1).1 (by decide)) (fun z => absurd (hi _ _ _ _ z.1).1 (by decide))).trans nn2
    refine K _ _ hM.1 rfl (fun R2 h2 => ?_)
    show Go 1311 239 0 0 0 [.ref (ad 10 0), .int a1, .int a2, .int a3, .int a4, .int a5] [] (mm M (f5) (mJ M)) R2
    have v80 : (up2 (f5) (ad 10 0) 0 0) (ad 10 0) 80 = nI nn := by show up2 (f5) (ad 10 0) 0 0 (ad 10 0) 80 = nI nn; rw [up2_n _ _ (fun z => absurd z.2 (by decide))]; exact n80
    refine go_blk 6 [some (.int (nI nn))] (pc' := 10) (vs' := [.ref (ad 10 0), .int a1, .int a2, .int a3, .int a4, .int a5]) (st' := [.int a1, .int (nI nn)]) (M' := mm M (up2 (f5) (ad 10 0) 0 0) (mJ M)) (ps := [ob (mm M (f5) (mJ M)) (ad 10 0) 12, ob (mm M (up2 (f5) (ad 10 0) 0 0) (mJ M)) (ad 10 0) 12, Value.int ((up2 (f5) (ad 10 0) 0 0) (ad 10 0) 80) = .int (nI nn)]) rfl ⟨hM.1, hM.1, congrArg Value.int v80, trivial⟩ ?_
    refine go_callS rfl (by decide) rfl rfl (by omega) rfl (by decide) (by decide) ?_
    refine s_Mo_bytesIn (Nat.zero_le _) ⟨ne_i, ?_⟩
    rw [← hm1]
    show Go 1311 239 0 0 13 [.ref (ad 10 0), .int a1, .int a2, .int a3, .int a4, .int a5] [.int (nI m1.length), .int (nI nn)] (mm M (up2 (f5) (ad 10 0) 0 0) (mJ M)) R2
    refine go_blk 2 [] (pc' := 15) (vs' := [.ref (ad 10 0), .int a1, .int a2, .int a3, .int a4, .int a5]) (st' := [.int a2, .int ((nI nn) + nI m1.length)]) (M' := mm M (up2 (f5) (ad 10 0) 0 0) (mJ M)) (ps := []) rfl trivial ?_
    refine go_callS rfl (by decide) rfl rfl (by omega) rfl (by decide) (by decide) ?_
    refine s_Mo_bytesIn (Nat.zero_le _) ⟨ne_i, ?_⟩
    rw [← hm2]
    show Go 1311 239 0 0 18 [.ref (ad 10 0), .int a1, .int a2, .int a3, .int a4, .int a5] [.int (nI m2.length), .int ((nI nn) + nI m1.length)] (mm M (up2 (f5) (ad 10 0) 0 0) (mJ M)) R2
    refine go_blk 2 [] (pc' := 20) (vs' := [.ref (ad 10 0), .int a1, .int a2, .int a3, .int a4, .int a5]) (st' := [.int a3, .int (((nI nn) + nI m1.length) + nI m2.length)]) (M' := mm M (up2 (f5) (ad 10 0) 0 0) (mJ M)) (ps := []) rfl trivial ?_
    refine go_callS rfl (by decide) rfl rfl (by omega) rfl (by decide) (by decide) ?_
    refine s_Mo_bytesIn (Nat.zero_le _) ⟨ne_i, ?_⟩
    rw [← hm3]
    show Go 1311 239 0 0 23 [.ref (ad 10 0), .int a1, .int a2, .int a3, .int a4, .int a5] [.int (nI m3.length), .int (((nI nn) + nI m1.length) + nI m2.length)] (mm M (up2 (f5) (ad 10 0) 0 0) (mJ M)) R2
    refine go_blk 2 [] (pc' := 26) (vs' := [.ref (ad 10 0), .int a1, .int a2, .int a3, .int a4, .int a5]) (st' := [.int a4, .int ((((nI nn) + nI m1.length) + nI m2.length) + nI m3.length)]) (M' := mm M (up2 (f5) (ad 10 0) 0 0) (mJ M)) (ps := []) rfl trivial ?_
    refine go_callS rfl (by decide) rfl rfl (by omega) rfl (by decide) (by decide) ?_
    refine s_Mo_bytesIn (Nat.zero_le _) ⟨ne_i, ?_⟩
    rw [← hm4]
    show Go 1311 239 0 0 29 [.ref (ad 10 0), .int a1, .int a2, .int a3, .int a4, .int a5] [.int (nI m4.length), .int ((((nI nn) + nI m1.length) + nI m2.length) + nI m3.length)] (mm M (up2 (f5) (ad 10 0) 0 0) (mJ M)) R2
    refine go_blk 2 [] (pc' := 32) (vs' := [.ref (ad 10 0), .int a1, .int a2, .int a3, .int a4, .int a5]) (st' := [.int a5, .int (((((nI nn) + nI m1.length) + nI m2.length) + nI m3.length) + nI m4.length)]) (M' := mm M (up2 (f5) (ad 10 0) 0 0) (mJ M)) (ps := []) rfl trivial ?_
    refine go_callS rfl (by decide) rfl rfl (by omega) rfl (by decide) (by decide) ?_
    refine s_Mo_bytesIn (Nat.zero_le _) ⟨ne_i, ?_⟩
    rw [← hm5]
    show Go 1311 239 0 0 35 [.ref (ad 10 0), .int a1, .int a2, .int a3, .int a4, .int a5] [.int (nI m5.length), .int (((((nI nn) + nI m1.length) + nI m2.length) + nI m3.length) + nI m4.length)] (mm M (up2 (f5) (ad 10 0) 0 0) (mJ M)) R2
    refine go_blk 2 [] (pc' := 38) (vs' := [.ref (ad 10 0), .int a1, .int a2, .int a3, .int a4, .int a5]) (st' := [.int 120, .int ((((((nI nn) + nI m1.length) + nI m2.length) + nI m3.length) + nI m4.length) + nI m5.length)]) (M' := mm M (up2 (f5) (ad 10 0) 0 0) (mJ M)) (ps := []) rfl trivial ?_
    rw [show (((((nI nn) + nI m1.length) + nI m2.length) + nI m3.length) + nI m4.length) + nI m5.length = nI (nn + tot) by rw [nI_add, nI_add, nI_add, nI_add, nI_add]; congr 1; omega]
    refine go_icmp rfl (fun _ => ?_) (fun (z : ¬ nI (nn + tot) ≤ 120) => absurd c0 z)
    refine go_blk 2 [] (pc' := 45) (vs' := [.ref (ad 10 0), .int a1, .int a2, .int a3, .int a4, .int a5]) (st' := [.int a1, .ref (ad 10 0)]) (M' := mm M (up2 (f5) (ad 10 0) 0 0) (mJ M)) (ps := []) rfl trivial ?_
    refine go_callV rfl rfl rfl (by omega) rfl (by decide) (by decide) hM.1 ?_
    refine s_Mo_put (n := nn) hi hM v80 (by rw [← hm1]; omega) (fun g1 hB1 => ⟨ne_v, ?_⟩)
    rw [← hm1] at hB1
    show Go 1311 239 0 0 48 [.ref (ad 10 0), .int a1, .int a2, .int a3, .int a4, .int a5] [] (mm M g1 (mJ M)) R2
    refine go_blk 2 [] (pc' := 50) (vs' := [.ref (ad 10 0), .int a1, .int a2, .int a3, .int a4, .int a5]) (st' := [.int a2, .ref (ad 10 0)]) (M' := mm M (g1) (mJ M)) (ps := []) rfl trivial ?_
    refine go_callV rfl rfl rfl (by omega) rfl (by decide) (by decide) hM.1 ?_
    refine s_Mo_put (n := nn + m1.length) hi hM hB1.1 (by rw [← hm2]; omega) (fun g2 hB2 => ⟨ne_v, ?_⟩)
    rw [← hm2] at hB2
    show Go 1311 239 0 0 53 [.ref (ad 10 0), .int a1, .int a2, .int a3, .int a4, .int a5] [] (mm M g2 (mJ M)) R2
    refine go_blk 2 [] (pc' := 55) (vs' := [.ref (ad 10 0), .int a1, .int a2, .int a3, .int a4, .int a5]) (st' := [.int a3, .ref (ad 10 0)]) (M' := mm M (g2) (mJ M)) (ps := []) rfl trivial ?_
    refine go_callV rfl rfl rfl (by omega) rfl (by decide) (by decide) hM.1 ?_
    refine s_Mo_put (n := nn + m1.length + m2.length) hi hM hB2.1 (by rw [← hm3]; omega) (fun g3 hB3 => ⟨ne_v, ?_⟩)
    rw [← hm3] at hB3
    show Go 1311 239 0 0 58 [.ref (ad 10 0), .int a1, .int a2, .int a3, .int a4, .int a5] [] (mm M g3 (mJ M)) R2
    refine go_blk 2 [] (pc' := 61) (vs' := [.ref (ad 10 0), .int a1, .int a2, .int a3, .int a4, .int a5]) (st' := [.int a4, .ref (ad 10 0)]) (M' := mm M (g3) (mJ M)) (ps := []) rfl trivial ?_
    refine go_callV rfl rfl rfl (by omega) rfl (by decide) (by decide) hM.1 ?_
    refine s_Mo_put (n := nn + m1.length + m2.length + m3.length) hi hM hB3.1 (by rw [← hm4]; omega) (fun g4 hB4 => ⟨ne_v, ?_⟩)
    rw [← hm4] at hB4
    show Go 1311 239 0 0 64 [.ref (ad 10 0), .int a1, .int a2, .int a3, .int a4, .int a5] [] (mm M g4 (mJ M)) R2
    refine go_blk 2 [] (pc' := 67) (vs' := [.ref (ad 10 0), .int a1, .int a2, .int a3, .int a4, .int a5]) (st' := [.int a5, .ref (ad 10 0)]) (M' := mm M (g4) (mJ M)) (ps := []) rfl trivial ?_
    refine go_callV rfl rfl rfl (by omega) rfl (by decide) (by decide) hM.1 ?_
    refine s_Mo_put (n := nn + m1.length + m2.length + m3.length + m4.length) hi hM hB4.1 (by rw [← hm5]; omega) (fun g5 hB5 => ⟨ne_v, ?_⟩)
    rw [← hm5] at hB5
    show Go 1311 239 0 0 70 [.ref (ad 10 0), .int a1, .int a2, .int a3, .int a4, .int a5] [] (mm M g5 (mJ M)) R2
    refine go_blk 2 [some (.int (nI (nn + tot)))] (pc' := 74) (vs' := [.ref (ad 10 0), .int a1, .int a2, .int a3, .int a4, .int a5]) (st' := [.int (nI (nn + tot))]) (M' := mm M g5 (mJ M)) (ps := [ob (mm M g5 (mJ M)) (ad 10 0) 12, Value.int (g5 (ad 10 0) 80) = .int (nI (nn + tot))]) rfl ⟨hM.1, congrArg Value.int (hB5.1.trans (by congr 1; omega)), trivial⟩ ?_
    refine go_iret rfl rfl ?_
    have n9 : ¬ ad 9 75 = ad 10 0 := fun z => absurd (hi _ _ _ _ z).1 (by decide)
    have AB := Ap.app n9 (Ap.app n9 (Ap.app n9 (Ap.app n9 hB1 hB2) (by rw [List.length_append, ← Nat.add_assoc]; exact hB3)) (by rw [List.length_append, List.length_append, ← Nat.add_assoc, ← Nat.add_assoc]; exact hB4)) (by rw [List.length_append, List.length_append, List.length_append, ← Nat.add_assoc, ← Nat.add_assoc, ← Nat.add_assoc]; exact hB5)
    obtain ⟨B1, B2, B3⟩ := AB
    obtain ⟨A1, A2, A3⟩ := AA
    rw [eqL1] at A1 A3
    rw [eqL2] at B1 B3
    have ch : ∀ t i k, ¬ ((t = 7 ∧ i = nx ∧ k = 1) ∨ (t = 8 ∧ i = nx ∧ nn ≤ k) ∨ (t = 9 ∧ i = 75 ∧ nn ≤ k) ∨ (t = 10 ∧ i = 0 ∧ (k = 80 ∨ k = 0))) → vw ad g5 t i k = vw ad (mI M) t i k := by
      intro t i k hn
      show g5 (ad t i) k = mI M (ad t i) k
      rw [B3 _ _ (fun z => hn (Or.inr (Or.inr (Or.inr ⟨(hi _ _ _ _ z.1).1, (hi _ _ _ _ z.1).2, Or.inl z.2⟩)))) (fun z => hn (Or.inr (Or.inr (Or.inl ⟨(hi _ _ _ _ z.1).1, (hi _ _ _ _ z.1).2, z.2.1⟩)))), up2_n _ _ (fun z => hn (Or.inr (Or.inr (Or.inr ⟨(hi _ _ _ _ z.1).1, (hi _ _ _ _ z.1).2, Or.inr z.2⟩)))), A3 _ _ (fun z => hn (Or.inl ⟨(hi _ _ _ _ z.1).1, (hi _ _ _ _ z.1).2, z.2⟩)) (fun z => hn (Or.inr (Or.inl ⟨(hi _ _ _ _ z.1).1, (hi _ _ _ _ z.1).2, z.2.1⟩)))]
    have chj : ∀ t i k, ¬ (t = 1000 ∧ i = 0 ∧ k = 0) → vw ad (mJ M) t i k = vw ad (mJ M) t i k := fun _ _ _ _ => rfl
    have x7 : vw ad g5 7 nx 1 = nI (nn + tot) := by
      show g5 (ad 7 nx) 1 = _
      rw [B3 _ _ (fun z => absurd (hi _ _ _ _ z.1).1 (by decide)) (fun z => absurd (hi _ _ _ _ z.1).1 (by decide)), up2_n _ _ (fun z => absurd (hi _ _ _ _ z.1).1 (by decide))]
      exact A1
    have xb : ∀ k, nn ≤ k → k < nn + tot → bts (vw ad g5 8 nx k) (vw ad g5 9 75 k) := by
      intro k k1 k2
      have u1 : vw ad g5 8 nx k = ((((l1 ++ l2) ++ l3) ++ l4) ++ l5).getD (k - nn) 0 := by
        show g5 (ad 8 nx) k = _
        rw [B3 _ _ (fun z => absurd (hi _ _ _ _ z.1).1 (by decide)) (fun z => absurd (hi _ _ _ _ z.1).1 (by decide)), up2_n _ _ (fun z => absurd (hi _ _ _ _ z.1).1 (by decide))]
        have := A2 (k - nn) (by rw [eqL1]; omega)
        rw [show nn + (k - nn) = k by omega] at this
        exact this
      have u2 : vw ad g5 9 75 k = ((((m1 ++ m2) ++ m3) ++ m4) ++ m5).getD (k - nn) 0 := by
        have := B2 (k - nn) (by rw [eqL2]; omega)
        rw [show nn + (k - nn) = k by omega] at this
        exact this
      rw [u1, u2]
      exact gb (k - nn) (by omega)
    have eJ1 : eJ nb (vw ad (mI M)) (vw ad (g5)) := fun i k h => ch 9 i k (by omega)
    refine h2 _ ⟨hsc, ad, nc, nb, nt, wk, nw, nx, nl, ne, nk, kd, op, rfl, rfl, rfl, hi, ⟨hF, hM, hC, hB, hT, hX⟩, ⟨iS.congr (fun t k h => ch t 0 k (by omega)), iC.congr nc3 (fun t i k h => ch t i k (by omega)) (fun c hc => chj 1 c 4 (by omega)), iB.congr (fun t i k h => ch t i k (by omega)), iR.congr (fun t i k h => ch t i k (by omega)), iL.congr (fun t i k h => ch t i k (by omega)), iT.congr (fun t i k h => ch t i k (by omega))⟩, ⟨jO.congr eJ1 (fun b k _ _ _ => ch 6 b k (by omega)), jR.congr eJ1, jB.congr nb3 (fun t i k h => ch t i k (by omega)), jX.app (m := nn + tot) nn1 nn3 hle (fun t i k h => ch t i k h) x7 (hB5.1.trans (by congr 1; omega)) xb, jL.congr eJ1 (fun b k _ _ _ => ch 6 b k (by omega)) (fun t i k h => ch t i k (by omega))⟩, kO.congr iB wk3 (fun t i k h => ch t i k (by omega)) (fun b _ _ => ch 6 b 8 (by omega)), kC.congr (fun t i k h => ch t i k (by omega)) ⟨chj 0 0 12 (by omega), chj 10 0 99 (by omega)⟩, kD.congr (fun i k h => ch 9 i k (by omega)), kP.congr eJ1 (fun i k h => ch 9 i k (by have := ppS_sp h; omega)) ⟨ch 10 0 31 (by omega), ch 0 7 19 (by omega), ch 0 7 2 (by omega), ch 0 7 4 (by omega), fun t => ch 0 30 t (by omega)⟩ (chj 0 7 17 (by omega)), kX.congr (fun t i k h => ch t i k (by omega))⟩
  · refine go_blk 1 [] (pc' := 51) (vs' := [.ref (ad 0 0), .int a1, .int a2, .int a3, .int a4, .int a5, .int (nI tot), .ref (ad 7 nx)]) (st' := [.int (-1)]) (M' := mm M (mI M) (mJ M)) (ps := []) rfl trivial ?_
    refine go_iret rfl rfl ?_
    refine K _ _ hM.1 rfl (fun R2 h2 => ?_)
    show Go 1311 239 0 0 0 [.ref (ad 10 0), .int a1, .int a2, .int a3, .int a4, .int a5] [] (mm M (mI M) (mJ M)) R2
    have v80 : (up2 (mI M) (ad 10 0) 0 0) (ad 10 0) 80 = nI nn := by show up2 (mI M) (ad 10 0) 0 0 (ad 10 0) 80 = nI nn; rw [up2_n _ _ (fun z => absurd z.2 (by decide))]; exact nn2
    refine go_blk 6 [some (.int (nI nn))] (pc' := 10) (vs' := [.ref (ad 10 0), .int a1, .int a2, .int a3, .int a4, .int a5]) (st' := [.int a1, .int (nI nn)]) (M' := mm M (up2 (mI M) (ad 10 0) 0 0) (mJ M)) (ps := [ob (mm M (mI M) (mJ M)) (ad 10 0) 12, ob (mm M (up2 (mI M) (ad 10 0) 0 0) (mJ M)) (ad 10 0) 12, Value.int ((up2 (mI M) (ad 10 0) 0 0) (ad 10 0) 80) = .int (nI nn)]) rfl ⟨hM.1, hM.1, congrArg Value.int v80, trivial⟩ ?_
    refine go_callS rfl (by decide) rfl rfl (by omega) rfl (by decide) (by decide) ?_
    refine s_Mo_bytesIn (Nat.zero_le _) ⟨ne_i, ?_⟩
    rw [← hm1]
    show Go 1311 239 0 0 13 [.ref (ad 10 0), .int a1, .int a2, .int a3, .int a4, .int a5] [.int (nI m1.length), .int (nI nn)] (mm M (up2 (mI M) (ad 10 0) 0 0) (mJ M)) R2
    refine go_blk 2 [] (pc' := 15) (vs' := [.ref (ad 10 0), .int a1, .int a2, .int a3, .int a4, .int a5]) (st' := [.int a2, .int ((nI nn) + nI m1.length)]) (M' := mm M (up2 (mI M) (ad 10 0) 0 0) (mJ M)) (ps := []) rfl trivial ?_
    refine go_callS rfl (by decide) rfl rfl (by omega) rfl (by decide) (by decide) ?_
    refine s_Mo_bytesIn (Nat.zero_le _) ⟨ne_i, ?_⟩
    rw [← hm2]
    show Go 1311 239 0 0 18 [.ref (ad 10 0), .int a1, .int a2, .int a3, .int a4, .int a5] [.int (nI m2.length), .int ((nI nn) + nI m1.length)] (mm M (up2 (mI M) (ad 10 0) 0 0) (mJ M)) R2
    refine go_blk 2 [] (pc' := 20) (vs' := [.ref (ad 10 0), .int a1, .int a2, .int a3, .int a4, .int a5]) (st' := [.int a3, .int (((nI nn) + nI m1.length) + nI m2.length)]) (M' := mm M (up2 (mI M) (ad 10 0) 0 0) (mJ M)) (ps := []) rfl trivial ?_
    refine go_callS rfl (by decide) rfl rfl (by omega) rfl (by decide) (by decide) ?_
    refine s_Mo_bytesIn (Nat.zero_le _) ⟨ne_i, ?_⟩
    rw [← hm3]
    show Go 1311 239 0 0 23 [.ref (ad 10 0), .int a1, .int a2, .int a3, .int a4, .int a5] [.int (nI m3.length), .int (((nI nn) + nI m1.length) + nI m2.length)] (mm M (up2 (mI M) (ad 10 0) 0 0) (mJ M)) R2
    refine go_blk 2 [] (pc' := 26) (vs' := [.ref (ad 10 0), .int a1, .int a2, .int a3, .int a4, .int a5]) (st' := [.int a4, .int ((((nI nn) + nI m1.length) + nI m2.length) + nI m3.length)]) (M' := mm M (up2 (mI M) (ad 10 0) 0 0) (mJ M)) (ps := []) rfl trivial ?_
    refine go_callS rfl (by decide) rfl rfl (by omega) rfl (by decide) (by decide) ?_
    refine s_Mo_bytesIn (Nat.zero_le _) ⟨ne_i, ?_⟩
    rw [← hm4]
    show Go 1311 239 0 0 29 [.ref (ad 10 0), .int a1, .int a2, .int a3, .int a4, .int a5] [.int (nI m4.length), .int ((((nI nn) + nI m1.length) + nI m2.length) + nI m3.length)] (mm M (up2 (mI M) (ad 10 0) 0 0) (mJ M)) R2
    refine go_blk 2 [] (pc' := 32) (vs' := [.ref (ad 10 0), .int a1, .int a2, .int a3, .int a4, .int a5]) (st' := [.int a5, .int (((((nI nn) + nI m1.length) + nI m2.length) + nI m3.length) + nI m4.length)]) (M' := mm M (up2 (mI M) (ad 10 0) 0 0) (mJ M)) (ps := []) rfl trivial ?_
    refine go_callS rfl (by decide) rfl rfl (by omega) rfl (by decide) (by decide) ?_
    refine s_Mo_bytesIn (Nat.zero_le _) ⟨ne_i, ?_⟩
    rw [← hm5]
    show Go 1311 239 0 0 35 [.ref (ad 10 0), .int a1, .int a2, .int a3, .int a4, .int a5] [.int (nI m5.length), .int (((((nI nn) + nI m1.length) + nI m2.length) + nI m3.length) + nI m4.length)] (mm M (up2 (mI M) (ad 10 0) 0 0) (mJ M)) R2
    refine go_blk 2 [] (pc' := 38) (vs' := [.ref (ad 10 0), .int a1, .int a2, .int a3, .int a4, .int a5]) (st' := [.int 120, .int ((((((nI nn) + nI m1.length) + nI m2.length) + nI m3.length) + nI m4.length) + nI m5.length)]) (M' := mm M (up2 (mI M) (ad 10 0) 0 0) (mJ M)) (ps := []) rfl trivial ?_
    rw [show (((((nI nn) + nI m1.length) + nI m2.length) + nI m3.length) + nI m4.length) + nI m5.length = nI (nn + tot) by rw [nI_add, nI_add, nI_add, nI_add, nI_add]; congr 1; omega]
    refine go_icmp rfl (fun (z : nI (nn + tot) ≤ 120) => absurd z c0) (fun _ => ?_)
    refine go_blk 1 [] (pc' := 42) (vs' := [.ref (ad 10 0), .int a1, .int a2, .int a3, .int a4, .int a5]) (st' := [.int (-1)]) (M' := mm M (up2 (mI M) (ad 10 0) 0 0) (mJ M)) (ps := []) rfl trivial ?_
    refine go_iret rfl rfl ?_
    exact h2 _ ⟨hsc, ad, nc, nb, nt, wk, nw, nx, nl, ne, nk, kd, op, rfl, rfl, rfl, hW.thr⟩

