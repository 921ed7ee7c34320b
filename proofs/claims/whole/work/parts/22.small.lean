/-! small methods: the JDK's, the class's tests -/
set_option maxRecDepth 100000 in
theorem s_JM_max0 {d : Nat} {M : Mem} {f : Nat → Nat → Int32} {g : Nat → Nat → Int64} {R : Option Value → Mem → Prop} {x y : Int32} (hd : 0 ≤ d)  (hR : R (some (.int (if x < y then y else x))) (mm M f g)) : Call d 0 [.int x, .int y] (mm M f g) R := by
  show Go d 0 0 0 0 [.int x, .int y] [] (mm M f g) R
  refine go_blk 2 [] (pc' := 2) (vs' := [.int x, .int y]) (st' := [.int y, .int x]) (M' := mm M f g) (ps := []) rfl trivial ?_
  refine go_icmp rfl (fun (c1 : x < y) => ?_) (fun (c1 : ¬ (x < y)) => ?_)
  · -- x < y
    refine go_blk 1 [] (pc' := 10) (vs' := [.int x, .int y]) (st' := [.int y]) (M' := mm M f g) (ps := []) rfl trivial ?_
    refine go_iret rfl rfl ?_
    first | exact hR | (rw [if_pos (by assumption)] at hR; exact hR) | (rw [if_neg (by assumption)] at hR; exact hR)
  · -- ¬ (x < y)
    refine go_blk 2 [] (pc' := 10) (vs' := [.int x, .int y]) (st' := [.int x]) (M' := mm M f g) (ps := []) rfl trivial ?_
    refine go_iret rfl rfl ?_
    first | exact hR | (rw [if_pos (by assumption)] at hR; exact hR) | (rw [if_neg (by assumption)] at hR; exact hR)

set_option maxRecDepth 100000 in
theorem s_JM_min0 {d : Nat} {M : Mem} {f : Nat → Nat → Int32} {g : Nat → Nat → Int64} {R : Option Value → Mem → Prop} {x y : Int32} (hd : 0 ≤ d)  (hR : R (some (.int (if y < x then y else x))) (mm M f g)) : Call d 1 [.int x, .int y] (mm M f g) R := by
  show Go d 1 0 0 0 [.int x, .int y] [] (mm M f g) R
  refine go_blk 2 [] (pc' := 2) (vs' := [.int x, .int y]) (st' := [.int y, .int x]) (M' := mm M f g) (ps := []) rfl trivial ?_
  refine go_icmp rfl (fun (c1 : y < x) => ?_) (fun (c1 : ¬ (y < x)) => ?_)
  · -- y < x
    refine go_blk 1 [] (pc' := 10) (vs' := [.int x, .int y]) (st' := [.int y]) (M' := mm M f g) (ps := []) rfl trivial ?_
    refine go_iret rfl rfl ?_
    first | exact hR | (rw [if_pos (by assumption)] at hR; exact hR) | (rw [if_neg (by assumption)] at hR; exact hR)
  · -- ¬ (y < x)
    refine go_blk 2 [] (pc' := 10) (vs' := [.int x, .int y]) (st' := [.int x]) (M' := mm M f g) (ps := []) rfl trivial ?_
    refine go_iret rfl rfl ?_
    first | exact hR | (rw [if_pos (by assumption)] at hR; exact hR) | (rw [if_neg (by assumption)] at hR; exact hR)

set_option maxRecDepth 100000 in
theorem s_JM_abs {d : Nat} {M : Mem} {f : Nat → Nat → Int32} {g : Nat → Nat → Int64} {R : Option Value → Mem → Prop} {x : Int32} (hd : 0 ≤ d)  (hR : R (some (.int (if 0 ≤ x then x else -x))) (mm M f g)) : Call d 2 [.int x] (mm M f g) R := by
  show Go d 2 0 0 0 [.int x] [] (mm M f g) R
  refine go_blk 1 [] (pc' := 1) (vs' := [.int x]) (st' := [.int x]) (M' := mm M f g) (ps := []) rfl trivial ?_
  refine go_if rfl (fun (c1 : 0 ≤ x) => ?_) (fun (c1 : ¬ (0 ≤ x)) => ?_)
  · -- 0 ≤ x
    refine go_blk 1 [] (pc' := 10) (vs' := [.int x]) (st' := [.int x]) (M' := mm M f g) (ps := []) rfl trivial ?_
    refine go_iret rfl rfl ?_
    first | exact hR | (rw [if_pos (by assumption)] at hR; exact hR) | (rw [if_neg (by assumption)] at hR; exact hR)
  · -- ¬ (0 ≤ x)
    refine go_blk 3 [] (pc' := 10) (vs' := [.int x]) (st' := [.int (-x)]) (M' := mm M f g) (ps := []) rfl trivial ?_
    refine go_iret rfl rfl ?_
    first | exact hR | (rw [if_pos (by assumption)] at hR; exact hR) | (rw [if_neg (by assumption)] at hR; exact hR)

set_option maxRecDepth 100000 in
theorem s_CY_within {d : Nat} {M : Mem} {f : Nat → Nat → Int32} {g : Nat → Nat → Int64} {R : Option Value → Mem → Prop} {x y z : Int32} (hd : 0 ≤ d)  (h1 : y ≤ x ∧ x ≤ z → R (some (.int 1)) (mm M f g)) (h0 : ¬ (y ≤ x ∧ x ≤ z) → R (some (.int 0)) (mm M f g)) : Call d 159 [.int x, .int y, .int z] (mm M f g) R := by
  show Go d 159 0 0 0 [.int x, .int y, .int z] [] (mm M f g) R
  refine go_blk 2 [] (pc' := 2) (vs' := [.int x, .int y, .int z]) (st' := [.int y, .int x]) (M' := mm M f g) (ps := []) rfl trivial ?_
  refine go_icmp rfl (fun (c1 : x < y) => ?_) (fun (c1 : ¬ (x < y)) => ?_)
  · -- x < y
    refine go_blk 1 [] (pc' := 15) (vs' := [.int x, .int y, .int z]) (st' := [.int 0]) (M' := mm M f g) (ps := []) rfl trivial ?_
    refine go_zret rfl rfl (Or.inl rfl) ?_
    exact h0 (by grind)
  · -- ¬ (x < y)
    refine go_blk 2 [] (pc' := 7) (vs' := [.int x, .int y, .int z]) (st' := [.int z, .int x]) (M' := mm M f g) (ps := []) rfl trivial ?_
    refine go_icmp rfl (fun (c2 : z < x) => ?_) (fun (c2 : ¬ (z < x)) => ?_)
    · -- z < x
      refine go_blk 1 [] (pc' := 15) (vs' := [.int x, .int y, .int z]) (st' := [.int 0]) (M' := mm M f g) (ps := []) rfl trivial ?_
      refine go_zret rfl rfl (Or.inl rfl) ?_
      exact h0 (by grind)
    · -- ¬ (z < x)
      refine go_blk 2 [] (pc' := 15) (vs' := [.int x, .int y, .int z]) (st' := [.int 1]) (M' := mm M f g) (ps := []) rfl trivial ?_
      refine go_zret rfl rfl (Or.inr rfl) ?_
      exact h1 (by grind)

set_option maxRecDepth 100000 in
theorem s_CY_isWeek {d : Nat} {M : Mem} {f : Nat → Nat → Int32} {g : Nat → Nat → Int64} {R : Option Value → Mem → Prop} {x : Int32} (hd : 1 ≤ d)  (h1 : (0 ≤ x ∧ x ≤ 51) → R (some (.int 1)) (mm M f g)) (h0 : ¬ ((0 ≤ x ∧ x ≤ 51)) → R (some (.int 0)) (mm M f g)) : Call d 160 [.int x] (mm M f g) R := by
  show Go d 160 0 0 0 [.int x] [] (mm M f g) R
  refine go_blk 3 [] (pc' := 4) (vs' := [.int x]) (st' := [.int 51, .int 0, .int x]) (M' := mm M f g) (ps := []) rfl trivial ?_
  refine go_callS rfl (by decide) rfl rfl (by omega) rfl (by decide) (by decide) ?_
  refine s_CY_within (by omega) (fun c1 => ⟨ne_i, ?_⟩) (fun c1 => ⟨ne_i, ?_⟩)
  · -- 1
    show Go d 160 0 0 7 [.int x] [.int 1] (mm M f g) R
    refine go_zret rfl rfl (Or.inr rfl) ?_
    exact h1 (by grind)
  · -- 0
    show Go d 160 0 0 7 [.int x] [.int 0] (mm M f g) R
    refine go_zret rfl rfl (Or.inl rfl) ?_
    exact h0 (by grind)

set_option maxRecDepth 100000 in
theorem s_CY_isToCome {d : Nat} {M : Mem} {f : Nat → Nat → Int32} {g : Nat → Nat → Int64} {ad : Nat → Nat → Nat} {R : Option Value → Mem → Prop} {x : Int32} (hd : 2 ≤ d) (hF : Fx M ad) (h1 : ((0 ≤ x ∧ x ≤ 51) ∧ (¬ f (ad 0 0) 8 = 0 → f (ad 0 0) 7 < x) ∧ (f (ad 0 0) 8 = 0 → f (ad 0 0) 7 ≤ x)) → R (some (.int 1)) (mm M f g)) (h0 : ¬ (((0 ≤ x ∧ x ≤ 51) ∧ (¬ f (ad 0 0) 8 = 0 → f (ad 0 0) 7 < x) ∧ (f (ad 0 0) 8 = 0 → f (ad 0 0) 7 ≤ x))) → R (some (.int 0)) (mm M f g)) : Call d 161 [.ref (ad 0 0), .int x] (mm M f g) R := by
  show Go d 161 0 0 0 [.ref (ad 0 0), .int x] [] (mm M f g) R
  refine go_blk 1 [] (pc' := 1) (vs' := [.ref (ad 0 0), .int x]) (st' := [.int x]) (M' := mm M f g) (ps := []) rfl trivial ?_
  refine go_callS rfl (by decide) rfl rfl (by omega) rfl (by decide) (by decide) ?_
  refine s_CY_isWeek (by omega) (fun c1 => ⟨ne_i, ?_⟩) (fun c1 => ⟨ne_i, ?_⟩)
  · -- 1
    show Go d 161 0 0 4 [.ref (ad 0 0), .int x] [.int 1] (mm M f g) R
    refine go_if rfl (fun (z : (1 : Int32) = 0) => absurd z (show ¬ ((1 : Int32) = 0) from (by decide))) (fun _ => ?_)
    refine go_blk 2 [] (pc' := 11) (vs' := [.ref (ad 0 0), .int x]) (st' := [.int (f (ad 0 0) 8)]) (M' := mm M f g) (ps := [ob (mm M f g) (ad 0 0) 11]) rfl ⟨(hF.o 0), trivial⟩ ?_
    refine go_if rfl (fun (c2 : (f (ad 0 0) 8) = 0) => ?_) (fun (c2 : ¬ ((f (ad 0 0) 8) = 0)) => ?_)
    · -- (f (ad 0 0) 8) = 0
      refine go_blk 3 [] (pc' := 30) (vs' := [.ref (ad 0 0), .int x]) (st' := [.int (f (ad 0 0) 7), .int x]) (M' := mm M f g) (ps := [ob (mm M f g) (ad 0 0) 11]) rfl ⟨(hF.o 0), trivial⟩ ?_
      refine go_icmp rfl (fun (c3 : x < f (ad 0 0) 7) => ?_) (fun (c3 : ¬ (x < f (ad 0 0) 7)) => ?_)
      · -- x < f (ad 0 0) 7
        refine go_blk 1 [] (pc' := 38) (vs' := [.ref (ad 0 0), .int x]) (st' := [.int 0]) (M' := mm M f g) (ps := []) rfl trivial ?_
        refine go_zret rfl rfl (Or.inl rfl) ?_
        exact h0 (by grind)
      · -- ¬ (x < f (ad 0 0) 7)
        refine go_blk 2 [] (pc' := 38) (vs' := [.ref (ad 0 0), .int x]) (st' := [.int 1]) (M' := mm M f g) (ps := []) rfl trivial ?_
        refine go_zret rfl rfl (Or.inr rfl) ?_
        exact h1 (by grind)
    · -- ¬ ((f (ad 0 0) 8) = 0)
      refine go_blk 3 [] (pc' := 19) (vs' := [.ref (ad 0 0), .int x]) (st' := [.int (f (ad 0 0) 7), .int x]) (M' := mm M f g) (ps := [ob (mm M f g) (ad 0 0) 11]) rfl ⟨(hF.o 0), trivial⟩ ?_
      refine go_icmp rfl (fun (c4 : x ≤ f (ad 0 0) 7) => ?_) (fun (c4 : ¬ (x ≤ f (ad 0 0) 7)) => ?_)
      · -- x ≤ f (ad 0 0) 7
        refine go_blk 1 [] (pc' := 38) (vs' := [.ref (ad 0 0), .int x]) (st' := [.int 0]) (M' := mm M f g) (ps := []) rfl trivial ?_
        refine go_zret rfl rfl (Or.inl rfl) ?_
        exact h0 (by grind)
      · -- ¬ (x ≤ f (ad 0 0) 7)
        refine go_blk 3 [] (pc' := 38) (vs' := [.ref (ad 0 0), .int x]) (st' := [.int 1]) (M' := mm M f g) (ps := []) rfl trivial ?_
        refine go_zret rfl rfl (Or.inr rfl) ?_
        exact h1 (by grind)
  · -- 0
    show Go d 161 0 0 4 [.ref (ad 0 0), .int x] [.int 0] (mm M f g) R
    refine go_if rfl (fun _ => ?_) (fun (z : ¬ ((0 : Int32) = 0)) => absurd (show (0 : Int32) = 0 from (by decide)) z)
    refine go_blk 1 [] (pc' := 38) (vs' := [.ref (ad 0 0), .int x]) (st' := [.int 0]) (M' := mm M f g) (ps := []) rfl trivial ?_
    refine go_zret rfl rfl (Or.inl rfl) ?_
    exact h0 (by grind)

set_option maxRecDepth 100000 in
theorem s_Mo_isIn {d : Nat} {M : Mem} {f : Nat → Nat → Int32} {g : Nat → Nat → Int64} {R : Option Value → Mem → Prop} {x y z : Int32} (hd : 0 ≤ d)  (h1 : y ≤ x ∧ x ≤ z → R (some (.int 1)) (mm M f g)) (h0 : ¬ (y ≤ x ∧ x ≤ z) → R (some (.int 0)) (mm M f g)) : Call d 187 [.int x, .int y, .int z] (mm M f g) R := by
  show Go d 187 0 0 0 [.int x, .int y, .int z] [] (mm M f g) R
  refine go_blk 2 [] (pc' := 2) (vs' := [.int x, .int y, .int z]) (st' := [.int y, .int x]) (M' := mm M f g) (ps := []) rfl trivial ?_
  refine go_icmp rfl (fun (c1 : x < y) => ?_) (fun (c1 : ¬ (x < y)) => ?_)
  · -- x < y
    refine go_blk 1 [] (pc' := 15) (vs' := [.int x, .int y, .int z]) (st' := [.int 0]) (M' := mm M f g) (ps := []) rfl trivial ?_
    refine go_zret rfl rfl (Or.inl rfl) ?_
    exact h0 (by grind)
  · -- ¬ (x < y)
    refine go_blk 2 [] (pc' := 7) (vs' := [.int x, .int y, .int z]) (st' := [.int z, .int x]) (M' := mm M f g) (ps := []) rfl trivial ?_
    refine go_icmp rfl (fun (c2 : z < x) => ?_) (fun (c2 : ¬ (z < x)) => ?_)
    · -- z < x
      refine go_blk 1 [] (pc' := 15) (vs' := [.int x, .int y, .int z]) (st' := [.int 0]) (M' := mm M f g) (ps := []) rfl trivial ?_
      refine go_zret rfl rfl (Or.inl rfl) ?_
      exact h0 (by grind)
    · -- ¬ (z < x)
      refine go_blk 2 [] (pc' := 15) (vs' := [.int x, .int y, .int z]) (st' := [.int 1]) (M' := mm M f g) (ps := []) rfl trivial ?_
      refine go_zret rfl rfl (Or.inr rfl) ?_
      exact h1 (by grind)

set_option maxRecDepth 100000 in
theorem s_Mo_isCottage {d : Nat} {M : Mem} {f : Nat → Nat → Int32} {g : Nat → Nat → Int64} {ad : Nat → Nat → Nat} {R : Option Value → Mem → Prop} {x : Int32} {n : Nat} (hM : Mx M ad) (hn : f (ad 10 0) 17 = nI n) (hl : n ≤ 60) (h1 : ∀ j, j < n → x = nI j → R (some (.int 1)) (mm M f g)) (h0 : ¬ (∃ j, j < n ∧ x = nI j) → R (some (.int 0)) (mm M f g)) : Call d 188 [.ref (ad 10 0), .int x] (mm M f g) R := by
  show Go d 188 0 0 0 [.ref (ad 10 0), .int x] [] (mm M f g) R
  refine go_blk 1 [] (pc' := 1) (vs' := [.ref (ad 10 0), .int x]) (st' := [.int x]) (M' := mm M f g) (ps := []) rfl trivial ?_
  refine go_if rfl (fun (c1 : x < 0) => ?_) (fun (c1 : ¬ (x < 0)) => ?_)
  · -- x < 0
    refine go_blk 1 [] (pc' := 17) (vs' := [.ref (ad 10 0), .int x]) (st' := [.int 0]) (M' := mm M f g) (ps := []) rfl trivial ?_
    refine go_zret rfl rfl (Or.inl rfl) ?_
    refine h0 (fun hq => ?_)
    have hz := (in_lt2 (x := x) (n := n) (by omega)).mpr hq
    rw [← hn] at hz
    grind
  · -- ¬ (x < 0)
    refine go_blk 3 [] (pc' := 9) (vs' := [.ref (ad 10 0), .int x]) (st' := [.int (f (ad 10 0) 17), .int x]) (M' := mm M f g) (ps := [ob (mm M f g) (ad 10 0) 12]) rfl ⟨hM.1, trivial⟩ ?_
    refine go_icmp rfl (fun (c2 : f (ad 10 0) 17 ≤ x) => ?_) (fun (c2 : ¬ (f (ad 10 0) 17 ≤ x)) => ?_)
    · -- f (ad 10 0) 17 ≤ x
      refine go_blk 1 [] (pc' := 17) (vs' := [.ref (ad 10 0), .int x]) (st' := [.int 0]) (M' := mm M f g) (ps := []) rfl trivial ?_
      refine go_zret rfl rfl (Or.inl rfl) ?_
      refine h0 (fun hq => ?_)
      have hz := (in_lt2 (x := x) (n := n) (by omega)).mpr hq
      rw [← hn] at hz
      grind
    · -- ¬ (f (ad 10 0) 17 ≤ x)
      refine go_blk 2 [] (pc' := 17) (vs' := [.ref (ad 10 0), .int x]) (st' := [.int 1]) (M' := mm M f g) (ps := []) rfl trivial ?_
      refine go_zret rfl rfl (Or.inr rfl) ?_
      obtain ⟨j, hj, hx⟩ := (in_lt2 (x := x) (n := n) (by omega)).mp (by rw [← hn]; grind)
      exact h1 j hj hx

set_option maxRecDepth 100000 in
theorem s_Mo_isBooking {d : Nat} {M : Mem} {f : Nat → Nat → Int32} {g : Nat → Nat → Int64} {ad : Nat → Nat → Nat} {R : Option Value → Mem → Prop} {x : Int32} {n : Nat} (hM : Mx M ad) (hn : f (ad 10 0) 18 = nI n) (hl : n ≤ 60) (h1 : ∀ j, j < n → x = nI j → R (some (.int 1)) (mm M f g)) (h0 : ¬ (∃ j, j < n ∧ x = nI j) → R (some (.int 0)) (mm M f g)) : Call d 189 [.ref (ad 10 0), .int x] (mm M f g) R := by
  show Go d 189 0 0 0 [.ref (ad 10 0), .int x] [] (mm M f g) R
  refine go_blk 1 [] (pc' := 1) (vs' := [.ref (ad 10 0), .int x]) (st' := [.int x]) (M' := mm M f g) (ps := []) rfl trivial ?_
  refine go_if rfl (fun (c1 : x < 0) => ?_) (fun (c1 : ¬ (x < 0)) => ?_)
  · -- x < 0
    refine go_blk 1 [] (pc' := 17) (vs' := [.ref (ad 10 0), .int x]) (st' := [.int 0]) (M' := mm M f g) (ps := []) rfl trivial ?_
    refine go_zret rfl rfl (Or.inl rfl) ?_
    refine h0 (fun hq => ?_)
    have hz := (in_lt2 (x := x) (n := n) (by omega)).mpr hq
    rw [← hn] at hz
    grind
  · -- ¬ (x < 0)
    refine go_blk 3 [] (pc' := 9) (vs' := [.ref (ad 10 0), .int x]) (st' := [.int (f (ad 10 0) 18), .int x]) (M' := mm M f g) (ps := [ob (mm M f g) (ad 10 0) 12]) rfl ⟨hM.1, trivial⟩ ?_
    refine go_icmp rfl (fun (c2 : f (ad 10 0) 18 ≤ x) => ?_) (fun (c2 : ¬ (f (ad 10 0) 18 ≤ x)) => ?_)
    · -- f (ad 10 0) 18 ≤ x
      refine go_blk 1 [] (pc' := 17) (vs' := [.ref (ad 10 0), .int x]) (st' := [.int 0]) (M' := mm M f g) (ps := []) rfl trivial ?_
      refine go_zret rfl rfl (Or.inl rfl) ?_
      refine h0 (fun hq => ?_)
      have hz := (in_lt2 (x := x) (n := n) (by omega)).mpr hq
      rw [← hn] at hz
      grind
    · -- ¬ (f (ad 10 0) 18 ≤ x)
      refine go_blk 2 [] (pc' := 17) (vs' := [.ref (ad 10 0), .int x]) (st' := [.int 1]) (M' := mm M f g) (ps := []) rfl trivial ?_
      refine go_zret rfl rfl (Or.inr rfl) ?_
      obtain ⟨j, hj, hx⟩ := (in_lt2 (x := x) (n := n) (by omega)).mp (by rw [← hn]; grind)
      exact h1 j hj hx

set_option maxRecDepth 100000 in
theorem s_Mo_isTeam {d : Nat} {M : Mem} {f : Nat → Nat → Int32} {g : Nat → Nat → Int64} {ad : Nat → Nat → Nat} {R : Option Value → Mem → Prop} {x : Int32} {n : Nat} (hM : Mx M ad) (hn : f (ad 10 0) 30 = nI n) (hl : n ≤ 60) (h1 : ∀ j, j < n → x = nI j → R (some (.int 1)) (mm M f g)) (h0 : ¬ (∃ j, j < n ∧ x = nI j) → R (some (.int 0)) (mm M f g)) : Call d 223 [.ref (ad 10 0), .int x] (mm M f g) R := by
  show Go d 223 0 0 0 [.ref (ad 10 0), .int x] [] (mm M f g) R
  refine go_blk 1 [] (pc' := 1) (vs' := [.ref (ad 10 0), .int x]) (st' := [.int x]) (M' := mm M f g) (ps := []) rfl trivial ?_
  refine go_if rfl (fun (c1 : x < 0) => ?_) (fun (c1 : ¬ (x < 0)) => ?_)
  · -- x < 0
    refine go_blk 1 [] (pc' := 17) (vs' := [.ref (ad 10 0), .int x]) (st' := [.int 0]) (M' := mm M f g) (ps := []) rfl trivial ?_
    refine go_zret rfl rfl (Or.inl rfl) ?_
    refine h0 (fun hq => ?_)
    have hz := (in_lt2 (x := x) (n := n) (by omega)).mpr hq
    rw [← hn] at hz
    grind
  · -- ¬ (x < 0)
    refine go_blk 3 [] (pc' := 9) (vs' := [.ref (ad 10 0), .int x]) (st' := [.int (f (ad 10 0) 30), .int x]) (M' := mm M f g) (ps := [ob (mm M f g) (ad 10 0) 12]) rfl ⟨hM.1, trivial⟩ ?_
    refine go_icmp rfl (fun (c2 : f (ad 10 0) 30 ≤ x) => ?_) (fun (c2 : ¬ (f (ad 10 0) 30 ≤ x)) => ?_)
    · -- f (ad 10 0) 30 ≤ x
      refine go_blk 1 [] (pc' := 17) (vs' := [.ref (ad 10 0), .int x]) (st' := [.int 0]) (M' := mm M f g) (ps := []) rfl trivial ?_
      refine go_zret rfl rfl (Or.inl rfl) ?_
      refine h0 (fun hq => ?_)
      have hz := (in_lt2 (x := x) (n := n) (by omega)).mpr hq
      rw [← hn] at hz
      grind
    · -- ¬ (f (ad 10 0) 30 ≤ x)
      refine go_blk 2 [] (pc' := 17) (vs' := [.ref (ad 10 0), .int x]) (st' := [.int 1]) (M' := mm M f g) (ps := []) rfl trivial ?_
      refine go_zret rfl rfl (Or.inr rfl) ?_
      obtain ⟨j, hj, hx⟩ := (in_lt2 (x := x) (n := n) (by omega)).mp (by rw [← hn]; grind)
      exact h1 j hj hx

set_option maxRecDepth 100000 in
theorem s_Mo_isAhead {d : Nat} {M : Mem} {f : Nat → Nat → Int32} {g : Nat → Nat → Int64} {ad : Nat → Nat → Nat} {R : Option Value → Mem → Prop} {x : Int32} (hd : 1 ≤ d) (hM : Mx M ad) (h1 : ((if f (ad 10 0) 21 = 0 then f (ad 10 0) 19 else f (ad 10 0) 19 + 1) ≤ x ∧ x ≤ 51) → R (some (.int 1)) (mm M f g)) (h0 : ¬ (((if f (ad 10 0) 21 = 0 then f (ad 10 0) 19 else f (ad 10 0) 19 + 1) ≤ x ∧ x ≤ 51)) → R (some (.int 0)) (mm M f g)) : Call d 190 [.ref (ad 10 0), .int x] (mm M f g) R := by
  show Go d 190 0 0 0 [.ref (ad 10 0), .int x] [] (mm M f g) R
  refine go_blk 3 [] (pc' := 5) (vs' := [.ref (ad 10 0), .int x]) (st' := [.int (f (ad 10 0) 21), .int x]) (M' := mm M f g) (ps := [ob (mm M f g) (ad 10 0) 12]) rfl ⟨hM.1, trivial⟩ ?_
  refine go_if rfl (fun (c1 : (f (ad 10 0) 21) = 0) => ?_) (fun (c1 : ¬ ((f (ad 10 0) 21) = 0)) => ?_)
  · -- (f (ad 10 0) 21) = 0
    refine go_blk 3 [] (pc' := 23) (vs' := [.ref (ad 10 0), .int x]) (st' := [.int 51, .int (f (ad 10 0) 19), .int x]) (M' := mm M f g) (ps := [ob (mm M f g) (ad 10 0) 12]) rfl ⟨hM.1, trivial⟩ ?_
    refine go_callS rfl (by decide) rfl rfl (by omega) rfl (by decide) (by decide) ?_
    refine s_Mo_isIn (by omega) (fun c2 => ⟨ne_i, ?_⟩) (fun c2 => ⟨ne_i, ?_⟩)
    · -- 1
      show Go d 190 0 0 26 [.ref (ad 10 0), .int x] [.int 1] (mm M f g) R
      refine go_zret rfl rfl (Or.inr rfl) ?_
      exact h1 (by grind)
    · -- 0
      show Go d 190 0 0 26 [.ref (ad 10 0), .int x] [.int 0] (mm M f g) R
      refine go_zret rfl rfl (Or.inl rfl) ?_
      exact h0 (by grind)
  · -- ¬ ((f (ad 10 0) 21) = 0)
    refine go_blk 6 [] (pc' := 23) (vs' := [.ref (ad 10 0), .int x]) (st' := [.int 51, .int ((f (ad 10 0) 19) + 1), .int x]) (M' := mm M f g) (ps := [ob (mm M f g) (ad 10 0) 12]) rfl ⟨hM.1, trivial⟩ ?_
    refine go_callS rfl (by decide) rfl rfl (by omega) rfl (by decide) (by decide) ?_
    refine s_Mo_isIn (by omega) (fun c3 => ⟨ne_i, ?_⟩) (fun c3 => ⟨ne_i, ?_⟩)
    · -- 1
      show Go d 190 0 0 26 [.ref (ad 10 0), .int x] [.int 1] (mm M f g) R
      refine go_zret rfl rfl (Or.inr rfl) ?_
      exact h1 (by grind)
    · -- 0
      show Go d 190 0 0 26 [.ref (ad 10 0), .int x] [.int 0] (mm M f g) R
      refine go_zret rfl rfl (Or.inl rfl) ?_
      exact h0 (by grind)

theorem s_CY_withinK (lo hi : Nat) {d : Nat} {M : Mem} {f : Nat → Nat → Int32} {g : Nat → Nat → Int64} {R : Option Value → Mem → Prop} {x : Int32} (hh : hi < 2 ^ 31) (hl : lo < 2 ^ 31) (h1 : ∀ k, lo ≤ k → k ≤ hi → x = nI k → R (some (.int 1)) (mm M f g)) (h0 : ¬ (∃ k, lo ≤ k ∧ k ≤ hi ∧ x = nI k) → R (some (.int 0)) (mm M f g)) : Call d 159 [.int x, .int (nI lo), .int (nI hi)] (mm M f g) R := by
  refine s_CY_within (Nat.zero_le d) (fun c => ?_) (fun c => h0 (fun ⟨k, k1, k2, k3⟩ => c ?_))
  · have c1 := c.1
    have c2 := c.2
    rw [i32_le, nI_toInt hl] at c1
    rw [i32_le, nI_toInt hh] at c2
    refine h1 x.toInt.toNat (by omega) (by omega) (Int32.toInt_inj.mp ?_)
    rw [nI_toInt (by omega)]
    omega
  · subst k3
    rw [i32_le, i32_le, nI_toInt hl, nI_toInt hh, nI_toInt (by omega)]
    omega
theorem s_Mo_isInK (lo hi : Nat) {d : Nat} {M : Mem} {f : Nat → Nat → Int32} {g : Nat → Nat → Int64} {R : Option Value → Mem → Prop} {x : Int32} (hh : hi < 2 ^ 31) (hl : lo < 2 ^ 31) (h1 : ∀ k, lo ≤ k → k ≤ hi → x = nI k → R (some (.int 1)) (mm M f g)) (h0 : ¬ (∃ k, lo ≤ k ∧ k ≤ hi ∧ x = nI k) → R (some (.int 0)) (mm M f g)) : Call d 187 [.int x, .int (nI lo), .int (nI hi)] (mm M f g) R := by
  refine s_Mo_isIn (Nat.zero_le d) (fun c => ?_) (fun c => h0 (fun ⟨k, k1, k2, k3⟩ => c ?_))
  · have c1 := c.1
    have c2 := c.2
    rw [i32_le, nI_toInt hl] at c1
    rw [i32_le, nI_toInt hh] at c2
    refine h1 x.toInt.toNat (by omega) (by omega) (Int32.toInt_inj.mp ?_)
    rw [nI_toInt (by omega)]
    omega
  · subst k3
    rw [i32_le, i32_le, nI_toInt hl, nI_toInt hh, nI_toInt (by omega)]
    omega
set_option maxRecDepth 100000 in
theorem s_CY_cottageAt {d : Nat} {M : Mem} {f : Nat → Nat → Int32} {g : Nat → Nat → Int64} {ad : Nat → Nat → Nat} {R : Option Value → Mem → Prop} {x : Int32} {n : Nat} (hd : 1 ≤ d) (hF : Fx M ad) (hC : Cs M ad n) (hn : f (ad 0 0) 1 = nI n) (hl : n ≤ 7) (h1 : ∀ c, c < n → x = nI c → R (some (.ref (ad 1 c))) (mm M f g)) (h0 : ¬ (∃ j, j < n ∧ x = nI j) → R (some .null) (mm M f g)) : Call d 162 [.ref (ad 0 0), .int x] (mm M f g) R := by
  by_cases hx : ∃ j, j < n ∧ x = nI j
  · obtain ⟨j, hj, rfl⟩ := hx
    show Go d 162 0 0 0 [.ref (ad 0 0), .int (nI j)] [] (mm M f g) R
    refine go_blk 6 [] (pc' := 8) (vs' := [.ref (ad 0 0), .int (nI j)]) (st' := [.int ((f (ad 0 0) 1) - 1), .int 0, .int (nI j)]) (M' := mm M f g) (ps := [ob (mm M f g) (ad 0 0) 11]) rfl ⟨(hF.o 0), trivial⟩ ?_
    refine go_callS rfl (by decide) rfl rfl (by omega) rfl (by decide) (by decide) ?_
    refine s_CY_within (by omega) (fun c1 => ⟨ne_i, ?_⟩) (fun c1 => ⟨ne_i, ?_⟩)
    · -- 1
      show Go d 162 0 0 11 [.ref (ad 0 0), .int (nI j)] [.int 1] (mm M f g) R
      refine go_if rfl (fun (z : (1 : Int32) = 0) => absurd z (show ¬ ((1 : Int32) = 0) from (by decide))) (fun _ => ?_)
      refine go_blk 5 [some (.ref (ad 0 1)), some (.ref (ad 1 j))] (pc' := 24) (vs' := [.ref (ad 0 0), .int (nI j)]) (st' := [.ref (ad 1 j)]) (M' := mm M f g) (ps := [ob (mm M f g) (ad 0 0) 11, mR (mm M f g) (ad 0 0) 0 = some (ad 0 1), va_rf (some (ad 0 1)) = .ref (ad 0 1), ob (mm M f g) (ad 0 1) 18, 17 ≤ 18 ∧ 18 < 22, vp_in (nI j) (mN (mm M f g) (ad 0 1)), mR (mm M f g) (ad 0 1) ((nI j).toNatClampNeg) = some (ad 1 j), va_rf (some (ad 1 j)) = .ref (ad 1 j)]) rfl ⟨(hF.o 0), (hF.r 0 0 1), rfl, (hF.o 1), (by decide), (vpi (hF.n 1) (show j < 7 by omega)), (by rw [nI_clamp (by omega)]; exact (hC j hj).1), rfl, trivial⟩ ?_
      refine go_aret (q := some (ad 1 j)) rfl ⟨_, rfl⟩ ?_
      exact h1 j hj rfl
    · exact absurd ((in_lt (by omega)).mpr ⟨j, hj, rfl⟩) (by rw [hn] at c1; exact c1)
  ·
    show Go d 162 0 0 0 [.ref (ad 0 0), .int x] [] (mm M f g) R
    refine go_blk 6 [] (pc' := 8) (vs' := [.ref (ad 0 0), .int x]) (st' := [.int ((f (ad 0 0) 1) - 1), .int 0, .int x]) (M' := mm M f g) (ps := [ob (mm M f g) (ad 0 0) 11]) rfl ⟨(hF.o 0), trivial⟩ ?_
    refine go_callS rfl (by decide) rfl rfl (by omega) rfl (by decide) (by decide) ?_
    refine s_CY_within (by omega) (fun c1 => ⟨ne_i, ?_⟩) (fun c1 => ⟨ne_i, ?_⟩)
    · exact absurd ((in_lt (by omega)).mp (by rw [hn] at c1; exact c1)) hx
    · -- 0
      show Go d 162 0 0 11 [.ref (ad 0 0), .int x] [.int 0] (mm M f g) R
      refine go_if rfl (fun _ => ?_) (fun (z : ¬ ((0 : Int32) = 0)) => absurd (show (0 : Int32) = 0 from (by decide)) z)
      refine go_blk 1 [] (pc' := 24) (vs' := [.ref (ad 0 0), .int x]) (st' := [.null]) (M' := mm M f g) (ps := []) rfl trivial ?_
      refine go_aret (q := none) rfl ⟨_, rfl⟩ ?_
      exact h0 hx

set_option maxRecDepth 100000 in
theorem s_CY_bookingAt {d : Nat} {M : Mem} {f : Nat → Nat → Int32} {g : Nat → Nat → Int64} {ad : Nat → Nat → Nat} {R : Option Value → Mem → Prop} {x : Int32} {n : Nat} (hd : 1 ≤ d) (hF : Fx M ad) (hB : Bs M ad n) (hn : f (ad 0 0) 3 = nI n) (hl : n ≤ 60) (h1 : ∀ c, c < n → x = nI c → R (some (.ref (ad 2 c))) (mm M f g)) (h0 : ¬ (∃ j, j < n ∧ x = nI j) → R (some .null) (mm M f g)) : Call d 163 [.ref (ad 0 0), .int x] (mm M f g) R := by
  by_cases hx : ∃ j, j < n ∧ x = nI j
  · obtain ⟨j, hj, rfl⟩ := hx
    show Go d 163 0 0 0 [.ref (ad 0 0), .int (nI j)] [] (mm M f g) R
    refine go_blk 6 [] (pc' := 8) (vs' := [.ref (ad 0 0), .int (nI j)]) (st' := [.int ((f (ad 0 0) 3) - 1), .int 0, .int (nI j)]) (M' := mm M f g) (ps := [ob (mm M f g) (ad 0 0) 11]) rfl ⟨(hF.o 0), trivial⟩ ?_
    refine go_callS rfl (by decide) rfl rfl (by omega) rfl (by decide) (by decide) ?_
    refine s_CY_within (by omega) (fun c1 => ⟨ne_i, ?_⟩) (fun c1 => ⟨ne_i, ?_⟩)
    · -- 1
      show Go d 163 0 0 11 [.ref (ad 0 0), .int (nI j)] [.int 1] (mm M f g) R
      refine go_if rfl (fun (z : (1 : Int32) = 0) => absurd z (show ¬ ((1 : Int32) = 0) from (by decide))) (fun _ => ?_)
      refine go_blk 5 [some (.ref (ad 0 2)), some (.ref (ad 2 j))] (pc' := 24) (vs' := [.ref (ad 0 0), .int (nI j)]) (st' := [.ref (ad 2 j)]) (M' := mm M f g) (ps := [ob (mm M f g) (ad 0 0) 11, mR (mm M f g) (ad 0 0) 2 = some (ad 0 2), va_rf (some (ad 0 2)) = .ref (ad 0 2), ob (mm M f g) (ad 0 2) 17, 17 ≤ 17 ∧ 17 < 22, vp_in (nI j) (mN (mm M f g) (ad 0 2)), mR (mm M f g) (ad 0 2) ((nI j).toNatClampNeg) = some (ad 2 j), va_rf (some (ad 2 j)) = .ref (ad 2 j)]) rfl ⟨(hF.o 0), (hF.r 0 2 2), rfl, (hF.o 2), (by decide), (vpi (hF.n 2) (show j < 60 by omega)), (by rw [nI_clamp (by omega)]; exact (hB j hj).1), rfl, trivial⟩ ?_
      refine go_aret (q := some (ad 2 j)) rfl ⟨_, rfl⟩ ?_
      exact h1 j hj rfl
    · exact absurd ((in_lt (by omega)).mpr ⟨j, hj, rfl⟩) (by rw [hn] at c1; exact c1)
  ·
    show Go d 163 0 0 0 [.ref (ad 0 0), .int x] [] (mm M f g) R
    refine go_blk 6 [] (pc' := 8) (vs' := [.ref (ad 0 0), .int x]) (st' := [.int ((f (ad 0 0) 3) - 1), .int 0, .int x]) (M' := mm M f g) (ps := [ob (mm M f g) (ad 0 0) 11]) rfl ⟨(hF.o 0), trivial⟩ ?_
    refine go_callS rfl (by decide) rfl rfl (by omega) rfl (by decide) (by decide) ?_
    refine s_CY_within (by omega) (fun c1 => ⟨ne_i, ?_⟩) (fun c1 => ⟨ne_i, ?_⟩)
    · exact absurd ((in_lt (by omega)).mp (by rw [hn] at c1; exact c1)) hx
    · -- 0
      show Go d 163 0 0 11 [.ref (ad 0 0), .int x] [.int 0] (mm M f g) R
      refine go_if rfl (fun _ => ?_) (fun (z : ¬ ((0 : Int32) = 0)) => absurd (show (0 : Int32) = 0 from (by decide)) z)
      refine go_blk 1 [] (pc' := 24) (vs' := [.ref (ad 0 0), .int x]) (st' := [.null]) (M' := mm M f g) (ps := []) rfl trivial ?_
      refine go_aret (q := none) rfl ⟨_, rfl⟩ ?_
      exact h0 hx

set_option maxRecDepth 100000 in
theorem s_CY_teamAt {d : Nat} {M : Mem} {f : Nat → Nat → Int32} {g : Nat → Nat → Int64} {ad : Nat → Nat → Nat} {R : Option Value → Mem → Prop} {x : Int32} {n : Nat} (hd : 1 ≤ d) (hF : Fx M ad) (hT : Ts M ad n) (hn : f (ad 0 0) 5 = nI n) (hl : n ≤ 3) (h1 : ∀ c, c < n → x = nI c → R (some (.ref (ad 3 c))) (mm M f g)) (h0 : ¬ (∃ j, j < n ∧ x = nI j) → R (some .null) (mm M f g)) : Call d 165 [.ref (ad 0 0), .int x] (mm M f g) R := by
  by_cases hx : ∃ j, j < n ∧ x = nI j
  · obtain ⟨j, hj, rfl⟩ := hx
    show Go d 165 0 0 0 [.ref (ad 0 0), .int (nI j)] [] (mm M f g) R
    refine go_blk 6 [] (pc' := 8) (vs' := [.ref (ad 0 0), .int (nI j)]) (st' := [.int ((f (ad 0 0) 5) - 1), .int 0, .int (nI j)]) (M' := mm M f g) (ps := [ob (mm M f g) (ad 0 0) 11]) rfl ⟨(hF.o 0), trivial⟩ ?_
    refine go_callS rfl (by decide) rfl rfl (by omega) rfl (by decide) (by decide) ?_
    refine s_CY_within (by omega) (fun c1 => ⟨ne_i, ?_⟩) (fun c1 => ⟨ne_i, ?_⟩)
    · -- 1
      show Go d 165 0 0 11 [.ref (ad 0 0), .int (nI j)] [.int 1] (mm M f g) R
      refine go_if rfl (fun (z : (1 : Int32) = 0) => absurd z (show ¬ ((1 : Int32) = 0) from (by decide))) (fun _ => ?_)
      refine go_blk 5 [some (.ref (ad 0 3)), some (.ref (ad 3 j))] (pc' := 24) (vs' := [.ref (ad 0 0), .int (nI j)]) (st' := [.ref (ad 3 j)]) (M' := mm M f g) (ps := [ob (mm M f g) (ad 0 0) 11, mR (mm M f g) (ad 0 0) 4 = some (ad 0 3), va_rf (some (ad 0 3)) = .ref (ad 0 3), ob (mm M f g) (ad 0 3) 20, 17 ≤ 20 ∧ 20 < 22, vp_in (nI j) (mN (mm M f g) (ad 0 3)), mR (mm M f g) (ad 0 3) ((nI j).toNatClampNeg) = some (ad 3 j), va_rf (some (ad 3 j)) = .ref (ad 3 j)]) rfl ⟨(hF.o 0), (hF.r 0 4 3), rfl, (hF.o 3), (by decide), (vpi (hF.n 3) (show j < 3 by omega)), (by rw [nI_clamp (by omega)]; exact (hT j hj).1), rfl, trivial⟩ ?_
      refine go_aret (q := some (ad 3 j)) rfl ⟨_, rfl⟩ ?_
      exact h1 j hj rfl
    · exact absurd ((in_lt (by omega)).mpr ⟨j, hj, rfl⟩) (by rw [hn] at c1; exact c1)
  ·
    show Go d 165 0 0 0 [.ref (ad 0 0), .int x] [] (mm M f g) R
    refine go_blk 6 [] (pc' := 8) (vs' := [.ref (ad 0 0), .int x]) (st' := [.int ((f (ad 0 0) 5) - 1), .int 0, .int x]) (M' := mm M f g) (ps := [ob (mm M f g) (ad 0 0) 11]) rfl ⟨(hF.o 0), trivial⟩ ?_
    refine go_callS rfl (by decide) rfl rfl (by omega) rfl (by decide) (by decide) ?_
    refine s_CY_within (by omega) (fun c1 => ⟨ne_i, ?_⟩) (fun c1 => ⟨ne_i, ?_⟩)
    · exact absurd ((in_lt (by omega)).mp (by rw [hn] at c1; exact c1)) hx
    · -- 0
      show Go d 165 0 0 11 [.ref (ad 0 0), .int x] [.int 0] (mm M f g) R
      refine go_if rfl (fun _ => ?_) (fun (z : ¬ ((0 : Int32) = 0)) => absurd (show (0 : Int32) = 0 from (by decide)) z)
      refine go_blk 1 [] (pc' := 24) (vs' := [.ref (ad 0 0), .int x]) (st' := [.null]) (M' := mm M f g) (ps := []) rfl trivial ?_
      refine go_aret (q := none) rfl ⟨_, rfl⟩ ?_
      exact h0 hx

