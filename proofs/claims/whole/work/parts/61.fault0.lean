/-! texts: the class's state machine -/
def pBI (p : Nat) (x : Int32) : Int32 := match pBh p x with
  | some k => nI k
  | none => -1
theorem pBh_le {p k : Nat} {x : Int32} (h : pBh p x = some k) : k ≤ 3 := by
  unfold pBh at h
  split at h
  · split at h
    · cases h; omega
    · cases h
  · split at h
    · split at h
      · cases h; omega
      · cases h
    · split at h
      · split at h
        · cases h; omega
        · cases h
      · split at h
        · split at h
          · cases h; omega
          · cases h
        · cases h
theorem pBI_m1 {p : Nat} {x : Int32} (h : pBI p x = -1) : pBh p x = none := by
  unfold pBI at h
  cases hq : pBh p x with
  | none => rfl
  | some k => rw [hq] at h; exact absurd h (nI_m1 (by have := pBh_le hq; omega))
theorem pBI_k {p : Nat} {x : Int32} (h : ¬ pBI p x = -1) : ∃ k, pBh p x = some k ∧ pBI p x = nI k := by
  unfold pBI at h ⊢
  cases hq : pBh p x with
  | none => rw [hq] at h; exact absurd rfl h
  | some k => exact ⟨k, rfl, rfl⟩
/-- the state in a text's cells -/
def TS (f : Nat → Nat → Int32) (a : Nat) (s : TSt) : Prop := f a 4 = nI s.1 ∧ f a 5 = nI s.2.1 ∧ f a 6 = nI s.2.2.1 ∧ f a 7 = (if s.2.2.2 = true then 1 else 0)
def TK (f f' : Nat → Nat → Int32) (a : Nat) : Prop := ∀ b k, ¬ (b = a ∧ 4 ≤ k ∧ k ≤ 7) → f' b k = f b k
theorem TK.trans {f f1 f2 : Nat → Nat → Int32} {a : Nat} (h1 : TK f f1 a) (h2 : TK f1 f2 a) : TK f f2 a := fun b k h => (h2 b k h).trans (h1 b k h)
def okS (s : TSt) : Prop := s.1 ≤ 3 ∧ s.2.1 ≤ 6 ∧ s.2.2.1 ≤ 4 ∧ (s.2.2.2 = true → s.2.2.1 = 0)
theorem tStep_ok {s s' : TSt} {x : Int32} (h : okS s) (e : tStep s x = some s') : okS s' := by
  obtain ⟨p, dp, dg, due⟩ := s
  obtain ⟨h1, h2, h3, h4⟩ := h
  simp only at h1 h2 h3 h4
  unfold tStep at e
  simp only at e
  split at e
  · rename_i c
    cases e
    refine ⟨h1, h2, ?_, fun z => by cases z⟩
    show dg + 1 ≤ 4
    rcases c.2 with q | q
    · have := h4 q; omega
    · omega
  · split at e
    · cases e; exact ⟨h1, h2, Nat.zero_le _, fun _ => rfl⟩
    · split at e
      · split at e
        · rename_i c; cases e; exact ⟨h1, (by show dp + 1 ≤ 6; have := c.2; omega), Nat.zero_le _, fun _ => rfl⟩
        · split at e
          · cases e; exact ⟨h1, h2, Nat.zero_le _, fun _ => rfl⟩
          · cases e
      · split at e
        · cases e; exact ⟨h1, (by show dp - 1 ≤ 6; omega), Nat.zero_le _, fun _ => rfl⟩
        · split at e
          · cases e; exact ⟨h1, h2, Nat.zero_le _, fun _ => rfl⟩
          · split at e
            · cases e
            · split at e
              · rename_i hq; cases e; exact ⟨pBh_le hq, h2, Nat.zero_le _, fun _ => rfl⟩
              · cases e
theorem letV_lt {x : Int32} {n : Nat} (hn : n < 256) (hx : x = nI n) : letV x = if isLt x = true then 1 else 0 := by
  subst hx
  exact (by decide +kernel : ∀ n, n < 256 → letV (nI n) = if isLt (nI n) = true then 1 else 0) n hn

set_option maxRecDepth 100000 in
theorem s_Tx_isDigit {d : Nat} {M : Mem} {f : Nat → Nat → Int32} {g : Nat → Nat → Int64} {R : Option Value → Mem → Prop} {x : Int32} (hd : 0 ≤ d) (h1 : isDg x = true → R (some (.int 1)) (mm M f g)) (h0 : ¬ (isDg x = true) → R (some (.int 0)) (mm M f g)) : Call d 85 [.int x] (mm M f g) R := by
  show Go d 85 0 0 0 [.int x] [] (mm M f g) R
  refine go_blk 2 [] (pc' := 3) (vs' := [.int x]) (st' := [.int 48, .int x]) (M' := mm M f g) (ps := []) rfl trivial ?_
  refine go_icmp rfl (fun (c1 : x < 48) => ?_) (fun (c1 : ¬ (x < 48)) => ?_)
  · -- x < 48
    refine go_blk 1 [] (pc' := 17) (vs' := [.int x]) (st' := [.int 0]) (M' := mm M f g) (ps := []) rfl trivial ?_
    refine go_zret rfl rfl (Or.inl rfl) ?_
    exact h0 (by first | grind | (simp only [isDg, isSg, Bool.and_eq_true, Bool.or_eq_true, decide_eq_true_eq, beq_iff_eq]; grind))
  · -- ¬ (x < 48)
    refine go_blk 2 [] (pc' := 9) (vs' := [.int x]) (st' := [.int 57, .int x]) (M' := mm M f g) (ps := []) rfl trivial ?_
    refine go_icmp rfl (fun (c2 : 57 < x) => ?_) (fun (c2 : ¬ (57 < x)) => ?_)
    · -- 57 < x
      refine go_blk 1 [] (pc' := 17) (vs' := [.int x]) (st' := [.int 0]) (M' := mm M f g) (ps := []) rfl trivial ?_
      refine go_zret rfl rfl (Or.inl rfl) ?_
      exact h0 (by first | grind | (simp only [isDg, isSg, Bool.and_eq_true, Bool.or_eq_true, decide_eq_true_eq, beq_iff_eq]; grind))
    · -- ¬ (57 < x)
      refine go_blk 2 [] (pc' := 17) (vs' := [.int x]) (st' := [.int 1]) (M' := mm M f g) (ps := []) rfl trivial ?_
      refine go_zret rfl rfl (Or.inr rfl) ?_
      exact h1 (by first | grind | (simp only [isDg, isSg, Bool.and_eq_true, Bool.or_eq_true, decide_eq_true_eq, beq_iff_eq]; grind))

set_option maxRecDepth 100000 in
theorem s_Tx_isPlusOrMinus {d : Nat} {M : Mem} {f : Nat → Nat → Int32} {g : Nat → Nat → Int64} {R : Option Value → Mem → Prop} {x : Int32} (hd : 0 ≤ d) (h1 : x = 43 ∨ x = 45 → R (some (.int 1)) (mm M f g)) (h0 : ¬ (x = 43 ∨ x = 45) → R (some (.int 0)) (mm M f g)) : Call d 87 [.int x] (mm M f g) R := by
  show Go d 87 0 0 0 [.int x] [] (mm M f g) R
  refine go_blk 2 [] (pc' := 3) (vs' := [.int x]) (st' := [.int 43, .int x]) (M' := mm M f g) (ps := []) rfl trivial ?_
  refine go_icmp rfl (fun (c1 : x = 43) => ?_) (fun (c1 : ¬ (x = 43)) => ?_)
  · -- x = 43
    refine go_blk 2 [] (pc' := 17) (vs' := [.int x]) (st' := [.int 1]) (M' := mm M f g) (ps := []) rfl trivial ?_
    refine go_zret rfl rfl (Or.inr rfl) ?_
    exact h1 (by first | grind | (simp only [isDg, isSg, Bool.and_eq_true, Bool.or_eq_true, decide_eq_true_eq, beq_iff_eq]; grind))
  · -- ¬ (x = 43)
    refine go_blk 2 [] (pc' := 9) (vs' := [.int x]) (st' := [.int 45, .int x]) (M' := mm M f g) (ps := []) rfl trivial ?_
    refine go_icmp rfl (fun (c2 : ¬ x = 45) => ?_) (fun (c2 : ¬ (¬ x = 45)) => ?_)
    · -- ¬ x = 45
      refine go_blk 1 [] (pc' := 17) (vs' := [.int x]) (st' := [.int 0]) (M' := mm M f g) (ps := []) rfl trivial ?_
      refine go_zret rfl rfl (Or.inl rfl) ?_
      exact h0 (by first | grind | (simp only [isDg, isSg, Bool.and_eq_true, Bool.or_eq_true, decide_eq_true_eq, beq_iff_eq]; grind))
    · -- ¬ (¬ x = 45)
      refine go_blk 2 [] (pc' := 17) (vs' := [.int x]) (st' := [.int 1]) (M' := mm M f g) (ps := []) rfl trivial ?_
      refine go_zret rfl rfl (Or.inr rfl) ?_
      exact h1 (by first | grind | (simp only [isDg, isSg, Bool.and_eq_true, Bool.or_eq_true, decide_eq_true_eq, beq_iff_eq]; grind))

set_option maxRecDepth 100000 in
theorem s_Tx_isTimesOrBy {d : Nat} {M : Mem} {f : Nat → Nat → Int32} {g : Nat → Nat → Int64} {R : Option Value → Mem → Prop} {x : Int32} (hd : 0 ≤ d) (h1 : x = 42 ∨ x = 47 → R (some (.int 1)) (mm M f g)) (h0 : ¬ (x = 42 ∨ x = 47) → R (some (.int 0)) (mm M f g)) : Call d 88 [.int x] (mm M f g) R := by
  show Go d 88 0 0 0 [.int x] [] (mm M f g) R
  refine go_blk 2 [] (pc' := 3) (vs' := [.int x]) (st' := [.int 42, .int x]) (M' := mm M f g) (ps := []) rfl trivial ?_
  refine go_icmp rfl (fun (c1 : x = 42) => ?_) (fun (c1 : ¬ (x = 42)) => ?_)
  · -- x = 42
    refine go_blk 2 [] (pc' := 17) (vs' := [.int x]) (st' := [.int 1]) (M' := mm M f g) (ps := []) rfl trivial ?_
    refine go_zret rfl rfl (Or.inr rfl) ?_
    exact h1 (by first | grind | (simp only [isDg, isSg, Bool.and_eq_true, Bool.or_eq_true, decide_eq_true_eq, beq_iff_eq]; grind))
  · -- ¬ (x = 42)
    refine go_blk 2 [] (pc' := 9) (vs' := [.int x]) (st' := [.int 47, .int x]) (M' := mm M f g) (ps := []) rfl trivial ?_
    refine go_icmp rfl (fun (c2 : ¬ x = 47) => ?_) (fun (c2 : ¬ (¬ x = 47)) => ?_)
    · -- ¬ x = 47
      refine go_blk 1 [] (pc' := 17) (vs' := [.int x]) (st' := [.int 0]) (M' := mm M f g) (ps := []) rfl trivial ?_
      refine go_zret rfl rfl (Or.inl rfl) ?_
      exact h0 (by first | grind | (simp only [isDg, isSg, Bool.and_eq_true, Bool.or_eq_true, decide_eq_true_eq, beq_iff_eq]; grind))
    · -- ¬ (¬ x = 47)
      refine go_blk 2 [] (pc' := 17) (vs' := [.int x]) (st' := [.int 1]) (M' := mm M f g) (ps := []) rfl trivial ?_
      refine go_zret rfl rfl (Or.inr rfl) ?_
      exact h1 (by first | grind | (simp only [isDg, isSg, Bool.and_eq_true, Bool.or_eq_true, decide_eq_true_eq, beq_iff_eq]; grind))

set_option maxRecDepth 100000 in
theorem s_Tx_isComparison {d : Nat} {M : Mem} {f : Nat → Nat → Int32} {g : Nat → Nat → Int64} {R : Option Value → Mem → Prop} {x : Int32} (hd : 0 ≤ d) (h1 : isSg x = true → R (some (.int 1)) (mm M f g)) (h0 : ¬ (isSg x = true) → R (some (.int 0)) (mm M f g)) : Call d 89 [.int x] (mm M f g) R := by
  show Go d 89 0 0 0 [.int x] [] (mm M f g) R
  refine go_blk 2 [] (pc' := 3) (vs' := [.int x]) (st' := [.int 61, .int x]) (M' := mm M f g) (ps := []) rfl trivial ?_
  refine go_icmp rfl (fun (c1 : x = 61) => ?_) (fun (c1 : ¬ (x = 61)) => ?_)
  · -- x = 61
    refine go_blk 2 [] (pc' := 23) (vs' := [.int x]) (st' := [.int 1]) (M' := mm M f g) (ps := []) rfl trivial ?_
    refine go_zret rfl rfl (Or.inr rfl) ?_
    exact h1 (by first | grind | (simp only [isDg, isSg, Bool.and_eq_true, Bool.or_eq_true, decide_eq_true_eq, beq_iff_eq]; grind))
  · -- ¬ (x = 61)
    refine go_blk 2 [] (pc' := 9) (vs' := [.int x]) (st' := [.int 60, .int x]) (M' := mm M f g) (ps := []) rfl trivial ?_
    refine go_icmp rfl (fun (c2 : x = 60) => ?_) (fun (c2 : ¬ (x = 60)) => ?_)
    · -- x = 60
      refine go_blk 2 [] (pc' := 23) (vs' := [.int x]) (st' := [.int 1]) (M' := mm M f g) (ps := []) rfl trivial ?_
      refine go_zret rfl rfl (Or.inr rfl) ?_
      exact h1 (by first | grind | (simp only [isDg, isSg, Bool.and_eq_true, Bool.or_eq_true, decide_eq_true_eq, beq_iff_eq]; grind))
    · -- ¬ (x = 60)
      refine go_blk 2 [] (pc' := 15) (vs' := [.int x]) (st' := [.int 62, .int x]) (M' := mm M f g) (ps := []) rfl trivial ?_
      refine go_icmp rfl (fun (c3 : ¬ x = 62) => ?_) (fun (c3 : ¬ (¬ x = 62)) => ?_)
      · -- ¬ x = 62
        refine go_blk 1 [] (pc' := 23) (vs' := [.int x]) (st' := [.int 0]) (M' := mm M f g) (ps := []) rfl trivial ?_
        refine go_zret rfl rfl (Or.inl rfl) ?_
        exact h0 (by first | grind | (simp only [isDg, isSg, Bool.and_eq_true, Bool.or_eq_true, decide_eq_true_eq, beq_iff_eq]; grind))
      · -- ¬ (¬ x = 62)
        refine go_blk 2 [] (pc' := 23) (vs' := [.int x]) (st' := [.int 1]) (M' := mm M f g) (ps := []) rfl trivial ?_
        refine go_zret rfl rfl (Or.inr rfl) ?_
        exact h1 (by first | grind | (simp only [isDg, isSg, Bool.and_eq_true, Bool.or_eq_true, decide_eq_true_eq, beq_iff_eq]; grind))

set_option maxRecDepth 100000 in
theorem s_Mo_isSign {d : Nat} {M : Mem} {f : Nat → Nat → Int32} {g : Nat → Nat → Int64} {R : Option Value → Mem → Prop} {x : Int32} (hd : 0 ≤ d) (h1 : isSg x = true → R (some (.int 1)) (mm M f g)) (h0 : ¬ (isSg x = true) → R (some (.int 0)) (mm M f g)) : Call d 249 [.int x] (mm M f g) R := by
  show Go d 249 0 0 0 [.int x] [] (mm M f g) R
  refine go_blk 2 [] (pc' := 3) (vs' := [.int x]) (st' := [.int 61, .int x]) (M' := mm M f g) (ps := []) rfl trivial ?_
  refine go_icmp rfl (fun (c1 : x = 61) => ?_) (fun (c1 : ¬ (x = 61)) => ?_)
  · -- x = 61
    refine go_blk 2 [] (pc' := 23) (vs' := [.int x]) (st' := [.int 1]) (M' := mm M f g) (ps := []) rfl trivial ?_
    refine go_zret rfl rfl (Or.inr rfl) ?_
    exact h1 (by first | grind | (simp only [isDg, isSg, Bool.and_eq_true, Bool.or_eq_true, decide_eq_true_eq, beq_iff_eq]; grind))
  · -- ¬ (x = 61)
    refine go_blk 2 [] (pc' := 9) (vs' := [.int x]) (st' := [.int 60, .int x]) (M' := mm M f g) (ps := []) rfl trivial ?_
    refine go_icmp rfl (fun (c2 : x = 60) => ?_) (fun (c2 : ¬ (x = 60)) => ?_)
    · -- x = 60
      refine go_blk 2 [] (pc' := 23) (vs' := [.int x]) (st' := [.int 1]) (M' := mm M f g) (ps := []) rfl trivial ?_
      refine go_zret rfl rfl (Or.inr rfl) ?_
      exact h1 (by first | grind | (simp only [isDg, isSg, Bool.and_eq_true, Bool.or_eq_true, decide_eq_true_eq, beq_iff_eq]; grind))
    · -- ¬ (x = 60)
      refine go_blk 2 [] (pc' := 15) (vs' := [.int x]) (st' := [.int 62, .int x]) (M' := mm M f g) (ps := []) rfl trivial ?_
      refine go_icmp rfl (fun (c3 : ¬ x = 62) => ?_) (fun (c3 : ¬ (¬ x = 62)) => ?_)
      · -- ¬ x = 62
        refine go_blk 1 [] (pc' := 23) (vs' := [.int x]) (st' := [.int 0]) (M' := mm M f g) (ps := []) rfl trivial ?_
        refine go_zret rfl rfl (Or.inl rfl) ?_
        exact h0 (by first | grind | (simp only [isDg, isSg, Bool.and_eq_true, Bool.or_eq_true, decide_eq_true_eq, beq_iff_eq]; grind))
      · -- ¬ (¬ x = 62)
        refine go_blk 2 [] (pc' := 23) (vs' := [.int x]) (st' := [.int 1]) (M' := mm M f g) (ps := []) rfl trivial ?_
        refine go_zret rfl rfl (Or.inr rfl) ?_
        exact h1 (by first | grind | (simp only [isDg, isSg, Bool.and_eq_true, Bool.or_eq_true, decide_eq_true_eq, beq_iff_eq]; grind))

set_option maxRecDepth 100000 in
theorem s_Tx_partBehind {d : Nat} {M : Mem} {f : Nat → Nat → Int32} {g : Nat → Nat → Int64} {R : Option Value → Mem → Prop} {p : Nat} {x : Int32} (hd : 1 ≤ d) (hp : p ≤ 3) (hR : R (some (.int (pBI p x))) (mm M f g)) : Call d 94 [.int (nI p), .int x] (mm M f g) R := by
  have hk : p = 0 ∨ p = 1 ∨ p = 2 ∨ p = 3 := by omega
  rcases hk with rfl | rfl | rfl | rfl
  ·
    show Go d 94 0 0 0 [.int 0, .int x] [] (mm M f g) R
    refine go_blk 1 [] (pc' := 1) (vs' := [.int 0, .int x]) (st' := [.int x]) (M' := mm M f g) (ps := []) rfl trivial ?_
    refine go_callS rfl (by decide) rfl rfl (by omega) rfl (by decide) (by decide) ?_
    refine s_Tx_isComparison (by omega) (fun c1 => ⟨ne_i, ?_⟩) (fun c1 => ⟨ne_i, ?_⟩)
    · -- 1
      show Go d 94 0 0 4 [.int 0, .int x] [.int 1] (mm M f g) R
      refine go_if rfl (fun (z : (1 : Int32) = 0) => absurd z (show ¬ ((1 : Int32) = 0) from (by decide))) (fun _ => ?_)
      refine go_blk 1 [] (pc' := 8) (vs' := [.int 0, .int x]) (st' := [.int 0]) (M' := mm M f g) (ps := []) rfl trivial ?_
      refine go_if rfl (fun _ => ?_) (fun (z : ¬ ((0 : Int32) = 0)) => absurd (show (0 : Int32) = 0 from (by decide)) z)
      refine go_blk 2 [] (pc' := 21) (vs' := [.int 0, .int x]) (st' := [.int 1]) (M' := mm M f g) (ps := []) rfl trivial ?_
      refine go_iret rfl rfl ?_
      have e : pBI 0 x = (1 : Int32) := by
        unfold pBI pBh
        simp only [isSg_is] at *
        clear hR hd
        simp [*]
        try rfl
      rw [e] at hR; exact hR
    · -- 0
      show Go d 94 0 0 4 [.int 0, .int x] [.int 0] (mm M f g) R
      refine go_if rfl (fun _ => ?_) (fun (z : ¬ ((0 : Int32) = 0)) => absurd (show (0 : Int32) = 0 from (by decide)) z)
      refine go_blk 1 [] (pc' := 23) (vs' := [.int 0, .int x]) (st' := [.int x]) (M' := mm M f g) (ps := []) rfl trivial ?_
      refine go_lsw rfl ?_
      refine ⟨fun (c2 : x = 38) => ?_, fun (c2n : ¬ (x = 38)) => ?_⟩
      · -- x = 38
        show Go d 94 0 0 56 [.int 0, .int x] [] (mm M f g) R
        refine go_blk 2 [] (pc' := 58) (vs' := [.int 0, .int x]) (st' := [.int 1, .int 0]) (M' := mm M f g) (ps := []) rfl trivial ?_
        refine go_icmp rfl (fun _ => ?_) (fun (z : ¬ (¬ (0 : Int32) = 1)) => absurd (show ¬ (0 : Int32) = 1 from (by decide)) z)
        refine go_blk 1 [] (pc' := 66) (vs' := [.int 0, .int x]) (st' := [.int (-1)]) (M' := mm M f g) (ps := []) rfl trivial ?_
        refine go_iret rfl rfl ?_
        have e : pBI 0 x = ((-1) : Int32) := by
          unfold pBI pBh
          simp only [isSg_is] at *
          clear hR hd
          simp [*]
          try rfl
        rw [e] at hR; exact hR
      refine ⟨fun (c3 : x = 59) => ?_, fun (c3n : ¬ (x = 59)) => ?_⟩
      · -- x = 59
        show Go d 94 0 0 78 [.int 0, .int x] [] (mm M f g) R
        refine go_blk 1 [] (pc' := 79) (vs' := [.int 0, .int x]) (st' := [.int 0]) (M' := mm M f g) (ps := []) rfl trivial ?_
        refine go_if rfl (fun _ => ?_) (fun (z : ¬ ((0 : Int32) = 0)) => absurd (show (0 : Int32) = 0 from (by decide)) z)
        refine go_blk 2 [] (pc' := 92) (vs' := [.int 0, .int x]) (st' := [.int 0]) (M' := mm M f g) (ps := []) rfl trivial ?_
        refine go_iret rfl rfl ?_
        have e : pBI 0 x = (0 : Int32) := by
          unfold pBI pBh
          simp only [isSg_is] at *
          clear hR hd
          simp [*]
          try rfl
        rw [e] at hR; exact hR
      refine ⟨fun (c4 : x = 63) => ?_, fun (c4n : ¬ (x = 63)) => ?_⟩
      · -- x = 63
        show Go d 94 0 0 67 [.int 0, .int x] [] (mm M f g) R
        refine go_blk 2 [] (pc' := 69) (vs' := [.int 0, .int x]) (st' := [.int 1, .int 0]) (M' := mm M f g) (ps := []) rfl trivial ?_
        refine go_icmp rfl (fun _ => ?_) (fun (z : ¬ (¬ (0 : Int32) = 1)) => absurd (show ¬ (0 : Int32) = 1 from (by decide)) z)
        refine go_blk 1 [] (pc' := 77) (vs' := [.int 0, .int x]) (st' := [.int (-1)]) (M' := mm M f g) (ps := []) rfl trivial ?_
        refine go_iret rfl rfl ?_
        have e : pBI 0 x = ((-1) : Int32) := by
          unfold pBI pBh
          simp only [isSg_is] at *
          clear hR hd
          simp [*]
          try rfl
        rw [e] at hR; exact hR
      show Go d 94 0 0 93 [.int 0, .int x] [] (mm M f g) R
      refine go_blk 1 [] (pc' := 94) (vs' := [.int 0, .int x]) (st' := [.int (-1)]) (M' := mm M f g) (ps := []) rfl trivial ?_
      refine go_iret rfl rfl ?_
      have e : pBI 0 x = ((-1) : Int32) := by
        unfold pBI pBh
        simp only [isSg_is] at *
        clear hR hd
        simp [*]
        try rfl
      rw [e] at hR; exact hR
  ·
    show Go d 94 0 0 0 [.int 1, .int x] [] (mm M f g) R
    refine go_blk 1 [] (pc' := 1) (vs' := [.int 1, .int x]) (st' := [.int x]) (M' := mm M f g) (ps := []) rfl trivial ?_
    refine go_callS rfl (by decide) rfl rfl (by omega) rfl (by decide) (by decide) ?_
    refine s_Tx_isComparison (by omega) (fun c1 => ⟨ne_i, ?_⟩) (fun c1 => ⟨ne_i, ?_⟩)
    · -- 1
      show Go d 94 0 0 4 [.int 1, .int x] [.int 1] (mm M f g) R
      refine go_if rfl (fun (z : (1 : Int32) = 0) => absurd z (show ¬ ((1 : Int32) = 0) from (by decide))) (fun _ => ?_)
      refine go_blk 1 [] (pc' := 8) (vs' := [.int 1, .int x]) (st' := [.int 1]) (M' := mm M f g) (ps := []) rfl trivial ?_
      refine go_if rfl (fun (z : (1 : Int32) = 0) => absurd z (show ¬ ((1 : Int32) = 0) from (by decide))) (fun _ => ?_)
      refine go_blk 2 [] (pc' := 13) (vs' := [.int 1, .int x]) (st' := [.int 2, .int 1]) (M' := mm M f g) (ps := []) rfl trivial ?_
      refine go_icmp rfl (fun _ => ?_) (fun (z : ¬ (¬ (1 : Int32) = 2)) => absurd (show ¬ (1 : Int32) = 2 from (by decide)) z)
      refine go_blk 1 [] (pc' := 21) (vs' := [.int 1, .int x]) (st' := [.int (-1)]) (M' := mm M f g) (ps := []) rfl trivial ?_
      refine go_iret rfl rfl ?_
      have e : pBI 1 x = ((-1) : Int32) := by
        unfold pBI pBh
        simp only [isSg_is] at *
        clear hR hd
        simp [*]
        try rfl
      rw [e] at hR; exact hR
    · -- 0
      show Go d 94 0 0 4 [.int 1, .int x] [.int 0] (mm M f g) R
      refine go_if rfl (fun _ => ?_) (fun (z : ¬ ((0 : Int32) = 0)) => absurd (show (0 : Int32) = 0 from (by decide)) z)
      refine go_blk 1 [] (pc' := 23) (vs' := [.int 1, .int x]) (st' := [.int x]) (M' := mm M f g) (ps := []) rfl trivial ?_
      refine go_lsw rfl ?_
      refine ⟨fun (c2 : x = 38) => ?_, fun (c2n : ¬ (x = 38)) => ?_⟩
      · -- x = 38
        show Go d 94 0 0 56 [.int 1, .int x] [] (mm M f g) R
        refine go_blk 2 [] (pc' := 58) (vs' := [.int 1, .int x]) (st' := [.int 1, .int 1]) (M' := mm M f g) (ps := []) rfl trivial ?_
        refine go_icmp rfl (fun (z : ¬ (1 : Int32) = 1) => absurd z (show ¬ (¬ (1 : Int32) = 1) from (by decide))) (fun _ => ?_)
        refine go_blk 2 [] (pc' := 66) (vs' := [.int 1, .int x]) (st' := [.int 2]) (M' := mm M f g) (ps := []) rfl trivial ?_
        refine go_iret rfl rfl ?_
        have e : pBI 1 x = (2 : Int32) := by
          unfold pBI pBh
          simp only [isSg_is] at *
          clear hR hd
          simp [*]
          try rfl
        rw [e] at hR; exact hR
      refine ⟨fun (c3 : x = 59) => ?_, fun (c3n : ¬ (x = 59)) => ?_⟩
      · -- x = 59
        show Go d 94 0 0 78 [.int 1, .int x] [] (mm M f g) R
        refine go_blk 1 [] (pc' := 79) (vs' := [.int 1, .int x]) (st' := [.int 1]) (M' := mm M f g) (ps := []) rfl trivial ?_
        refine go_if rfl (fun (z : (1 : Int32) = 0) => absurd z (show ¬ ((1 : Int32) = 0) from (by decide))) (fun _ => ?_)
        refine go_blk 2 [] (pc' := 84) (vs' := [.int 1, .int x]) (st' := [.int 3, .int 1]) (M' := mm M f g) (ps := []) rfl trivial ?_
        refine go_icmp rfl (fun _ => ?_) (fun (z : ¬ (¬ (1 : Int32) = 3)) => absurd (show ¬ (1 : Int32) = 3 from (by decide)) z)
        refine go_blk 1 [] (pc' := 92) (vs' := [.int 1, .int x]) (st' := [.int (-1)]) (M' := mm M f g) (ps := []) rfl trivial ?_
        refine go_iret rfl rfl ?_
        have e : pBI 1 x = ((-1) : Int32) := by
          unfold pBI pBh
          simp only [isSg_is] at *
          clear hR hd
          simp [*]
          try rfl
        rw [e] at hR; exact hR
      refine ⟨fun (c4 : x = 63) => ?_, fun (c4n : ¬ (x = 63)) => ?_⟩
      · -- x = 63
        show Go d 94 0 0 67 [.int 1, .int x] [] (mm M f g) R
        refine go_blk 2 [] (pc' := 69) (vs' := [.int 1, .int x]) (st' := [.int 1, .int 1]) (M' := mm M f g) (ps := []) rfl trivial ?_
        refine go_icmp rfl (fun (z : ¬ (1 : Int32) = 1) => absurd z (show ¬ (¬ (1 : Int32) = 1) from (by decide))) (fun _ => ?_)
        refine go_blk 2 [] (pc' := 77) (vs' := [.int 1, .int x]) (st' := [.int 3]) (M' := mm M f g) (ps := []) rfl trivial ?_
        refine go_iret rfl rfl ?_
        have e : pBI 1 x = (3 : Int32) := by
          unfold pBI pBh
          simp only [isSg_is] at *
          clear hR hd
          simp [*]
          try rfl
        rw [e] at hR; exact hR
      show Go d 94 0 0 93 [.int 1, .int x] [] (mm M f g) R
      refine go_blk 1 [] (pc' := 94) (vs' := [.int 1, .int x]) (st' := [.int (-1)]) (M' := mm M f g) (ps := []) rfl trivial ?_
      refine go_iret rfl rfl ?_
      have e : pBI 1 x = ((-1) : Int32) := by
        unfold pBI pBh
        simp only [isSg_is] at *
        clear hR hd
        simp [*]
        try rfl
      rw [e] at hR; exact hR
  ·
    show Go d 94 0 0 0 [.int 2, .int x] [] (mm M f g) R
    refine go_blk 1 [] (pc' := 1) (vs' := [.int 2, .int x]) (st' := [.int x]) (M' := mm M f g) (ps := []) rfl trivial ?_
    refine go_callS rfl (by decide) rfl rfl (by omega) rfl (by decide) (by decide) ?_
    refine s_Tx_isComparison (by omega) (fun c1 => ⟨ne_i, ?_⟩) (fun c1 => ⟨ne_i, ?_⟩)
    · -- 1
      show Go d 94 0 0 4 [.int 2, .int x] [.int 1] (mm M f g) R
      refine go_if rfl (fun (z : (1 : Int32) = 0) => absurd z (show ¬ ((1 : Int32) = 0) from (by decide))) (fun _ => ?_)
      refine go_blk 1 [] (pc' := 8) (vs' := [.int 2, .int x]) (st' := [.int 2]) (M' := mm M f g) (ps := []) rfl trivial ?_
      refine go_if rfl (fun (z : (2 : Int32) = 0) => absurd z (show ¬ ((2 : Int32) = 0) from (by decide))) (fun _ => ?_)
      refine go_blk 2 [] (pc' := 13) (vs' := [.int 2, .int x]) (st' := [.int 2, .int 2]) (M' := mm M f g) (ps := []) rfl trivial ?_
      refine go_icmp rfl (fun (z : ¬ (2 : Int32) = 2) => absurd z (show ¬ (¬ (2 : Int32) = 2) from (by decide))) (fun _ => ?_)
      refine go_blk 2 [] (pc' := 21) (vs' := [.int 2, .int x]) (st' := [.int 1]) (M' := mm M f g) (ps := []) rfl trivial ?_
      refine go_iret rfl rfl ?_
      have e : pBI 2 x = (1 : Int32) := by
        unfold pBI pBh
        simp only [isSg_is] at *
        clear hR hd
        simp [*]
        try rfl
      rw [e] at hR; exact hR
    · -- 0
      show Go d 94 0 0 4 [.int 2, .int x] [.int 0] (mm M f g) R
      refine go_if rfl (fun _ => ?_) (fun (z : ¬ ((0 : Int32) = 0)) => absurd (show (0 : Int32) = 0 from (by decide)) z)
      refine go_blk 1 [] (pc' := 23) (vs' := [.int 2, .int x]) (st' := [.int x]) (M' := mm M f g) (ps := []) rfl trivial ?_
      refine go_lsw rfl ?_
      refine ⟨fun (c2 : x = 38) => ?_, fun (c2n : ¬ (x = 38)) => ?_⟩
      · -- x = 38
        show Go d 94 0 0 56 [.int 2, .int x] [] (mm M f g) R
        refine go_blk 2 [] (pc' := 58) (vs' := [.int 2, .int x]) (st' := [.int 1, .int 2]) (M' := mm M f g) (ps := []) rfl trivial ?_
        refine go_icmp rfl (fun _ => ?_) (fun (z : ¬ (¬ (2 : Int32) = 1)) => absurd (show ¬ (2 : Int32) = 1 from (by decide)) z)
        refine go_blk 1 [] (pc' := 66) (vs' := [.int 2, .int x]) (st' := [.int (-1)]) (M' := mm M f g) (ps := []) rfl trivial ?_
        refine go_iret rfl rfl ?_
        have e : pBI 2 x = ((-1) : Int32) := by
          unfold pBI pBh
          simp only [isSg_is] at *
          clear hR hd
          simp [*]
          try rfl
        rw [e] at hR; exact hR
      refine ⟨fun (c3 : x = 59) => ?_, fun (c3n : ¬ (x = 59)) => ?_⟩
      · -- x = 59
        show Go d 94 0 0 78 [.int 2, .int x] [] (mm M f g) R
        refine go_blk 1 [] (pc' := 79) (vs' := [.int 2, .int x]) (st' := [.int 2]) (M' := mm M f g) (ps := []) rfl trivial ?_
        refine go_if rfl (fun (z : (2 : Int32) = 0) => absurd z (show ¬ ((2 : Int32) = 0) from (by decide))) (fun _ => ?_)
        refine go_blk 2 [] (pc' := 84) (vs' := [.int 2, .int x]) (st' := [.int 3, .int 2]) (M' := mm M f g) (ps := []) rfl trivial ?_
        refine go_icmp rfl (fun _ => ?_) (fun (z : ¬ (¬ (2 : Int32) = 3)) => absurd (show ¬ (2 : Int32) = 3 from (by decide)) z)
        refine go_blk 1 [] (pc' := 92) (vs' := [.int 2, .int x]) (st' := [.int (-1)]) (M' := mm M f g) (ps := []) rfl trivial ?_
        refine go_iret rfl rfl ?_
        have e : pBI 2 x = ((-1) : Int32) := by
          unfold pBI pBh
          simp only [isSg_is] at *
          clear hR hd
          simp [*]
          try rfl
        rw [e] at hR; exact hR
      refine ⟨fun (c4 : x = 63) => ?_, fun (c4n : ¬ (x = 63)) => ?_⟩
      · -- x = 63
        show Go d 94 0 0 67 [.int 2, .int x] [] (mm M f g) R
        refine go_blk 2 [] (pc' := 69) (vs' := [.int 2, .int x]) (st' := [.int 1, .int 2]) (M' := mm M f g) (ps := []) rfl trivial ?_
        refine go_icmp rfl (fun _ => ?_) (fun (z : ¬ (¬ (2 : Int32) = 1)) => absurd (show ¬ (2 : Int32) = 1 from (by decide)) z)
        refine go_blk 1 [] (pc' := 77) (vs' := [.int 2, .int x]) (st' := [.int (-1)]) (M' := mm M f g) (ps := []) rfl trivial ?_
        refine go_iret rfl rfl ?_
        have e : pBI 2 x = ((-1) : Int32) := by
          unfold pBI pBh
          simp only [isSg_is] at *
          clear hR hd
          simp [*]
          try rfl
        rw [e] at hR; exact hR
      show Go d 94 0 0 93 [.int 2, .int x] [] (mm M f g) R
      refine go_blk 1 [] (pc' := 94) (vs' := [.int 2, .int x]) (st' := [.int (-1)]) (M' := mm M f g) (ps := []) rfl trivial ?_
      refine go_iret rfl rfl ?_
      have e : pBI 2 x = ((-1) : Int32) := by
        unfold pBI pBh
        simp only [isSg_is] at *
        clear hR hd
        simp [*]
        try rfl
      rw [e] at hR; exact hR
  ·
    show Go d 94 0 0 0 [.int 3, .int x] [] (mm M f g) R
    refine go_blk 1 [] (pc' := 1) (vs' := [.int 3, .int x]) (st' := [.int x]) (M' := mm M f g) (ps := []) rfl trivial ?_
    refine go_callS rfl (by decide) rfl rfl (by omega) rfl (by decide) (by decide) ?_
    refine s_Tx_isComparison (by omega) (fun c1 => ⟨ne_i, ?_⟩) (fun c1 => ⟨ne_i, ?_⟩)
    · -- 1
      show Go d 94 0 0 4 [.int 3, .int x] [.int 1] (mm M f g) R
      refine go_if rfl (fun (z : (1 : Int32) = 0) => absurd z (show ¬ ((1 : Int32) = 0) from (by decide))) (fun _ => ?_)
      refine go_blk 1 [] (pc' := 8) (vs' := [.int 3, .int x]) (st' := [.int 3]) (M' := mm M f g) (ps := []) rfl trivial ?_
      refine go_if rfl (fun (z : (3 : Int32) = 0) => absurd z (show ¬ ((3 : Int32) = 0) from (by decide))) (fun _ => ?_)
      refine go_blk 2 [] (pc' := 13) (vs' := [.int 3, .int x]) (st' := [.int 2, .int 3]) (M' := mm M f g) (ps := []) rfl trivial ?_
      refine go_icmp rfl (fun _ => ?_) (fun (z : ¬ (¬ (3 : Int32) = 2)) => absurd (show ¬ (3 : Int32) = 2 from (by decide)) z)
      refine go_blk 1 [] (pc' := 21) (vs' := [.int 3, .int x]) (st' := [.int (-1)]) (M' := mm M f g) (ps := []) rfl trivial ?_
      refine go_iret rfl rfl ?_
      have e : pBI 3 x = ((-1) : Int32) := by
        unfold pBI pBh
        simp only [isSg_is] at *
        clear hR hd
        simp [*]
        try rfl
      rw [e] at hR; exact hR
    · -- 0
      show Go d 94 0 0 4 [.int 3, .int x] [.int 0] (mm M f g) R
      refine go_if rfl (fun _ => ?_) (fun (z : ¬ ((0 : Int32) = 0)) => absurd (show (0 : Int32) = 0 from (by decide)) z)
      refine go_blk 1 [] (pc' := 23) (vs' := [.int 3, .int x]) (st' := [.int x]) (M' := mm M f g) (ps := []) rfl trivial ?_
      refine go_lsw rfl ?_
      refine ⟨fun (c2 : x = 38) => ?_, fun (c2n : ¬ (x = 38)) => ?_⟩
      · -- x = 38
        show Go d 94 0 0 56 [.int 3, .int x] [] (mm M f g) R
        refine go_blk 2 [] (pc' := 58) (vs' := [.int 3, .int x]) (st' := [.int 1, .int 3]) (M' := mm M f g) (ps := []) rfl trivial ?_
        refine go_icmp rfl (fun _ => ?_) (fun (z : ¬ (¬ (3 : Int32) = 1)) => absurd (show ¬ (3 : Int32) = 1 from (by decide)) z)
        refine go_blk 1 [] (pc' := 66) (vs' := [.int 3, .int x]) (st' := [.int (-1)]) (M' := mm M f g) (ps := []) rfl trivial ?_
        refine go_iret rfl rfl ?_
        have e : pBI 3 x = ((-1) : Int32) := by
          unfold pBI pBh
          simp only [isSg_is] at *
          clear hR hd
          simp [*]
          try rfl
        rw [e] at hR; exact hR
      refine ⟨fun (c3 : x = 59) => ?_, fun (c3n : ¬ (x = 59)) => ?_⟩
      · -- x = 59
        show Go d 94 0 0 78 [.int 3, .int x] [] (mm M f g) R
        refine go_blk 1 [] (pc' := 79) (vs' := [.int 3, .int x]) (st' := [.int 3]) (M' := mm M f g) (ps := []) rfl trivial ?_
        refine go_if rfl (fun (z : (3 : Int32) = 0) => absurd z (show ¬ ((3 : Int32) = 0) from (by decide))) (fun _ => ?_)
        refine go_blk 2 [] (pc' := 84) (vs' := [.int 3, .int x]) (st' := [.int 3, .int 3]) (M' := mm M f g) (ps := []) rfl trivial ?_
        refine go_icmp rfl (fun (z : ¬ (3 : Int32) = 3) => absurd z (show ¬ (¬ (3 : Int32) = 3) from (by decide))) (fun _ => ?_)
        refine go_blk 2 [] (pc' := 92) (vs' := [.int 3, .int x]) (st' := [.int 0]) (M' := mm M f g) (ps := []) rfl trivial ?_
        refine go_iret rfl rfl ?_
        have e : pBI 3 x = (0 : Int32) := by
          unfold pBI pBh
          simp only [isSg_is] at *
          clear hR hd
          simp [*]
          try rfl
        rw [e] at hR; exact hR
      refine ⟨fun (c4 : x = 63) => ?_, fun (c4n : ¬ (x = 63)) => ?_⟩
      · -- x = 63
        show Go d 94 0 0 67 [.int 3, .int x] [] (mm M f g) R
        refine go_blk 2 [] (pc' := 69) (vs' := [.int 3, .int x]) (st' := [.int 1, .int 3]) (M' := mm M f g) (ps := []) rfl trivial ?_
        refine go_icmp rfl (fun _ => ?_) (fun (z : ¬ (¬ (3 : Int32) = 1)) => absurd (show ¬ (3 : Int32) = 1 from (by decide)) z)
        refine go_blk 1 [] (pc' := 77) (vs' := [.int 3, .int x]) (st' := [.int (-1)]) (M' := mm M f g) (ps := []) rfl trivial ?_
        refine go_iret rfl rfl ?_
        have e : pBI 3 x = ((-1) : Int32) := by
          unfold pBI pBh
          simp only [isSg_is] at *
          clear hR hd
          simp [*]
          try rfl
        rw [e] at hR; exact hR
      show Go d 94 0 0 93 [.int 3, .int x] [] (mm M f g) R
      refine go_blk 1 [] (pc' := 94) (vs' := [.int 3, .int x]) (st' := [.int (-1)]) (M' := mm M f g) (ps := []) rfl trivial ?_
      refine go_iret rfl rfl ?_
      have e : pBI 3 x = ((-1) : Int32) := by
        unfold pBI pBh
        simp only [isSg_is] at *
        clear hR hd
        simp [*]
        try rfl
      rw [e] at hR; exact hR

set_option maxHeartbeats 4000000 in
set_option maxRecDepth 100000 in
theorem s_Tx_goesOnWith {d : Nat} {M : Mem} {f : Nat → Nat → Int32} {g : Nat → Nat → Int64} {ad : Nat → Nat → Nat} {R : Option Value → Mem → Prop} {q : Nat} {x : Int32} {s : TSt} (hd : 32 ≤ d) (ho : ob M (ad 7 q) 9) (hs : TS f (ad 7 q) s) (hk : okS s) (hx : letV x = if isLt x = true then 1 else 0) (h1 : ∀ s' f', tStep s x = some s' → TS f' (ad 7 q) s' → TK f f' (ad 7 q) → R (some (.int 1)) (mm M f' g)) (h0 : ∀ f', tStep s x = none → TK f f' (ad 7 q) → R (some (.int 0)) (mm M f' g)) : Call d 91 [.ref (ad 7 q), .int x] (mm M f g) R := by
  obtain ⟨p, dp, dg, due⟩ := s
  obtain ⟨hs4, hs5, hs6, hs7⟩ := hs
  obtain ⟨k1, k2, k3, k4⟩ := hk
  simp only at hs4 hs5 hs6 hs7 k1 k2 k3 k4
  cases hL : isLt x <;> rw [hL] at hx <;> cases due
  · replace hx : letV x = 0 := hx
    replace hs7 : f (ad 7 q) 7 = 0 := hs7
    show Go d 91 0 0 0 [.ref (ad 7 q), .int x, .retAddr 0] [] (mm M f g) R
    refine go_blk 2 [some (.int (nI dg))] (pc' := 4) (vs' := [.ref (ad 7 q), .int x, .retAddr 0]) (st' := [.int (nI dg)]) (M' := mm M f g) (ps := [ob (mm M f g) (ad 7 q) 9, (Value.int (f (ad 7 q) 6)) = .int (nI dg)]) rfl ⟨ho, congrArg Value.int hs6, trivial⟩ ?_
    refine go_if rfl (fun (c1 : (nI dg) ≤ 0) => ?_) (fun (c1 : ¬ ((nI dg) ≤ 0)) => ?_)
    · -- (nI dg) ≤ 0
      have nc1 : dg ≤ 0 := (nI_les (a := dg) (b := 0) (by omega) (by omega)).mp c1
      refine go_blk 3 [] (pc' := 22) (vs' := [.ref (ad 7 q), .int x, .int 0]) (st' := [.int x]) (M' := mm M f g) (ps := []) rfl trivial ?_
      refine go_callS rfl (by decide) rfl rfl (by omega) rfl (by decide) (by decide) ?_
      refine s_Tx_isDigit (by omega) (fun c2 => ⟨ne_i, ?_⟩) (fun c2 => ⟨ne_i, ?_⟩)
      · -- 1
        show Go d 91 0 0 25 [.ref (ad 7 q), .int x, .int 0] [.int 1] (mm M f g) R
        refine go_if rfl (fun (z : (1 : Int32) = 0) => absurd z (show ¬ ((1 : Int32) = 0) from (by decide))) (fun _ => ?_)
        refine go_blk 2 [some (.int 0)] (pc' := 32) (vs' := [.ref (ad 7 q), .int x, .int 0]) (st' := [.int 0]) (M' := mm M f g) (ps := [ob (mm M f g) (ad 7 q) 9, (Value.int (f (ad 7 q) 7)) = .int 0]) rfl ⟨ho, congrArg Value.int hs7, trivial⟩ ?_
        refine go_if rfl (fun (z : ¬ (0 : Int32) = 0) => absurd z (show ¬ (¬ (0 : Int32) = 0) from (by decide))) (fun _ => ?_)
        refine go_blk 1 [] (pc' := 36) (vs' := [.ref (ad 7 q), .int x, .int 0]) (st' := [.int 0]) (M' := mm M f g) (ps := []) rfl trivial ?_
        refine go_if rfl (fun _ => ?_) (fun (z : ¬ ((0 : Int32) = 0)) => absurd (show (0 : Int32) = 0 from (by decide)) z)
        refine go_blk 5 [] (pc' := 64) (vs' := [.ref (ad 7 q), .int x, .int 0]) (st' := [.int 32, .int x]) (M' := mm M (up2 f (ad 7 q) 6 0) g) (ps := [ob (mm M f g) (ad 7 q) 9]) rfl ⟨ho, trivial⟩ ?_
        refine go_icmp rfl (fun (c3 : ¬ x = 32) => ?_) (fun (c3 : ¬ (¬ x = 32)) => ?_)
        · -- ¬ x = 32
          refine go_blk 2 [some (.int 0)] (pc' := 73) (vs' := [.ref (ad 7 q), .int x, .int 0]) (st' := [.int 0]) (M' := mm M (up2 f (ad 7 q) 6 0) g) (ps := [ob (mm M (up2 f (ad 7 q) 6 0) g) (ad 7 q) 9, (Value.int ((up2 f (ad 7 q) 6 0) (ad 7 q) 7)) = .int 0]) rfl ⟨ho, congrArg Value.int (((up2_n _ _ (fun z => absurd z.2 (by decide))).trans (rfl)).trans hs7), trivial⟩ ?_
          refine go_if rfl (fun _ => ?_) (fun (z : ¬ ((0 : Int32) = 0)) => absurd (show (0 : Int32) = 0 from (by decide)) z)
          refine go_blk 2 [] (pc' := 86) (vs' := [.ref (ad 7 q), .int x, .int 0]) (st' := [.int x, .ref (ad 7 q)]) (M' := mm M (up2 f (ad 7 q) 6 0) g) (ps := []) rfl trivial ?_
          refine go_callV rfl rfl rfl (by omega) rfl (by decide) (by decide) ho ?_
          show Go (d - 1) 93 0 0 0 [.ref (ad 7 q), .int x] [] (mm M (up2 f (ad 7 q) 6 0) g) _
          refine go_blk 2 [some (.int (nI dp))] (pc' := 4) (vs' := [.ref (ad 7 q), .int x]) (st' := [.int (nI dp)]) (M' := mm M (up2 f (ad 7 q) 6 0) g) (ps := [ob (mm M (up2 f (ad 7 q) 6 0) g) (ad 7 q) 9, (Value.int ((up2 f (ad 7 q) 6 0) (ad 7 q) 5)) = .int (nI dp)]) rfl ⟨ho, congrArg Value.int (((up2_n _ _ (fun z => absurd z.2 (by decide))).trans (rfl)).trans hs5), trivial⟩ ?_
          refine go_if rfl (fun (c4 : (nI dp) ≤ 0) => ?_) (fun (c4 : ¬ ((nI dp) ≤ 0)) => ?_)
          · -- (nI dp) ≤ 0
            have nc4 : dp ≤ 0 := (nI_les (a := dp) (b := 0) (by omega) (by omega)).mp c4
            refine go_blk 4 [] (pc' := 31) (vs' := [.ref (ad 7 q), .int x]) (st' := [.int x]) (M' := mm M (up2 (up2 f (ad 7 q) 6 0) (ad 7 q) 7 1) g) (ps := [ob (mm M (up2 f (ad 7 q) 6 0) g) (ad 7 q) 9, 1 = 0 ∨ 1 = 1]) rfl ⟨ho, (Or.inr rfl), trivial⟩ ?_
            refine go_callS rfl (by decide) rfl rfl (by omega) rfl (by decide) (by decide) ?_
            refine s_Tx_isPlusOrMinus (by omega) (fun c5 => ⟨ne_i, ?_⟩) (fun c5 => ⟨ne_i, ?_⟩)
            · -- 1
              show Go (d - 1) 93 0 0 34 [.ref (ad 7 q), .int x] [.int 1] (mm M (up2 (up2 f (ad 7 q) 6 0) (ad 7 q) 7 1) g) _
              refine go_if rfl (fun _ => ?_) (fun (z : ¬ (¬ (1 : Int32) = 0)) => absurd (show ¬ (1 : Int32) = 0 from (by decide)) z)
              refine go_blk 1 [] (pc' := 45) (vs' := [.ref (ad 7 q), .int x]) (st' := [.int 1]) (M' := mm M (up2 (up2 f (ad 7 q) 6 0) (ad 7 q) 7 1) g) (ps := []) rfl trivial ?_
              refine go_zret rfl rfl (Or.inr rfl) ?_
              refine ⟨ne_i, ?_⟩
              show Go d 91 0 0 89 [.ref (ad 7 q), .int x, .int 0] [.int 1] (mm M (up2 (up2 f (ad 7 q) 6 0) (ad 7 q) 7 1) g) R
              refine go_zret rfl rfl (Or.inr rfl) ?_
              refine h1 (p, dp, 0, true) _ ?_ ⟨(((up2_n _ _ (fun z => absurd z.2 (by decide))).trans ((up2_n _ _ (fun z => absurd z.2 (by decide))).trans (rfl))).trans hs4), (((up2_n _ _ (fun z => absurd z.2 (by decide))).trans ((up2_n _ _ (fun z => absurd z.2 (by decide))).trans (rfl))).trans hs5), ((up2_n _ _ (fun z => absurd z.2 (by decide))).trans (up2_s _ _ _ _)), (up2_s _ _ _ _)⟩ (fun b k hn => by rw [up2_n _ _ (fun z => hn ⟨z.1, by omega, by omega⟩), up2_n _ _ (fun z => hn ⟨z.1, by omega, by omega⟩)])
              clear h1 h0 hs4 hs5 hs6 hs7
              simp only [tStep]
              grind
            · -- 0
              show Go (d - 1) 93 0 0 34 [.ref (ad 7 q), .int x] [.int 0] (mm M (up2 (up2 f (ad 7 q) 6 0) (ad 7 q) 7 1) g) _
              refine go_if rfl (fun (z : ¬ (0 : Int32) = 0) => absurd z (show ¬ (¬ (0 : Int32) = 0) from (by decide))) (fun _ => ?_)
              refine go_blk 1 [] (pc' := 38) (vs' := [.ref (ad 7 q), .int x]) (st' := [.int x]) (M' := mm M (up2 (up2 f (ad 7 q) 6 0) (ad 7 q) 7 1) g) (ps := []) rfl trivial ?_
              refine go_callS rfl (by decide) rfl rfl (by omega) rfl (by decide) (by decide) ?_
              refine s_Tx_isTimesOrBy (by omega) (fun c6 => ⟨ne_i, ?_⟩) (fun c6 => ⟨ne_i, ?_⟩)
              · -- 1
                show Go (d - 1) 93 0 0 41 [.ref (ad 7 q), .int x] [.int 1] (mm M (up2 (up2 f (ad 7 q) 6 0) (ad 7 q) 7 1) g) _
                refine go_if rfl (fun (z : (1 : Int32) = 0) => absurd z (show ¬ ((1 : Int32) = 0) from (by decide))) (fun _ => ?_)
                refine go_blk 1 [] (pc' := 45) (vs' := [.ref (ad 7 q), .int x]) (st' := [.int 1]) (M' := mm M (up2 (up2 f (ad 7 q) 6 0) (ad 7 q) 7 1) g) (ps := []) rfl trivial ?_
                refine go_zret rfl rfl (Or.inr rfl) ?_
                refine ⟨ne_i, ?_⟩
                show Go d 91 0 0 89 [.ref (ad 7 q), .int x, .int 0] [.int 1] (mm M (up2 (up2 f (ad 7 q) 6 0) (ad 7 q) 7 1) g) R
                refine go_zret rfl rfl (Or.inr rfl) ?_
                refine h1 (p, dp, 0, true) _ ?_ ⟨(((up2_n _ _ (fun z => absurd z.2 (by decide))).trans ((up2_n _ _ (fun z => absurd z.2 (by decide))).trans (rfl))).trans hs4), (((up2_n _ _ (fun z => absurd z.2 (by decide))).trans ((up2_n _ _ (fun z => absurd z.2 (by decide))).trans (rfl))).trans hs5), ((up2_n _ _ (fun z => absurd z.2 (by decide))).trans (up2_s _ _ _ _)), (up2_s _ _ _ _)⟩ (fun b k hn => by rw [up2_n _ _ (fun z => hn ⟨z.1, by omega, by omega⟩), up2_n _ _ (fun z => hn ⟨z.1, by omega, by omega⟩)])
                clear h1 h0 hs4 hs5 hs6 hs7
                simp only [tStep]
                grind
              · -- 0
                show Go (d - 1) 93 0 0 41 [.ref (ad 7 q), .int x] [.int 0] (mm M (up2 (up2 f (ad 7 q) 6 0) (ad 7 q) 7 1) g) _
                refine go_if rfl (fun _ => ?_) (fun (z : ¬ ((0 : Int32) = 0)) => absurd (show (0 : Int32) = 0 from (by decide)) z)
                refine go_blk 3 [some (.int (nI dp))] (pc' := 51) (vs' := [.ref (ad 7 q), .int x]) (st' := [.int (nI dp), .ref (ad 7 q)]) (M' := mm M (up2 (up2 f (ad 7 q) 6 0) (ad 7 q) 7 1) g) (ps := [ob (mm M (up2 (up2 f (ad 7 q) 6 0) (ad 7 q) 7 1) g) (ad 7 q) 9, (Value.int ((up2 (up2 f (ad 7 q) 6 0) (ad 7 q) 7 1) (ad 7 q) 5)) = .int (nI dp)]) rfl ⟨ho, congrArg Value.int (((up2_n _ _ (fun z => absurd z.2 (by decide))).trans ((up2_n _ _ (fun z => absurd z.2 (by decide))).trans (rfl))).trans hs5), trivial⟩ ?_
                refine go_if rfl (fun _ => ?_) (fun (z : ¬ ((nI dp) ≤ 0)) => absurd (show (nI dp) ≤ 0 from c4) z)
                refine go_blk 3 [some (.int (nI p))] (pc' := 63) (vs' := [.ref (ad 7 q), .int x]) (st' := [.int x, .int (nI p), .ref (ad 7 q)]) (M' := mm M (up2 (up2 f (ad 7 q) 6 0) (ad 7 q) 7 1) g) (ps := [ob (mm M (up2 (up2 f (ad 7 q) 6 0) (ad 7 q) 7 1) g) (ad 7 q) 9, (Value.int ((up2 (up2 f (ad 7 q) 6 0) (ad 7 q) 7 1) (ad 7 q) 4)) = .int (nI p)]) rfl ⟨ho, congrArg Value.int (((up2_n _ _ (fun z => absurd z.2 (by decide))).trans ((up2_n _ _ (fun z => absurd z.2 (by decide))).trans (rfl))).trans hs4), trivial⟩ ?_
                refine go_callS rfl (by decide) rfl rfl (by omega) rfl (by decide) (by decide) ?_
                refine s_Tx_partBehind (by omega) k1 ⟨ne_i, ?_⟩
                show Go (d - 1) 93 0 0 66 [.ref (ad 7 q), .int x] [.int (pBI p x), .ref (ad 7 q)] (mm M (up2 (up2 f (ad 7 q) 6 0) (ad 7 q) 7 1) g) _
                refine go_blk 4 [some (.int (pBI p x))] (pc' := 74) (vs' := [.ref (ad 7 q), .int x]) (st' := [.int (-1), .int (pBI p x)]) (M' := mm M (up2 (up2 (up2 f (ad 7 q) 6 0) (ad 7 q) 7 1) (ad 7 q) 4 (pBI p x)) g) (ps := [ob (mm M (up2 (up2 f (ad 7 q) 6 0) (ad 7 q) 7 1) g) (ad 7 q) 9, ob (mm M (up2 (up2 (up2 f (ad 7 q) 6 0) (ad 7 q) 7 1) (ad 7 q) 4 (pBI p x)) g) (ad 7 q) 9, (Value.int ((up2 (up2 (up2 f (ad 7 q) 6 0) (ad 7 q) 7 1) (ad 7 q) 4 (pBI p x)) (ad 7 q) 4)) = .int (pBI p x)]) rfl ⟨ho, ho, congrArg Value.int (up2_s _ _ _ _), trivial⟩ ?_
                refine go_icmp rfl (fun (c7 : (pBI p x) = (-1)) => ?_) (fun (c7 : ¬ ((pBI p x) = (-1))) => ?_)
                · -- (pBI p x) = (-1)
                  refine go_blk 1 [] (pc' := 82) (vs' := [.ref (ad 7 q), .int x]) (st' := [.int 0]) (M' := mm M (up2 (up2 (up2 f (ad 7 q) 6 0) (ad 7 q) 7 1) (ad 7 q) 4 (pBI p x)) g) (ps := []) rfl trivial ?_
                  refine go_zret rfl rfl (Or.inl rfl) ?_
                  refine ⟨ne_i, ?_⟩
                  show Go d 91 0 0 89 [.ref (ad 7 q), .int x, .int 0] [.int 0] (mm M (up2 (up2 (up2 f (ad 7 q) 6 0) (ad 7 q) 7 1) (ad 7 q) 4 (pBI p x)) g) R
                  refine go_zret rfl rfl (Or.inl rfl) ?_
                  have hpb := pBI_m1 c7
                  refine h0 _ ?_ (fun b k hn => by rw [up2_n _ _ (fun z => hn ⟨z.1, by omega, by omega⟩), up2_n _ _ (fun z => hn ⟨z.1, by omega, by omega⟩), up2_n _ _ (fun z => hn ⟨z.1, by omega, by omega⟩)])
                  clear h1 h0 hs4 hs5 hs6 hs7
                  simp only [tStep]
                  grind
                · -- ¬ ((pBI p x) = (-1))
                  refine go_blk 2 [] (pc' := 82) (vs' := [.ref (ad 7 q), .int x]) (st' := [.int 1]) (M' := mm M (up2 (up2 (up2 f (ad 7 q) 6 0) (ad 7 q) 7 1) (ad 7 q) 4 (pBI p x)) g) (ps := []) rfl trivial ?_
                  refine go_zret rfl rfl (Or.inr rfl) ?_
                  refine ⟨ne_i, ?_⟩
                  show Go d 91 0 0 89 [.ref (ad 7 q), .int x, .int 0] [.int 1] (mm M (up2 (up2 (up2 f (ad 7 q) 6 0) (ad 7 q) 7 1) (ad 7 q) 4 (pBI p x)) g) R
                  refine go_zret rfl rfl (Or.inr rfl) ?_
                  obtain ⟨kk, hpb, hpc⟩ := pBI_k c7
                  refine h1 (kk, dp, 0, true) _ ?_ ⟨((up2_s _ _ _ _).trans hpc), (((up2_n _ _ (fun z => absurd z.2 (by decide))).trans ((up2_n _ _ (fun z => absurd z.2 (by decide))).trans ((up2_n _ _ (fun z => absurd z.2 (by decide))).trans (rfl)))).trans hs5), ((up2_n _ _ (fun z => absurd z.2 (by decide))).trans ((up2_n _ _ (fun z => absurd z.2 (by decide))).trans (up2_s _ _ _ _))), ((up2_n _ _ (fun z => absurd z.2 (by decide))).trans (up2_s _ _ _ _))⟩ (fun b k hn => by rw [up2_n _ _ (fun z => hn ⟨z.1, by omega, by omega⟩), up2_n _ _ (fun z => hn ⟨z.1, by omega, by omega⟩), up2_n _ _ (fun z => hn ⟨z.1, by omega, by omega⟩)])
                  clear h1 h0 hs4 hs5 hs6 hs7
                  simp only [tStep]
                  grind
          · -- ¬ ((nI dp) ≤ 0)
            have nc4 : 0 < dp := (nI_lts (a := 0) (b := dp) (by omega) (by omega)).mp (Int32.not_le.mp c4)
            refine go_blk 2 [] (pc' := 10) (vs' := [.ref (ad 7 q), .int x]) (st' := [.int 41, .int x]) (M' := mm M (up2 f (ad 7 q) 6 0) g) (ps := []) rfl trivial ?_
            refine go_icmp rfl (fun (c8 : ¬ x = 41) => ?_) (fun (c8 : ¬ (¬ x = 41)) => ?_)
            · -- ¬ x = 41
              refine go_blk 4 [] (pc' := 31) (vs' := [.ref (ad 7 q), .int x]) (st' := [.int x]) (M' := mm M (up2 (up2 f (ad 7 q) 6 0) (ad 7 q) 7 1) g) (ps := [ob (mm M (up2 f (ad 7 q) 6 0) g) (ad 7 q) 9, 1 = 0 ∨ 1 = 1]) rfl ⟨ho, (Or.inr rfl), trivial⟩ ?_
              refine go_callS rfl (by decide) rfl rfl (by omega) rfl (by decide) (by decide) ?_
              refine s_Tx_isPlusOrMinus (by omega) (fun c9 => ⟨ne_i, ?_⟩) (fun c9 => ⟨ne_i, ?_⟩)
              · -- 1
                show Go (d - 1) 93 0 0 34 [.ref (ad 7 q), .int x] [.int 1] (mm M (up2 (up2 f (ad 7 q) 6 0) (ad 7 q) 7 1) g) _
                refine go_if rfl (fun _ => ?_) (fun (z : ¬ (¬ (1 : Int32) = 0)) => absurd (show ¬ (1 : Int32) = 0 from (by decide)) z)
                refine go_blk 1 [] (pc' := 45) (vs' := [.ref (ad 7 q), .int x]) (st' := [.int 1]) (M' := mm M (up2 (up2 f (ad 7 q) 6 0) (ad 7 q) 7 1) g) (ps := []) rfl trivial ?_
                refine go_zret rfl rfl (Or.inr rfl) ?_
                refine ⟨ne_i, ?_⟩
                show Go d 91 0 0 89 [.ref (ad 7 q), .int x, .int 0] [.int 1] (mm M (up2 (up2 f (ad 7 q) 6 0) (ad 7 q) 7 1) g) R
                refine go_zret rfl rfl (Or.inr rfl) ?_
                refine h1 (p, dp, 0, true) _ ?_ ⟨(((up2_n _ _ (fun z => absurd z.2 (by decide))).trans ((up2_n _ _ (fun z => absurd z.2 (by decide))).trans (rfl))).trans hs4), (((up2_n _ _ (fun z => absurd z.2 (by decide))).trans ((up2_n _ _ (fun z => absurd z.2 (by decide))).trans (rfl))).trans hs5), ((up2_n _ _ (fun z => absurd z.2 (by decide))).trans (up2_s _ _ _ _)), (up2_s _ _ _ _)⟩ (fun b k hn => by rw [up2_n _ _ (fun z => hn ⟨z.1, by omega, by omega⟩), up2_n _ _ (fun z => hn ⟨z.1, by omega, by omega⟩)])
                clear h1 h0 hs4 hs5 hs6 hs7
                simp only [tStep]
                grind
              · -- 0
                show Go (d - 1) 93 0 0 34 [.ref (ad 7 q), .int x] [.int 0] (mm M (up2 (up2 f (ad 7 q) 6 0) (ad 7 q) 7 1) g) _
                refine go_if rfl (fun (z : ¬ (0 : Int32) = 0) => absurd z (show ¬ (¬ (0 : Int32) = 0) from (by decide))) (fun _ => ?_)
                refine go_blk 1 [] (pc' := 38) (vs' := [.ref (ad 7 q), .int x]) (st' := [.int x]) (M' := mm M (up2 (up2 f (ad 7 q) 6 0) (ad 7 q) 7 1) g) (ps := []) rfl trivial ?_
                refine go_callS rfl (by decide) rfl rfl (by omega) rfl (by decide) (by decide) ?_
                refine s_Tx_isTimesOrBy (by omega) (fun c10 => ⟨ne_i, ?_⟩) (fun c10 => ⟨ne_i, ?_⟩)
                · -- 1
                  show Go (d - 1) 93 0 0 41 [.ref (ad 7 q), .int x] [.int 1] (mm M (up2 (up2 f (ad 7 q) 6 0) (ad 7 q) 7 1) g) _
                  refine go_if rfl (fun (z : (1 : Int32) = 0) => absurd z (show ¬ ((1 : Int32) = 0) from (by decide))) (fun _ => ?_)
                  refine go_blk 1 [] (pc' := 45) (vs' := [.ref (ad 7 q), .int x]) (st' := [.int 1]) (M' := mm M (up2 (up2 f (ad 7 q) 6 0) (ad 7 q) 7 1) g) (ps := []) rfl trivial ?_
                  refine go_zret rfl rfl (Or.inr rfl) ?_
                  refine ⟨ne_i, ?_⟩
                  show Go d 91 0 0 89 [.ref (ad 7 q), .int x, .int 0] [.int 1] (mm M (up2 (up2 f (ad 7 q) 6 0) (ad 7 q) 7 1) g) R
                  refine go_zret rfl rfl (Or.inr rfl) ?_
                  refine h1 (p, dp, 0, true) _ ?_ ⟨(((up2_n _ _ (fun z => absurd z.2 (by decide))).trans ((up2_n _ _ (fun z => absurd z.2 (by decide))).trans (rfl))).trans hs4), (((up2_n _ _ (fun z => absurd z.2 (by decide))).trans ((up2_n _ _ (fun z => absurd z.2 (by decide))).trans (rfl))).trans hs5), ((up2_n _ _ (fun z => absurd z.2 (by decide))).trans (up2_s _ _ _ _)), (up2_s _ _ _ _)⟩ (fun b k hn => by rw [up2_n _ _ (fun z => hn ⟨z.1, by omega, by omega⟩), up2_n _ _ (fun z => hn ⟨z.1, by omega, by omega⟩)])
                  clear h1 h0 hs4 hs5 hs6 hs7
                  simp only [tStep]
                  grind
                · -- 0
                  show Go (d - 1) 93 0 0 41 [.ref (ad 7 q), .int x] [.int 0] (mm M (up2 (up2 f (ad 7 q) 6 0) (ad 7 q) 7 1) g) _
                  refine go_if rfl (fun _ => ?_) (fun (z : ¬ ((0 : Int32) = 0)) => absurd (show (0 : Int32) = 0 from (by decide)) z)
                  refine go_blk 3 [some (.int (nI dp))] (pc' := 51) (vs' := [.ref (ad 7 q), .int x]) (st' := [.int (nI dp), .ref (ad 7 q)]) (M' := mm M (up2 (up2 f (ad 7 q) 6 0) (ad 7 q) 7 1) g) (ps := [ob (mm M (up2 (up2 f (ad 7 q) 6 0) (ad 7 q) 7 1) g) (ad 7 q) 9, (Value.int ((up2 (up2 f (ad 7 q) 6 0) (ad 7 q) 7 1) (ad 7 q) 5)) = .int (nI dp)]) rfl ⟨ho, congrArg Value.int (((up2_n _ _ (fun z => absurd z.2 (by decide))).trans ((up2_n _ _ (fun z => absurd z.2 (by decide))).trans (rfl))).trans hs5), trivial⟩ ?_
                  refine go_if rfl (fun (z : (nI dp) ≤ 0) => absurd z (show ¬ ((nI dp) ≤ 0) from c4)) (fun _ => ?_)
                  refine go_blk 6 [some (.int (-1))] (pc' := 74) (vs' := [.ref (ad 7 q), .int x]) (st' := [.int (-1), .int (-1)]) (M' := mm M (up2 (up2 (up2 f (ad 7 q) 6 0) (ad 7 q) 7 1) (ad 7 q) 4 (-1)) g) (ps := [ob (mm M (up2 (up2 f (ad 7 q) 6 0) (ad 7 q) 7 1) g) (ad 7 q) 9, ob (mm M (up2 (up2 (up2 f (ad 7 q) 6 0) (ad 7 q) 7 1) (ad 7 q) 4 (-1)) g) (ad 7 q) 9, (Value.int ((up2 (up2 (up2 f (ad 7 q) 6 0) (ad 7 q) 7 1) (ad 7 q) 4 (-1)) (ad 7 q) 4)) = .int (-1)]) rfl ⟨ho, ho, congrArg Value.int (up2_s _ _ _ _), trivial⟩ ?_
                  refine go_icmp rfl (fun _ => ?_) (fun (z : ¬ (((-1) : Int32) = (-1))) => absurd (show ((-1) : Int32) = (-1) from (by decide)) z)
                  refine go_blk 1 [] (pc' := 82) (vs' := [.ref (ad 7 q), .int x]) (st' := [.int 0]) (M' := mm M (up2 (up2 (up2 f (ad 7 q) 6 0) (ad 7 q) 7 1) (ad 7 q) 4 (-1)) g) (ps := []) rfl trivial ?_
                  refine go_zret rfl rfl (Or.inl rfl) ?_
                  refine ⟨ne_i, ?_⟩
                  show Go d 91 0 0 89 [.ref (ad 7 q), .int x, .int 0] [.int 0] (mm M (up2 (up2 (up2 f (ad 7 q) 6 0) (ad 7 q) 7 1) (ad 7 q) 4 (-1)) g) R
                  refine go_zret rfl rfl (Or.inl rfl) ?_
                  refine h0 _ ?_ (fun b k hn => by rw [up2_n _ _ (fun z => hn ⟨z.1, by omega, by omega⟩), up2_n _ _ (fun z => hn ⟨z.1, by omega, by omega⟩), up2_n _ _ (fun z => hn ⟨z.1, by omega, by omega⟩)])
                  clear h1 h0 hs4 hs5 hs6 hs7
                  simp only [tStep]
                  grind
            · -- ¬ (¬ x = 41)
              refine go_blk 7 [some (.int (nI dp))] (pc' := 24) (vs' := [.ref (ad 7 q), .int x]) (st' := [.int 1]) (M' := mm M (up2 (up2 f (ad 7 q) 6 0) (ad 7 q) 5 ((nI dp) - 1)) g) (ps := [(.ref (ad 7 q) : Value).category = 1, ob (mm M (up2 f (ad 7 q) 6 0) g) (ad 7 q) 9, (Value.int ((up2 f (ad 7 q) 6 0) (ad 7 q) 5)) = .int (nI dp), ob (mm M (up2 f (ad 7 q) 6 0) g) (ad 7 q) 9]) rfl ⟨rfl, ho, congrArg Value.int (((up2_n _ _ (fun z => absurd z.2 (by decide))).trans (rfl)).trans hs5), ho, trivial⟩ ?_
              refine go_zret rfl rfl (Or.inr rfl) ?_
              refine ⟨ne_i, ?_⟩
              show Go d 91 0 0 89 [.ref (ad 7 q), .int x, .int 0] [.int 1] (mm M (up2 (up2 f (ad 7 q) 6 0) (ad 7 q) 5 ((nI dp) - 1)) g) R
              refine go_zret rfl rfl (Or.inr rfl) ?_
              refine h1 (p, dp - 1, 0, false) _ ?_ ⟨(((up2_n _ _ (fun z => absurd z.2 (by decide))).trans ((up2_n _ _ (fun z => absurd z.2 (by decide))).trans (rfl))).trans hs4), ((up2_s _ _ _ _).trans (pk_sub (a := dp) (b := 1) (by omega))), ((up2_n _ _ (fun z => absurd z.2 (by decide))).trans (up2_s _ _ _ _)), (((up2_n _ _ (fun z => absurd z.2 (by decide))).trans ((up2_n _ _ (fun z => absurd z.2 (by decide))).trans (rfl))).trans hs7)⟩ (fun b k hn => by rw [up2_n _ _ (fun z => hn ⟨z.1, by omega, by omega⟩), up2_n _ _ (fun z => hn ⟨z.1, by omega, by omega⟩)])
              clear h1 h0 hs4 hs5 hs6 hs7
              simp only [tStep]
              grind
        · -- ¬ (¬ x = 32)
          refine go_blk 1 [] (pc' := 68) (vs' := [.ref (ad 7 q), .int x, .int 0]) (st' := [.int 1]) (M' := mm M (up2 f (ad 7 q) 6 0) g) (ps := []) rfl trivial ?_
          refine go_zret rfl rfl (Or.inr rfl) ?_
          refine h1 (p, dp, 0, false) _ ?_ ⟨(((up2_n _ _ (fun z => absurd z.2 (by decide))).trans (rfl)).trans hs4), (((up2_n _ _ (fun z => absurd z.2 (by decide))).trans (rfl)).trans hs5), (up2_s _ _ _ _), (((up2_n _ _ (fun z => absurd z.2 (by decide))).trans (rfl)).trans hs7)⟩ (fun b k hn => by rw [up2_n _ _ (fun z => hn ⟨z.1, by omega, by omega⟩)])
          clear h1 h0 hs4 hs5 hs6 hs7
          simp only [tStep]
          grind
      · -- 0
        show Go d 91 0 0 25 [.ref (ad 7 q), .int x, .int 0] [.int 0] (mm M f g) R
        refine go_if rfl (fun _ => ?_) (fun (z : ¬ ((0 : Int32) = 0)) => absurd (show (0 : Int32) = 0 from (by decide)) z)
        refine go_blk 5 [] (pc' := 64) (vs' := [.ref (ad 7 q), .int x, .int 0]) (st' := [.int 32, .int x]) (M' := mm M (up2 f (ad 7 q) 6 0) g) (ps := [ob (mm M f g) (ad 7 q) 9]) rfl ⟨ho, trivial⟩ ?_
        refine go_icmp rfl (fun (c11 : ¬ x = 32) => ?_) (fun (c11 : ¬ (¬ x = 32)) => ?_)
        · -- ¬ x = 32
          refine go_blk 2 [some (.int 0)] (pc' := 73) (vs' := [.ref (ad 7 q), .int x, .int 0]) (st' := [.int 0]) (M' := mm M (up2 f (ad 7 q) 6 0) g) (ps := [ob (mm M (up2 f (ad 7 q) 6 0) g) (ad 7 q) 9, (Value.int ((up2 f (ad 7 q) 6 0) (ad 7 q) 7)) = .int 0]) rfl ⟨ho, congrArg Value.int (((up2_n _ _ (fun z => absurd z.2 (by decide))).trans (rfl)).trans hs7), trivial⟩ ?_
          refine go_if rfl (fun _ => ?_) (fun (z : ¬ ((0 : Int32) = 0)) => absurd (show (0 : Int32) = 0 from (by decide)) z)
          refine go_blk 2 [] (pc' := 86) (vs' := [.ref (ad 7 q), .int x, .int 0]) (st' := [.int x, .ref (ad 7 q)]) (M' := mm M (up2 f (ad 7 q) 6 0) g) (ps := []) rfl trivial ?_
          refine go_callV rfl rfl rfl (by omega) rfl (by decide) (by decide) ho ?_
          show Go (d - 1) 93 0 0 0 [.ref (ad 7 q), .int x] [] (mm M (up2 f (ad 7 q) 6 0) g) _
          refine go_blk 2 [some (.int (nI dp))] (pc' := 4) (vs' := [.ref (ad 7 q), .int x]) (st' := [.int (nI dp)]) (M' := mm M (up2 f (ad 7 q) 6 0) g) (ps := [ob (mm M (up2 f (ad 7 q) 6 0) g) (ad 7 q) 9, (Value.int ((up2 f (ad 7 q) 6 0) (ad 7 q) 5)) = .int (nI dp)]) rfl ⟨ho, congrArg Value.int (((up2_n _ _ (fun z => absurd z.2 (by decide))).trans (rfl)).trans hs5), trivial⟩ ?_
          refine go_if rfl (fun (c12 : (nI dp) ≤ 0) => ?_) (fun (c12 : ¬ ((nI dp) ≤ 0)) => ?_)
          · -- (nI dp) ≤ 0
            have nc12 : dp ≤ 0 := (nI_les (a := dp) (b := 0) (by omega) (by omega)).mp c12
            refine go_blk 4 [] (pc' := 31) (vs' := [.ref (ad 7 q), .int x]) (st' := [.int x]) (M' := mm M (up2 (up2 f (ad 7 q) 6 0) (ad 7 q) 7 1) g) (ps := [ob (mm M (up2 f (ad 7 q) 6 0) g) (ad 7 q) 9, 1 = 0 ∨ 1 = 1]) rfl ⟨ho, (Or.inr rfl), trivial⟩ ?_
            refine go_callS rfl (by decide) rfl rfl (by omega) rfl (by decide) (by decide) ?_
            refine s_Tx_isPlusOrMinus (by omega) (fun c13 => ⟨ne_i, ?_⟩) (fun c13 => ⟨ne_i, ?_⟩)
            · -- 1
              show Go (d - 1) 93 0 0 34 [.ref (ad 7 q), .int x] [.int 1] (mm M (up2 (up2 f (ad 7 q) 6 0) (ad 7 q) 7 1) g) _
              refine go_if rfl (fun _ => ?_) (fun (z : ¬ (¬ (1 : Int32) = 0)) => absurd (show ¬ (1 : Int32) = 0 from (by decide)) z)
              refine go_blk 1 [] (pc' := 45) (vs' := [.ref (ad 7 q), .int x]) (st' := [.int 1]) (M' := mm M (up2 (up2 f (ad 7 q) 6 0) (ad 7 q) 7 1) g) (ps := []) rfl trivial ?_
              refine go_zret rfl rfl (Or.inr rfl) ?_
              refine ⟨ne_i, ?_⟩
              show Go d 91 0 0 89 [.ref (ad 7 q), .int x, .int 0] [.int 1] (mm M (up2 (up2 f (ad 7 q) 6 0) (ad 7 q) 7 1) g) R
              refine go_zret rfl rfl (Or.inr rfl) ?_
              refine h1 (p, dp, 0, true) _ ?_ ⟨(((up2_n _ _ (fun z => absurd z.2 (by decide))).trans ((up2_n _ _ (fun z => absurd z.2 (by decide))).trans (rfl))).trans hs4), (((up2_n _ _ (fun z => absurd z.2 (by decide))).trans ((up2_n _ _ (fun z => absurd z.2 (by decide))).trans (rfl))).trans hs5), ((up2_n _ _ (fun z => absurd z.2 (by decide))).trans (up2_s _ _ _ _)), (up2_s _ _ _ _)⟩ (fun b k hn => by rw [up2_n _ _ (fun z => hn ⟨z.1, by omega, by omega⟩), up2_n _ _ (fun z => hn ⟨z.1, by omega, by omega⟩)])
              clear h1 h0 hs4 hs5 hs6 hs7
              simp only [tStep]
              grind
            · -- 0
              show Go (d - 1) 93 0 0 34 [.ref (ad 7 q), .int x] [.int 0] (mm M (up2 (up2 f (ad 7 q) 6 0) (ad 7 q) 7 1) g) _
              refine go_if rfl (fun (z : ¬ (0 : Int32) = 0) => absurd z (show ¬ (¬ (0 : Int32) = 0) from (by decide))) (fun _ => ?_)
              refine go_blk 1 [] (pc' := 38) (vs' := [.ref (ad 7 q), .int x]) (st' := [.int x]) (M' := mm M (up2 (up2 f (ad 7 q) 6 0) (ad 7 q) 7 1) g) (ps := []) rfl trivial ?_
              refine go_callS rfl (by decide) rfl rfl (by omega) rfl (by decide) (by decide) ?_
              refine s_Tx_isTimesOrBy (by omega) (fun c14 => ⟨ne_i, ?_⟩) (fun c14 => ⟨ne_i, ?_⟩)
              · -- 1
                show Go (d - 1) 93 0 0 41 [.ref (ad 7 q), .int x] [.int 1] (mm M (up2 (up2 f (ad 7 q) 6 0) (ad 7 q) 7 1) g) _
                refine go_if rfl (fun (z : (1 : Int32) = 0) => absurd z (show ¬ ((1 : Int32) = 0) from (by decide))) (fun _ => ?_)
                refine go_blk 1 [] (pc' := 45) (vs' := [.ref (ad 7 q), .int x]) (st' := [.int 1]) (M' := mm M (up2 (up2 f (ad 7 q) 6 0) (ad 7 q) 7 1) g) (ps := []) rfl trivial ?_
                refine go_zret rfl rfl (Or.inr rfl) ?_
                refine ⟨ne_i, ?_⟩
                show Go d 91 0 0 89 [.ref (ad 7 q), .int x, .int 0] [.int 1] (mm M (up2 (up2 f (ad 7 q) 6 0) (ad 7 q) 7 1) g) R
                refine go_zret rfl rfl (Or.inr rfl) ?_
                refine h1 (p, dp, 0, true) _ ?_ ⟨(((up2_n _ _ (fun z => absurd z.2 (by decide))).trans ((up2_n _ _ (fun z => absurd z.2 (by decide))).trans (rfl))).trans hs4), (((up2_n _ _ (fun z => absurd z.2 (by decide))).trans ((up2_n _ _ (fun z => absurd z.2 (by decide))).trans (rfl))).trans hs5), ((up2_n _ _ (fun z => absurd z.2 (by decide))).trans (up2_s _ _ _ _)), (up2_s _ _ _ _)⟩ (fun b k hn => by rw [up2_n _ _ (fun z => hn ⟨z.1, by omega, by omega⟩), up2_n _ _ (fun z => hn ⟨z.1, by omega, by omega⟩)])
                clear h1 h0 hs4 hs5 hs6 hs7
                simp only [tStep]
                grind
              · -- 0
                show Go (d - 1) 93 0 0 41 [.ref (ad 7 q), .int x] [.int 0] (mm M (up2 (up2 f (ad 7 q) 6 0) (ad 7 q) 7 1) g) _
                refine go_if rfl (fun _ => ?_) (fun (z : ¬ ((0 : Int32) = 0)) => absurd (show (0 : Int32) = 0 from (by decide)) z)
                refine go_blk 3 [some (.int (nI dp))] (pc' := 51) (vs' := [.ref (ad 7 q), .int x]) (st' := [.int (nI dp), .ref (ad 7 q)]) (M' := mm M (up2 (up2 f (ad 7 q) 6 0) (ad 7 q) 7 1) g) (ps := [ob (mm M (up2 (up2 f (ad 7 q) 6 0) (ad 7 q) 7 1) g) (ad 7 q) 9, (Value.int ((up2 (up2 f (ad 7 q) 6 0) (ad 7 q) 7 1) (ad 7 q) 5)) = .int (nI dp)]) rfl ⟨ho, congrArg Value.int (((up2_n _ _ (fun z => absurd z.2 (by decide))).trans ((up2_n _ _ (fun z => absurd z.2 (by decide))).trans (rfl))).trans hs5), trivial⟩ ?_
                refine go_if rfl (fun _ => ?_) (fun (z : ¬ ((nI dp) ≤ 0)) => absurd (show (nI dp) ≤ 0 from c12) z)
                refine go_blk 3 [some (.int (nI p))] (pc' := 63) (vs' := [.ref (ad 7 q), .int x]) (st' := [.int x, .int (nI p), .ref (ad 7 q)]) (M' := mm M (up2 (up2 f (ad 7 q) 6 0) (ad 7 q) 7 1) g) (ps := [ob (mm M (up2 (up2 f (ad 7 q) 6 0) (ad 7 q) 7 1) g) (ad 7 q) 9, (Value.int ((up2 (up2 f (ad 7 q) 6 0) (ad 7 q) 7 1) (ad 7 q) 4)) = .int (nI p)]) rfl ⟨ho, congrArg Value.int (((up2_n _ _ (fun z => absurd z.2 (by decide))).trans ((up2_n _ _ (fun z => absurd z.2 (by decide))).trans (rfl))).trans hs4), trivial⟩ ?_
                refine go_callS rfl (by decide) rfl rfl (by omega) rfl (by decide) (by decide) ?_
                refine s_Tx_partBehind (by omega) k1 ⟨ne_i, ?_⟩
                show Go (d - 1) 93 0 0 66 [.ref (ad 7 q), .int x] [.int (pBI p x), .ref (ad 7 q)] (mm M (up2 (up2 f (ad 7 q) 6 0) (ad 7 q) 7 1) g) _
                refine go_blk 4 [some (.int (pBI p x))] (pc' := 74) (vs' := [.ref (ad 7 q), .int x]) (st' := [.int (-1), .int (pBI p x)]) (M' := mm M (up2 (up2 (up2 f (ad 7 q) 6 0) (ad 7 q) 7 1) (ad 7 q) 4 (pBI p x)) g) (ps := [ob (mm M (up2 (up2 f (ad 7 q) 6 0) (ad 7 q) 7 1) g) (ad 7 q) 9, ob (mm M (up2 (up2 (up2 f (ad 7 q) 6 0) (ad 7 q) 7 1) (ad 7 q) 4 (pBI p x)) g) (ad 7 q) 9, (Value.int ((up2 (up2 (up2 f (ad 7 q) 6 0) (ad 7 q) 7 1) (ad 7 q) 4 (pBI p x)) (ad 7 q) 4)) = .int (pBI p x)]) rfl ⟨ho, ho, congrArg Value.int (up2_s _ _ _ _), trivial⟩ ?_
                refine go_icmp rfl (fun (c15 : (pBI p x) = (-1)) => ?_) (fun (c15 : ¬ ((pBI p x) = (-1))) => ?_)
                · -- (pBI p x) = (-1)
                  refine go_blk 1 [] (pc' := 82) (vs' := [.ref (ad 7 q), .int x]) (st' := [.int 0]) (M' := mm M (up2 (up2 (up2 f (ad 7 q) 6 0) (ad 7 q) 7 1) (ad 7 q) 4 (pBI p x)) g) (ps := []) rfl trivial ?_
                  refine go_zret rfl rfl (Or.inl rfl) ?_
                  refine ⟨ne_i, ?_⟩
                  show Go d 91 0 0 89 [.ref (ad 7 q), .int x, .int 0] [.int 0] (mm M (up2 (up2 (up2 f (ad 7 q) 6 0) (ad 7 q) 7 1) (ad 7 q) 4 (pBI p x)) g) R
                  refine go_zret rfl rfl (Or.inl rfl) ?_
                  have hpb := pBI_m1 c15
                  refine h0 _ ?_ (fun b k hn => by rw [up2_n _ _ (fun z => hn ⟨z.1, by omega, by omega⟩), up2_n _ _ (fun z => hn ⟨z.1, by omega, by omega⟩), up2_n _ _ (fun z => hn ⟨z.1, by omega, by omega⟩)])
                  clear h1 h0 hs4 hs5 hs6 hs7
                  simp only [tStep]
                  grind
                · -- ¬ ((pBI p x) = (-1))
                  refine go_blk 2 [] (pc' := 82) (vs' := [.ref (ad 7 q), .int x]) (st' := [.int 1]) (M' := mm M (up2 (up2 (up2 f (ad 7 q) 6 0) (ad 7 q) 7 1) (ad 7 q) 4 (pBI p x)) g) (ps := []) rfl trivial ?_
                  refine go_zret rfl rfl (Or.inr rfl) ?_
                  refine ⟨ne_i, ?_⟩
                  show Go d 91 0 0 89 [.ref (ad 7 q), .int x, .int 0] [.int 1] (mm M (up2 (up2 (up2 f (ad 7 q) 6 0) (ad 7 q) 7 1) (ad 7 q) 4 (pBI p x)) g) R
                  refine go_zret rfl rfl (Or.inr rfl) ?_
                  obtain ⟨kk, hpb, hpc⟩ := pBI_k c15
                  refine h1 (kk, dp, 0, true) _ ?_ ⟨((up2_s _ _ _ _).trans hpc), (((up2_n _ _ (fun z => absurd z.2 (by decide))).trans ((up2_n _ _ (fun z => absurd z.2 (by decide))).trans ((up2_n _ _ (fun z => absurd z.2 (by decide))).trans (rfl)))).trans hs5), ((up2_n _ _ (fun z => absurd z.2 (by decide))).trans ((up2_n _ _ (fun z => absurd z.2 (by decide))).trans (up2_s _ _ _ _))), ((up2_n _ _ (fun z => absurd z.2 (by decide))).trans (up2_s _ _ _ _))⟩ (fun b k hn => by rw [up2_n _ _ (fun z => hn ⟨z.1, by omega, by omega⟩), up2_n _ _ (fun z => hn ⟨z.1, by omega, by omega⟩), up2_n _ _ (fun z => hn ⟨z.1, by omega, by omega⟩)])
                  clear h1 h0 hs4 hs5 hs6 hs7
                  simp only [tStep]
                  grind
          · -- ¬ ((nI dp) ≤ 0)
            have nc12 : 0 < dp := (nI_lts (a := 0) (b := dp) (by omega) (by omega)).mp (Int32.not_le.mp c12)
            refine go_blk 2 [] (pc' := 10) (vs' := [.ref (ad 7 q), .int x]) (st' := [.int 41, .int x]) (M' := mm M (up2 f (ad 7 q) 6 0) g) (ps := []) rfl trivial ?_
            refine go_icmp rfl (fun (c16 : ¬ x = 41) => ?_) (fun (c16 : ¬ (¬ x = 41)) => ?_)
            · -- ¬ x = 41
              refine go_blk 4 [] (pc' := 31) (vs' := [.ref (ad 7 q), .int x]) (st' := [.int x]) (M' := mm M (up2 (up2 f (ad 7 q) 6 0) (ad 7 q) 7 1) g) (ps := [ob (mm M (up2 f (ad 7 q) 6 0) g) (ad 7 q) 9, 1 = 0 ∨ 1 = 1]) rfl ⟨ho, (Or.inr rfl), trivial⟩ ?_
              refine go_callS rfl (by decide) rfl rfl (by omega) rfl (by decide) (by decide) ?_
              refine s_Tx_isPlusOrMinus (by omega) (fun c17 => ⟨ne_i, ?_⟩) (fun c17 => ⟨ne_i, ?_⟩)
              · -- 1
                show Go (d - 1) 93 0 0 34 [.ref (ad 7 q), .int x] [.int 1] (mm M (up2 (up2 f (ad 7 q) 6 0) (ad 7 q) 7 1) g) _
                refine go_if rfl (fun _ => ?_) (fun (z : ¬ (¬ (1 : Int32) = 0)) => absurd (show ¬ (1 : Int32) = 0 from (by decide)) z)
                refine go_blk 1 [] (pc' := 45) (vs' := [.ref (ad 7 q), .int x]) (st' := [.int 1]) (M' := mm M (up2 (up2 f (ad 7 q) 6 0) (ad 7 q) 7 1) g) (ps := []) rfl trivial ?_
                refine go_zret rfl rfl (Or.inr rfl) ?_
                refine ⟨ne_i, ?_⟩
                show Go d 91 0 0 89 [.ref (ad 7 q), .int x, .int 0] [.int 1] (mm M (up2 (up2 f (ad 7 q) 6 0) (ad 7 q) 7 1) g) R
                refine go_zret rfl rfl (Or.inr rfl) ?_
                refine h1 (p, dp, 0, true) _ ?_ ⟨(((up2_n _ _ (fun z => absurd z.2 (by decide))).trans ((up2_n _ _ (fun z => absurd z.2 (by decide))).trans (rfl))).trans hs4), (((up2_n _ _ (fun z => absurd z.2 (by decide))).trans ((up2_n _ _ (fun z => absurd z.2 (by decide))).trans (rfl))).trans hs5), ((up2_n _ _ (fun z => absurd z.2 (by decide))).trans (up2_s _ _ _ _)), (up2_s _ _ _ _)⟩ (fun b k hn => by rw [up2_n _ _ (fun z => hn ⟨z.1, by omega, by omega⟩), up2_n _ _ (fun z => hn ⟨z.1, by omega, by omega⟩)])
                clear h1 h0 hs4 hs5 hs6 hs7
                simp only [tStep]
                grind
              · -- 0
                show Go (d - 1) 93 0 0 34 [.ref (ad 7 q), .int x] [.int 0] (mm M (up2 (up2 f (ad 7 q) 6 0) (ad 7 q) 7 1) g) _
                refine go_if rfl (fun (z : ¬ (0 : Int32) = 0) => absurd z (show ¬ (¬ (0 : Int32) = 0) from (by decide))) (fun _ => ?_)
                refine go_blk 1 [] (pc' := 38) (vs' := [.ref (ad 7 q), .int x]) (st' := [.int x]) (M' := mm M (up2 (up2 f (ad 7 q) 6 0) (ad 7 q) 7 1) g) (ps := []) rfl trivial ?_
                refine go_callS rfl (by decide) rfl rfl (by omega) rfl (by decide) (by decide) ?_
                refine s_Tx_isTimesOrBy (by omega) (fun c18 => ⟨ne_i, ?_⟩) (fun c18 => ⟨ne_i, ?_⟩)
                · -- 1
                  show Go (d - 1) 93 0 0 41 [.ref (ad 7 q), .int x] [.int 1] (mm M (up2 (up2 f (ad 7 q) 6 0) (ad 7 q) 7 1) g) _
                  refine go_if rfl (fun (z : (1 : Int32) = 0) => absurd z (show ¬ ((1 : Int32) = 0) from (by decide))) (fun _ => ?_)
                  refine go_blk 1 [] (pc' := 45) (vs' := [.ref (ad 7 q), .int x]) (st' := [.int 1]) (M' := mm M (up2 (up2 f (ad 7 q) 6 0) (ad 7 q) 7 1) g) (ps := []) rfl trivial ?_
                  refine go_zret rfl rfl (Or.inr rfl) ?_
                  refine ⟨ne_i, ?_⟩
                  show Go d 91 0 0 89 [.ref (ad 7 q), .int x, .int 0] [.int 1] (mm M (up2 (up2 f (ad 7 q) 6 0) (ad 7 q) 7 1) g) R
                  refine go_zret rfl rfl (Or.inr rfl) ?_
                  refine h1 (p, dp, 0, true) _ ?_ ⟨(((up2_n _ _ (fun z => absurd z.2 (by decide))).trans ((up2_n _ _ (fun z => absurd z.2 (by decide))).trans (rfl))).trans hs4), (((up2_n _ _ (fun z => absurd z.2 (by decide))).trans ((up2_n _ _ (fun z => absurd z.2 (by decide))).trans (rfl))).trans hs5), ((up2_n _ _ (fun z => absurd z.2 (by decide))).trans (up2_s _ _ _ _)), (up2_s _ _ _ _)⟩ (fun b k hn => by rw [up2_n _ _ (fun z => hn ⟨z.1, by omega, by omega⟩), up2_n _ _ (fun z => hn ⟨z.1, by omega, by omega⟩)])
                  clear h1 h0 hs4 hs5 hs6 hs7
                  simp only [tStep]
                  grind
                · -- 0
                  show Go (d - 1) 93 0 0 41 [.ref (ad 7 q), .int x] [.int 0] (mm M (up2 (up2 f (ad 7 q) 6 0) (ad 7 q) 7 1) g) _
                  refine go_if rfl (fun _ => ?_) (fun (z : ¬ ((0 : Int32) = 0)) => absurd (show (0 : Int32) = 0 from (by decide)) z)
                  refine go_blk 3 [some (.int (nI dp))] (pc' := 51) (vs' := [.ref (ad 7 q), .int x]) (st' := [.int (nI dp), .ref (ad 7 q)]) (M' := mm M (up2 (up2 f (ad 7 q) 6 0) (ad 7 q) 7 1) g) (ps := [ob (mm M (up2 (up2 f (ad 7 q) 6 0) (ad 7 q) 7 1) g) (ad 7 q) 9, (Value.int ((up2 (up2 f (ad 7 q) 6 0) (ad 7 q) 7 1) (ad 7 q) 5)) = .int (nI dp)]) rfl ⟨ho, congrArg Value.int (((up2_n _ _ (fun z => absurd z.2 (by decide))).trans ((up2_n _ _ (fun z => absurd z.2 (by decide))).trans (rfl))).trans hs5), trivial⟩ ?_
                  refine go_if rfl (fun (z : (nI dp) ≤ 0) => absurd z (show ¬ ((nI dp) ≤ 0) from c12)) (fun _ => ?_)
                  refine go_blk 6 [some (.int (-1))] (pc' := 74) (vs' := [.ref (ad 7 q), .int x]) (st' := [.int (-1), .int (-1)]) (M' := mm M (up2 (up2 (up2 f (ad 7 q) 6 0) (ad 7 q) 7 1) (ad 7 q) 4 (-1)) g) (ps := [ob (mm M (up2 (up2 f (ad 7 q) 6 0) (ad 7 q) 7 1) g) (ad 7 q) 9, ob (mm M (up2 (up2 (up2 f (ad 7 q) 6 0) (ad 7 q) 7 1) (ad 7 q) 4 (-1)) g) (ad 7 q) 9, (Value.int ((up2 (up2 (up2 f (ad 7 q) 6 0) (ad 7 q) 7 1) (ad 7 q) 4 (-1)) (ad 7 q) 4)) = .int (-1)]) rfl ⟨ho, ho, congrArg Value.int (up2_s _ _ _ _), trivial⟩ ?_
                  refine go_icmp rfl (fun _ => ?_) (fun (z : ¬ (((-1) : Int32) = (-1))) => absurd (show ((-1) : Int32) = (-1) from (by decide)) z)
                  refine go_blk 1 [] (pc' := 82) (vs' := [.ref (ad 7 q), .int x]) (st' := [.int 0]) (M' := mm M (up2 (up2 (up2 f (ad 7 q) 6 0) (ad 7 q) 7 1) (ad 7 q) 4 (-1)) g) (ps := []) rfl trivial ?_
                  refine go_zret rfl rfl (Or.inl rfl) ?_
                  refine ⟨ne_i, ?_⟩
                  show Go d 91 0 0 89 [.ref (ad 7 q), .int x, .int 0] [.int 0] (mm M (up2 (up2 (up2 f (ad 7 q) 6 0) (ad 7 q) 7 1) (ad 7 q) 4 (-1)) g) R
                  refine go_zret rfl rfl (Or.inl rfl) ?_
                  refine h0 _ ?_ (fun b k hn => by rw [up2_n _ _ (fun z => hn ⟨z.1, by omega, by omega⟩), up2_n _ _ (fun z => hn ⟨z.1, by omega, by omega⟩), up2_n _ _ (fun z => hn ⟨z.1, by omega, by omega⟩)])
                  clear h1 h0 hs4 hs5 hs6 hs7
                  simp only [tStep]
                  grind
            · -- ¬ (¬ x = 41)
              refine go_blk 7 [some (.int (nI dp))] (pc' := 24) (vs' := [.ref (ad 7 q), .int x]) (st' := [.int 1]) (M' := mm M (up2 (up2 f (ad 7 q) 6 0) (ad 7 q) 5 ((nI dp) - 1)) g) (ps := [(.ref (ad 7 q) : Value).category = 1, ob (mm M (up2 f (ad 7 q) 6 0) g) (ad 7 q) 9, (Value.int ((up2 f (ad 7 q) 6 0) (ad 7 q) 5)) = .int (nI dp), ob (mm M (up2 f (ad 7 q) 6 0) g) (ad 7 q) 9]) rfl ⟨rfl, ho, congrArg Value.int (((up2_n _ _ (fun z => absurd z.2 (by decide))).trans (rfl)).trans hs5), ho, trivial⟩ ?_
              refine go_zret rfl rfl (Or.inr rfl) ?_
              refine ⟨ne_i, ?_⟩
              show Go d 91 0 0 89 [.ref (ad 7 q), .int x, .int 0] [.int 1] (mm M (up2 (up2 f (ad 7 q) 6 0) (ad 7 q) 5 ((nI dp) - 1)) g) R
              refine go_zret rfl rfl (Or.inr rfl) ?_
              refine h1 (p, dp - 1, 0, false) _ ?_ ⟨(((up2_n _ _ (fun z => absurd z.2 (by decide))).trans ((up2_n _ _ (fun z => absurd z.2 (by decide))).trans (rfl))).trans hs4), ((up2_s _ _ _ _).trans (pk_sub (a := dp) (b := 1) (by omega))), ((up2_n _ _ (fun z => absurd z.2 (by decide))).trans (up2_s _ _ _ _)), (((up2_n _ _ (fun z => absurd z.2 (by decide))).trans ((up2_n _ _ (fun z => absurd z.2 (by decide))).trans (rfl))).trans hs7)⟩ (fun b k hn => by rw [up2_n _ _ (fun z => hn ⟨z.1, by omega, by omega⟩), up2_n _ _ (fun z => hn ⟨z.1, by omega, by omega⟩)])
              clear h1 h0 hs4 hs5 hs6 hs7
              simp only [tStep]
              grind
        · -- ¬ (¬ x = 32)
          refine go_blk 1 [] (pc' := 68) (vs' := [.ref (ad 7 q), .int x, .int 0]) (st' := [.int 1]) (M' := mm M (up2 f (ad 7 q) 6 0) g) (ps := []) rfl trivial ?_
          refine go_zret rfl rfl (Or.inr rfl) ?_
          refine h1 (p, dp, 0, false) _ ?_ ⟨(((up2_n _ _ (fun z => absurd z.2 (by decide))).trans (rfl)).trans hs4), (((up2_n _ _ (fun z => absurd z.2 (by decide))).trans (rfl)).trans hs5), (up2_s _ _ _ _), (((up2_n _ _ (fun z => absurd z.2 (by decide))).trans (rfl)).trans hs7)⟩ (fun b k hn => by rw [up2_n _ _ (fun z => hn ⟨z.1, by omega, by omega⟩)])
          clear h1 h0 hs4 hs5 hs6 hs7
          simp only [tStep]
          grind
    · -- ¬ ((nI dg) ≤ 0)
      have nc1 : 0 < dg := (nI_lts (a := 0) (b := dg) (by omega) (by omega)).mp (Int32.not_le.mp c1)
      refine go_blk 3 [some (.int (nI dg))] (pc' := 12) (vs' := [.ref (ad 7 q), .int x, .retAddr 0]) (st' := [.int 4, .int (nI dg)]) (M' := mm M f g) (ps := [ob (mm M f g) (ad 7 q) 9, (Value.int (f (ad 7 q) 6)) = .int (nI dg)]) rfl ⟨ho, congrArg Value.int hs6, trivial⟩ ?_
      refine go_icmp rfl (fun (c19 : 4 ≤ (nI dg)) => ?_) (fun (c19 : ¬ (4 ≤ (nI dg))) => ?_)
      · -- 4 ≤ (nI dg)
        have nc19 : 4 ≤ dg := (nI_les (a := 4) (b := dg) (by omega) (by omega)).mp c19
        refine go_blk 3 [] (pc' := 22) (vs' := [.ref (ad 7 q), .int x, .int 0]) (st' := [.int x]) (M' := mm M f g) (ps := []) rfl trivial ?_
        refine go_callS rfl (by decide) rfl rfl (by omega) rfl (by decide) (by decide) ?_
        refine s_Tx_isDigit (by omega) (fun c20 => ⟨ne_i, ?_⟩) (fun c20 => ⟨ne_i, ?_⟩)
        · -- 1
          show Go d 91 0 0 25 [.ref (ad 7 q), .int x, .int 0] [.int 1] (mm M f g) R
          refine go_if rfl (fun (z : (1 : Int32) = 0) => absurd z (show ¬ ((1 : Int32) = 0) from (by decide))) (fun _ => ?_)
          refine go_blk 2 [some (.int 0)] (pc' := 32) (vs' := [.ref (ad 7 q), .int x, .int 0]) (st' := [.int 0]) (M' := mm M f g) (ps := [ob (mm M f g) (ad 7 q) 9, (Value.int (f (ad 7 q) 7)) = .int 0]) rfl ⟨ho, congrArg Value.int hs7, trivial⟩ ?_
          refine go_if rfl (fun (z : ¬ (0 : Int32) = 0) => absurd z (show ¬ (¬ (0 : Int32) = 0) from (by decide))) (fun _ => ?_)
          refine go_blk 1 [] (pc' := 36) (vs' := [.ref (ad 7 q), .int x, .int 0]) (st' := [.int 0]) (M' := mm M f g) (ps := []) rfl trivial ?_
          refine go_if rfl (fun _ => ?_) (fun (z : ¬ ((0 : Int32) = 0)) => absurd (show (0 : Int32) = 0 from (by decide)) z)
          refine go_blk 5 [] (pc' := 64) (vs' := [.ref (ad 7 q), .int x, .int 0]) (st' := [.int 32, .int x]) (M' := mm M (up2 f (ad 7 q) 6 0) g) (ps := [ob (mm M f g) (ad 7 q) 9]) rfl ⟨ho, trivial⟩ ?_
          refine go_icmp rfl (fun (c21 : ¬ x = 32) => ?_) (fun (c21 : ¬ (¬ x = 32)) => ?_)
          · -- ¬ x = 32
            refine go_blk 2 [some (.int 0)] (pc' := 73) (vs' := [.ref (ad 7 q), .int x, .int 0]) (st' := [.int 0]) (M' := mm M (up2 f (ad 7 q) 6 0) g) (ps := [ob (mm M (up2 f (ad 7 q) 6 0) g) (ad 7 q) 9, (Value.int ((up2 f (ad 7 q) 6 0) (ad 7 q) 7)) = .int 0]) rfl ⟨ho, congrArg Value.int (((up2_n _ _ (fun z => absurd z.2 (by decide))).trans (rfl)).trans hs7), trivial⟩ ?_
            refine go_if rfl (fun _ => ?_) (fun (z : ¬ ((0 : Int32) = 0)) => absurd (show (0 : Int32) = 0 from (by decide)) z)
            refine go_blk 2 [] (pc' := 86) (vs' := [.ref (ad 7 q), .int x, .int 0]) (st' := [.int x, .ref (ad 7 q)]) (M' := mm M (up2 f (ad 7 q) 6 0) g) (ps := []) rfl trivial ?_
            refine go_callV rfl rfl rfl (by omega) rfl (by decide) (by decide) ho ?_
            show Go (d - 1) 93 0 0 0 [.ref (ad 7 q), .int x] [] (mm M (up2 f (ad 7 q) 6 0) g) _
            refine go_blk 2 [some (.int (nI dp))] (pc' := 4) (vs' := [.ref (ad 7 q), .int x]) (st' := [.int (nI dp)]) (M' := mm M (up2 f (ad 7 q) 6 0) g) (ps := [ob (mm M (up2 f (ad 7 q) 6 0) g) (ad 7 q) 9, (Value.int ((up2 f (ad 7 q) 6 0) (ad 7 q) 5)) = .int (nI dp)]) rfl ⟨ho, congrArg Value.int (((up2_n _ _ (fun z => absurd z.2 (by decide))).trans (rfl)).trans hs5), trivial⟩ ?_
            refine go_if rfl (fun (c22 : (nI dp) ≤ 0) => ?_) (fun (c22 : ¬ ((nI dp) ≤ 0)) => ?_)
            · -- (nI dp) ≤ 0
              have nc22 : dp ≤ 0 := (nI_les (a := dp) (b := 0) (by omega) (by omega)).mp c22
              refine go_blk 4 [] (pc' := 31) (vs' := [.ref (ad 7 q), .int x]) (st' := [.int x]) (M' := mm M (up2 (up2 f (ad 7 q) 6 0) (ad 7 q) 7 1) g) (ps := [ob (mm M (up2 f (ad 7 q) 6 0) g) (ad 7 q) 9, 1 = 0 ∨ 1 = 1]) rfl ⟨ho, (Or.inr rfl), trivial⟩ ?_
              refine go_callS rfl (by decide) rfl rfl (by omega) rfl (by decide) (by decide) ?_
              refine s_Tx_isPlusOrMinus (by omega) (fun c23 => ⟨ne_i, ?_⟩) (fun c23 => ⟨ne_i, ?_⟩)
              · -- 1
                show Go (d - 1) 93 0 0 34 [.ref (ad 7 q), .int x] [.int 1] (mm M (up2 (up2 f (ad 7 q) 6 0) (ad 7 q) 7 1) g) _
                refine go_if rfl (fun _ => ?_) (fun (z : ¬ (¬ (1 : Int32) = 0)) => absurd (show ¬ (1 : Int32) = 0 from (by decide)) z)
                refine go_blk 1 [] (pc' := 45) (vs' := [.ref (ad 7 q), .int x]) (st' := [.int 1]) (M' := mm M (up2 (up2 f (ad 7 q) 6 0) (ad 7 q) 7 1) g) (ps := []) rfl trivial ?_
                refine go_zret rfl rfl (Or.inr rfl) ?_
                refine ⟨ne_i, ?_⟩
                show Go d 91 0 0 89 [.ref (ad 7 q), .int x, .int 0] [.int 1] (mm M (up2 (up2 f (ad 7 q) 6 0) (ad 7 q) 7 1) g) R
                refine go_zret rfl rfl (Or.inr rfl) ?_
                refine h1 (p, dp, 0, true) _ ?_ ⟨(((up2_n _ _ (fun z => absurd z.2 (by decide))).trans ((up2_n _ _ (fun z => absurd z.2 (by decide))).trans (rfl))).trans hs4), (((up2_n _ _ (fun z => absurd z.2 (by decide))).trans ((up2_n _ _ (fun z => absurd z.2 (by decide))).trans (rfl))).trans hs5), ((up2_n _ _ (fun z => absurd z.2 (by decide))).trans (up2_s _ _ _ _)), (up2_s _ _ _ _)⟩ (fun b k hn => by rw [up2_n _ _ (fun z => hn ⟨z.1, by omega, by omega⟩), up2_n _ _ (fun z => hn ⟨z.1, by omega, by omega⟩)])
                clear h1 h0 hs4 hs5 hs6 hs7
                simp only [tStep]
                grind
              · -- 0
                show Go (d - 1) 93 0 0 34 [.ref (ad 7 q), .int x] [.int 0] (mm M (up2 (up2 f (ad 7 q) 6 0) (ad 7 q) 7 1) g) _
                refine go_if rfl (fun (z : ¬ (0 : Int32) = 0) => absurd z (show ¬ (¬ (0 : Int32) = 0) from (by decide))) (fun _ => ?_)
                refine go_blk 1 [] (pc' := 38) (vs' := [.ref (ad 7 q), .int x]) (st' := [.int x]) (M' := mm M (up2 (up2 f (ad 7 q) 6 0) (ad 7 q) 7 1) g) (ps := []) rfl trivial ?_
                refine go_callS rfl (by decide) rfl rfl (by omega) rfl (by decide) (by decide) ?_
                refine s_Tx_isTimesOrBy (by omega) (fun c24 => ⟨ne_i, ?_⟩) (fun c24 => ⟨ne_i, ?_⟩)
                · -- 1
                  show Go (d - 1) 93 0 0 41 [.ref (ad 7 q), .int x] [.int 1] (mm M (up2 (up2 f (ad 7 q) 6 0) (ad 7 q) 7 1) g) _
                  refine go_if rfl (fun (z : (1 : Int32) = 0) => absurd z (show ¬ ((1 : Int32) = 0) from (by decide))) (fun _ => ?_)
                  refine go_blk 1 [] (pc' := 45) (vs' := [.ref (ad 7 q), .int x]) (st' := [.int 1]) (M' := mm M (up2 (up2 f (ad 7 q) 6 0) (ad 7 q) 7 1) g) (ps := []) rfl trivial ?_
                  refine go_zret rfl rfl (Or.inr rfl) ?_
                  refine ⟨ne_i, ?_⟩
                  show Go d 91 0 0 89 [.ref (ad 7 q), .int x, .int 0] [.int 1] (mm M (up2 (up2 f (ad 7 q) 6 0) (ad 7 q) 7 1) g) R
                  refine go_zret rfl rfl (Or.inr rfl) ?_
                  refine h1 (p, dp, 0, true) _ ?_ ⟨(((up2_n _ _ (fun z => absurd z.2 (by decide))).trans ((up2_n _ _ (fun z => absurd z.2 (by decide))).trans (rfl))).trans hs4), (((up2_n _ _ (fun z => absurd z.2 (by decide))).trans ((up2_n _ _ (fun z => absurd z.2 (by decide))).trans (rfl))).trans hs5), ((up2_n _ _ (fun z => absurd z.2 (by decide))).trans (up2_s _ _ _ _)), (up2_s _ _ _ _)⟩ (fun b k hn => by rw [up2_n _ _ (fun z => hn ⟨z.1, by omega, by omega⟩), up2_n _ _ (fun z => hn ⟨z.1, by omega, by omega⟩)])
                  clear h1 h0 hs4 hs5 hs6 hs7
                  simp only [tStep]
                  grind
                · -- 0
                  show Go (d - 1) 93 0 0 41 [.ref (ad 7 q), .int x] [.int 0] (mm M (up2 (up2 f (ad 7 q) 6 0) (ad 7 q) 7 1) g) _
                  refine go_if rfl (fun _ => ?_) (fun (z : ¬ ((0 : Int32) = 0)) => absurd (show (0 : Int32) = 0 from (by decide)) z)
                  refine go_blk 3 [some (.int (nI dp))] (pc' := 51) (vs' := [.ref (ad 7 q), .int x]) (st' := [.int (nI dp), .ref (ad 7 q)]) (M' := mm M (up2 (up2 f (ad 7 q) 6 0) (ad 7 q) 7 1) g) (ps := [ob (mm M (up2 (up2 f (ad 7 q) 6 0) (ad 7 q) 7 1) g) (ad 7 q) 9, (Value.int ((up2 (up2 f (ad 7 q) 6 0) (ad 7 q) 7 1) (ad 7 q) 5)) = .int (nI dp)]) rfl ⟨ho, congrArg Value.int (((up2_n _ _ (fun z => absurd z.2 (by decide))).trans ((up2_n _ _ (fun z => absurd z.2 (by decide))).trans (rfl))).trans hs5), trivial⟩ ?_
                  refine go_if rfl (fun _ => ?_) (fun (z : ¬ ((nI dp) ≤ 0)) => absurd (show (nI dp) ≤ 0 from c22) z)
                  refine go_blk 3 [some (.int (nI p))] (pc' := 63) (vs' := [.ref (ad 7 q), .int x]) (st' := [.int x, .int (nI p), .ref (ad 7 q)]) (M' := mm M (up2 (up2 f (ad 7 q) 6 0) (ad 7 q) 7 1) g) (ps := [ob (mm M (up2 (up2 f (ad 7 q) 6 0) (ad 7 q) 7 1) g) (ad 7 q) 9, (Value.int ((up2 (up2 f (ad 7 q) 6 0) (ad 7 q) 7 1) (ad 7 q) 4)) = .int (nI p)]) rfl ⟨ho, congrArg Value.int (((up2_n _ _ (fun z => absurd z.2 (by decide))).trans ((up2_n _ _ (fun z => absurd z.2 (by decide))).trans (rfl))).trans hs4), trivial⟩ ?_
                  refine go_callS rfl (by decide) rfl rfl (by omega) rfl (by decide) (by decide) ?_
                  refine s_Tx_partBehind (by omega) k1 ⟨ne_i, ?_⟩
                  show Go (d - 1) 93 0 0 66 [.ref (ad 7 q), .int x] [.int (pBI p x), .ref (ad 7 q)] (mm M (up2 (up2 f (ad 7 q) 6 0) (ad 7 q) 7 1) g) _
                  refine go_blk 4 [some (.int (pBI p x))] (pc' := 74) (vs' := [.ref (ad 7 q), .int x]) (st' := [.int (-1), .int (pBI p x)]) (M' := mm M (up2 (up2 (up2 f (ad 7 q) 6 0) (ad 7 q) 7 1) (ad 7 q) 4 (pBI p x)) g) (ps := [ob (mm M (up2 (up2 f (ad 7 q) 6 0) (ad 7 q) 7 1) g) (ad 7 q) 9, ob (mm M (up2 (up2 (up2 f (ad 7 q) 6 0) (ad 7 q) 7 1) (ad 7 q) 4 (pBI p x)) g) (ad 7 q) 9, (Value.int ((up2 (up2 (up2 f (ad 7 q) 6 0) (ad 7 q) 7 1) (ad 7 q) 4 (pBI p x)) (ad 7 q) 4)) = .int (pBI p x)]) rfl ⟨ho, ho, congrArg Value.int (up2_s _ _ _ _), trivial⟩ ?_
                  refine go_icmp rfl (fun (c25 : (pBI p x) = (-1)) => ?_) (fun (c25 : ¬ ((pBI p x) = (-1))) => ?_)
                  · -- (pBI p x) = (-1)
                    refine go_blk 1 [] (pc' := 82) (vs' := [.ref (ad 7 q), .int x]) (st' := [.int 0]) (M' := mm M (up2 (up2 (up2 f (ad 7 q) 6 0) (ad 7 q) 7 1) (ad 7 q) 4 (pBI p x)) g) (ps := []) rfl trivial ?_
                    refine go_zret rfl rfl (Or.inl rfl) ?_
                    refine ⟨ne_i, ?_⟩
                    show Go d 91 0 0 89 [.ref (ad 7 q), .int x, .int 0] [.int 0] (mm M (up2 (up2 (up2 f (ad 7 q) 6 0) (ad 7 q) 7 1) (ad 7 q) 4 (pBI p x)) g) R
                    refine go_zret rfl rfl (Or.inl rfl) ?_
                    have hpb := pBI_m1 c25
                    refine h0 _ ?_ (fun b k hn => by rw [up2_n _ _ (fun z => hn ⟨z.1, by omega, by omega⟩), up2_n _ _ (fun z => hn ⟨z.1, by omega, by omega⟩), up2_n _ _ (fun z => hn ⟨z.1, by omega, by omega⟩)])
                    clear h1 h0 hs4 hs5 hs6 hs7
                    simp only [tStep]
                    grind
                  · -- ¬ ((pBI p x) = (-1))
                    refine go_blk 2 [] (pc' := 82) (vs' := [.ref (ad 7 q), .int x]) (st' := [.int 1]) (M' := mm M (up2 (up2 (up2 f (ad 7 q) 6 0) (ad 7 q) 7 1) (ad 7 q) 4 (pBI p x)) g) (ps := []) rfl trivial ?_
                    refine go_zret rfl rfl (Or.inr rfl) ?_
                    refine ⟨ne_i, ?_⟩
                    show Go d 91 0 0 89 [.ref (ad 7 q), .int x, .int 0] [.int 1] (mm M (up2 (up2 (up2 f (ad 7 q) 6 0) (ad 7 q) 7 1) (ad 7 q) 4 (pBI p x)) g) R
                    refine go_zret rfl rfl (Or.inr rfl) ?_
                    obtain ⟨kk, hpb, hpc⟩ := pBI_k c25
                    refine h1 (kk, dp, 0, true) _ ?_ ⟨((up2_s _ _ _ _).trans hpc), (((up2_n _ _ (fun z => absurd z.2 (by decide))).trans ((up2_n _ _ (fun z => absurd z.2 (by decide))).trans ((up2_n _ _ (fun z => absurd z.2 (by decide))).trans (rfl)))).trans hs5), ((up2_n _ _ (fun z => absurd z.2 (by decide))).trans ((up2_n _ _ (fun z => absurd z.2 (by decide))).trans (up2_s _ _ _ _))), ((up2_n _ _ (fun z => absurd z.2 (by decide))).trans (up2_s _ _ _ _))⟩ (fun b k hn => by rw [up2_n _ _ (fun z => hn ⟨z.1, by omega, by omega⟩), up2_n _ _ (fun z => hn ⟨z.1, by omega, by omega⟩), up2_n _ _ (fun z => hn ⟨z.1, by omega, by omega⟩)])
                    clear h1 h0 hs4 hs5 hs6 hs7
                    simp only [tStep]
                    grind
            · -- ¬ ((nI dp) ≤ 0)
              have nc22 : 0 < dp := (nI_lts (a := 0) (b := dp) (by omega) (by omega)).mp (Int32.not_le.mp c22)
              refine go_blk 2 [] (pc' := 10) (vs' := [.ref (ad 7 q), .int x]) (st' := [.int 41, .int x]) (M' := mm M (up2 f (ad 7 q) 6 0) g) (ps := []) rfl trivial ?_
              refine go_icmp rfl (fun (c26 : ¬ x = 41) => ?_) (fun (c26 : ¬ (¬ x = 41)) => ?_)
              · -- ¬ x = 41
                refine go_blk 4 [] (pc' := 31) (vs' := [.ref (ad 7 q), .int x]) (st' := [.int x]) (M' := mm M (up2 (up2 f (ad 7 q) 6 0) (ad 7 q) 7 1) g) (ps := [ob (mm M (up2 f (ad 7 q) 6 0) g) (ad 7 q) 9, 1 = 0 ∨ 1 = 1]) rfl ⟨ho, (Or.inr rfl), trivial⟩ ?_
                refine go_callS rfl (by decide) rfl rfl (by omega) rfl (by decide) (by decide) ?_
                refine s_Tx_isPlusOrMinus (by omega) (fun c27 => ⟨ne_i, ?_⟩) (fun c27 => ⟨ne_i, ?_⟩)
                · -- 1
                  show Go (d - 1) 93 0 0 34 [.ref (ad 7 q), .int x] [.int 1] (mm M (up2 (up2 f (ad 7 q) 6 0) (ad 7 q) 7 1) g) _
                  refine go_if rfl (fun _ => ?_) (fun (z : ¬ (¬ (1 : Int32) = 0)) => absurd (show ¬ (1 : Int32) = 0 from (by decide)) z)
                  refine go_blk 1 [] (pc' := 45) (vs' := [.ref (ad 7 q), .int x]) (st' := [.int 1]) (M' := mm M (up2 (up2 f (ad 7 q) 6 0) (ad 7 q) 7 1) g) (ps := []) rfl trivial ?_
                  refine go_zret rfl rfl (Or.inr rfl) ?_
                  refine ⟨ne_i, ?_⟩
                  show Go d 91 0 0 89 [.ref (ad 7 q), .int x, .int 0] [.int 1] (mm M (up2 (up2 f (ad 7 q) 6 0) (ad 7 q) 7 1) g) R
                  refine go_zret rfl rfl (Or.inr rfl) ?_
                  refine h1 (p, dp, 0, true) _ ?_ ⟨(((up2_n _ _ (fun z => absurd z.2 (by decide))).trans ((up2_n _ _ (fun z => absurd z.2 (by decide))).trans (rfl))).trans hs4), (((up2_n _ _ (fun z => absurd z.2 (by decide))).trans ((up2_n _ _ (fun z => absurd z.2 (by decide))).trans (rfl))).trans hs5), ((up2_n _ _ (fun z => absurd z.2 (by decide))).trans (up2_s _ _ _ _)), (up2_s _ _ _ _)⟩ (fun b k hn => by rw [up2_n _ _ (fun z => hn ⟨z.1, by omega, by omega⟩), up2_n _ _ (fun z => hn ⟨z.1, by omega, by omega⟩)])
                  clear h1 h0 hs4 hs5 hs6 hs7
                  simp only [tStep]
                  grind
                · -- 0
                  show Go (d - 1) 93 0 0 34 [.ref (ad 7 q), .int x] [.int 0] (mm M (up2 (up2 f (ad 7 q) 6 0) (ad 7 q) 7 1) g) _
                  refine go_if rfl (fun (z : ¬ (0 : Int32) = 0) => absurd z (show ¬ (¬ (0 : Int32) = 0) from (by decide))) (fun _ => ?_)
                  refine go_blk 1 [] (pc' := 38) (vs' := [.ref (ad 7 q), .int x]) (st' := [.int x]) (M' := mm M (up2 (up2 f (ad 7 q) 6 0) (ad 7 q) 7 1) g) (ps := []) rfl trivial ?_
                  refine go_callS rfl (by decide) rfl rfl (by omega) rfl (by decide) (by decide) ?_
                  refine s_Tx_isTimesOrBy (by omega) (fun c28 => ⟨ne_i, ?_⟩) (fun c28 => ⟨ne_i, ?_⟩)
                  · -- 1
                    show Go (d - 1) 93 0 0 41 [.ref (ad 7 q), .int x] [.int 1] (mm M (up2 (up2 f (ad 7 q) 6 0) (ad 7 q) 7 1) g) _
                    refine go_if rfl (fun (z : (1 : Int32) = 0) => absurd z (show ¬ ((1 : Int32) = 0) from (by decide))) (fun _ => ?_)
                    refine go_blk 1 [] (pc' := 45) (vs' := [.ref (ad 7 q), .int x]) (st' := [.int 1]) (M' := mm M (up2 (up2 f (ad 7 q) 6 0) (ad 7 q) 7 1) g) (ps := []) rfl trivial ?_
                    refine go_zret rfl rfl (Or.inr rfl) ?_
                    refine ⟨ne_i, ?_⟩
                    show Go d 91 0 0 89 [.ref (ad 7 q), .int x, .int 0] [.int 1] (mm M (up2 (up2 f (ad 7 q) 6 0) (ad 7 q) 7 1) g) R
                    refine go_zret rfl rfl (Or.inr rfl) ?_
                    refine h1 (p, dp, 0, true) _ ?_ ⟨(((up2_n _ _ (fun z => absurd z.2 (by decide))).trans ((up2_n _ _ (fun z => absurd z.2 (by decide))).trans (rfl))).trans hs4), (((up2_n _ _ (fun z => absurd z.2 (by decide))).trans ((up2_n _ _ (fun z => absurd z.2 (by decide))).trans (rfl))).trans hs5), ((up2_n _ _ (fun z => absurd z.2 (by decide))).trans (up2_s _ _ _ _)), (up2_s _ _ _ _)⟩ (fun b k hn => by rw [up2_n _ _ (fun z => hn ⟨z.1, by omega, by omega⟩), up2_n _ _ (fun z => hn ⟨z.1, by omega, by omega⟩)])
                    clear h1 h0 hs4 hs5 hs6 hs7
                    simp only [tStep]
                    grind
                  · -- 0
                    show Go (d - 1) 93 0 0 41 [.ref (ad 7 q), .int x] [.int 0] (mm M (up2 (up2 f (ad 7 q) 6 0) (ad 7 q) 7 1) g) _
                    refine go_if rfl (fun _ => ?_) (fun (z : ¬ ((0 : Int32) = 0)) => absurd (show (0 : Int32) = 0 from (by decide)) z)
                    refine go_blk 3 [some (.int (nI dp))] (pc' := 51) (vs' := [.ref (ad 7 q), .int x]) (st' := [.int (nI dp), .ref (ad 7 q)]) (M' := mm M (up2 (up2 f (ad 7 q) 6 0) (ad 7 q) 7 1) g) (ps := [ob (mm M (up2 (up2 f (ad 7 q) 6 0) (ad 7 q) 7 1) g) (ad 7 q) 9, (Value.int ((up2 (up2 f (ad 7 q) 6 0) (ad 7 q) 7 1) (ad 7 q) 5)) = .int (nI dp)]) rfl ⟨ho, congrArg Value.int (((up2_n _ _ (fun z => absurd z.2 (by decide))).trans ((up2_n _ _ (fun z => absurd z.2 (by decide))).trans (rfl))).trans hs5), trivial⟩ ?_
                    refine go_if rfl (fun (z : (nI dp) ≤ 0) => absurd z (show ¬ ((nI dp) ≤ 0) from c22)) (fun _ => ?_)
                    refine go_blk 6 [some (.int (-1))] (pc' := 74) (vs' := [.ref (ad 7 q), .int x]) (st' := [.int (-1), .int (-1)]) (M' := mm M (up2 (up2 (up2 f (ad 7 q) 6 0) (ad 7 q) 7 1) (ad 7 q) 4 (-1)) g) (ps := [ob (mm M (up2 (up2 f (ad 7 q) 6 0) (ad 7 q) 7 1) g) (ad 7 q) 9, ob (mm M (up2 (up2 (up2 f (ad 7 q) 6 0) (ad 7 q) 7 1) (ad 7 q) 4 (-1)) g) (ad 7 q) 9, (Value.int ((up2 (up2 (up2 f (ad 7 q) 6 0) (ad 7 q) 7 1) (ad 7 q) 4 (-1)) (ad 7 q) 4)) = .int (-1)]) rfl ⟨ho, ho, congrArg Value.int (up2_s _ _ _ _), trivial⟩ ?_
                    refine go_icmp rfl (fun _ => ?_) (fun (z : ¬ (((-1) : Int32) = (-1))) => absurd (show ((-1) : Int32) = (-1) from (by decide)) z)
                    refine go_blk 1 [] (pc' := 82) (vs' := [.ref (ad 7 q), .int x]) (st' := [.int 0]) (M' := mm M (up2 (up2 (up2 f (ad 7 q) 6 0) (ad 7 q) 7 1) (ad 7 q) 4 (-1)) g) (ps := []) rfl trivial ?_
                    refine go_zret rfl rfl (Or.inl rfl) ?_
                    refine ⟨ne_i, ?_⟩
                    show Go d 91 0 0 89 [.ref (ad 7 q), .int x, .int 0] [.int 0] (mm M (up2 (up2 (up2 f (ad 7 q) 6 0) (ad 7 q) 7 1) (ad 7 q) 4 (-1)) g) R
                    refine go_zret rfl rfl (Or.inl rfl) ?_
                    refine h0 _ ?_ (fun b k hn => by rw [up2_n _ _ (fun z => hn ⟨z.1, by omega, by omega⟩), up2_n _ _ (fun z => hn ⟨z.1, by omega, by omega⟩), up2_n _ _ (fun z => hn ⟨z.1, by omega, by omega⟩)])
                    clear h1 h0 hs4 hs5 hs6 hs7
                    simp only [tStep]
                    grind
              · -- ¬ (¬ x = 41)
                refine go_blk 7 [some (.int (nI dp))] (pc' := 24) (vs' := [.ref (ad 7 q), .int x]) (st' := [.int 1]) (M' := mm M (up2 (up2 f (ad 7 q) 6 0) (ad 7 q) 5 ((nI dp) - 1)) g) (ps := [(.ref (ad 7 q) : Value).category = 1, ob (mm M (up2 f (ad 7 q) 6 0) g) (ad 7 q) 9, (Value.int ((up2 f (ad 7 q) 6 0) (ad 7 q) 5)) = .int (nI dp), ob (mm M (up2 f (ad 7 q) 6 0) g) (ad 7 q) 9]) rfl ⟨rfl, ho, congrArg Value.int (((up2_n _ _ (fun z => absurd z.2 (by decide))).trans (rfl)).trans hs5), ho, trivial⟩ ?_
                refine go_zret rfl rfl (Or.inr rfl) ?_
                refine ⟨ne_i, ?_⟩
                show Go d 91 0 0 89 [.ref (ad 7 q), .int x, .int 0] [.int 1] (mm M (up2 (up2 f (ad 7 q) 6 0) (ad 7 q) 5 ((nI dp) - 1)) g) R
                refine go_zret rfl rfl (Or.inr rfl) ?_
                refine h1 (p, dp - 1, 0, false) _ ?_ ⟨(((up2_n _ _ (fun z => absurd z.2 (by decide))).trans ((up2_n _ _ (fun z => absurd z.2 (by decide))).trans (rfl))).trans hs4), ((up2_s _ _ _ _).trans (pk_sub (a := dp) (b := 1) (by omega))), ((up2_n _ _ (fun z => absurd z.2 (by decide))).trans (up2_s _ _ _ _)), (((up2_n _ _ (fun z => absurd z.2 (by decide))).trans ((up2_n _ _ (fun z => absurd z.2 (by decide))).trans (rfl))).trans hs7)⟩ (fun b k hn => by rw [up2_n _ _ (fun z => hn ⟨z.1, by omega, by omega⟩), up2_n _ _ (fun z => hn ⟨z.1, by omega, by omega⟩)])
                clear h1 h0 hs4 hs5 hs6 hs7
                simp only [tStep]
                grind
          · -- ¬ (¬ x = 32)
            refine go_blk 1 [] (pc' := 68) (vs' := [.ref (ad 7 q), .int x, .int 0]) (st' := [.int 1]) (M' := mm M (up2 f (ad 7 q) 6 0) g) (ps := []) rfl trivial ?_
            refine go_zret rfl rfl (Or.inr rfl) ?_
            refine h1 (p, dp, 0, false) _ ?_ ⟨(((up2_n _ _ (fun z => absurd z.2 (by decide))).trans (rfl)).trans hs4), (((up2_n _ _ (fun z => absurd z.2 (by decide))).trans (rfl)).trans hs5), (up2_s _ _ _ _), (((up2_n _ _ (fun z => absurd z.2 (by decide))).trans (rfl)).trans hs7)⟩ (fun b k hn => by rw [up2_n _ _ (fun z => hn ⟨z.1, by omega, by omega⟩)])
            clear h1 h0 hs4 hs5 hs6 hs7
            simp only [tStep]
            grind
        · -- 0
          show Go d 91 0 0 25 [.ref (ad 7 q), .int x, .int 0] [.int 0] (mm M f g) R
          refine go_if rfl (fun _ => ?_) (fun (z : ¬ ((0 : Int32) = 0)) => absurd (show (0 : Int32) = 0 from (by decide)) z)
          refine go_blk 5 [] (pc' := 64) (vs' := [.ref (ad 7 q), .int x, .int 0]) (st' := [.int 32, .int x]) (M' := mm M (up2 f (ad 7 q) 6 0) g) (ps := [ob (mm M f g) (ad 7 q) 9]) rfl ⟨ho, trivial⟩ ?_
          refine go_icmp rfl (fun (c29 : ¬ x = 32) => ?_) (fun (c29 : ¬ (¬ x = 32)) => ?_)
          · -- ¬ x = 32
            refine go_blk 2 [some (.int 0)] (pc' := 73) (vs' := [.ref (ad 7 q), .int x, .int 0]) (st' := [.int 0]) (M' := mm M (up2 f (ad 7 q) 6 0) g) (ps := [ob (mm M (up2 f (ad 7 q) 6 0) g) (ad 7 q) 9, (Value.int ((up2 f (ad 7 q) 6 0) (ad 7 q) 7)) = .int 0]) rfl ⟨ho, congrArg Value.int (((up2_n _ _ (fun z => absurd z.2 (by decide))).trans (rfl)).trans hs7), trivial⟩ ?_
            refine go_if rfl (fun _ => ?_) (fun (z : ¬ ((0 : Int32) = 0)) => absurd (show (0 : Int32) = 0 from (by decide)) z)
            refine go_blk 2 [] (pc' := 86) (vs' := [.ref (ad 7 q), .int x, .int 0]) (st' := [.int x, .ref (ad 7 q)]) (M' := mm M (up2 f (ad 7 q) 6 0) g) (ps := []) rfl trivial ?_
            refine go_callV rfl rfl rfl (by omega) rfl (by decide) (by decide) ho ?_
            show Go (d - 1) 93 0 0 0 [.ref (ad 7 q), .int x] [] (mm M (up2 f (ad 7 q) 6 0) g) _
            refine go_blk 2 [some (.int (nI dp))] (pc' := 4) (vs' := [.ref (ad 7 q), .int x]) (st' := [.int (nI dp)]) (M' := mm M (up2 f (ad 7 q) 6 0) g) (ps := [ob (mm M (up2 f (ad 7 q) 6 0) g) (ad 7 q) 9, (Value.int ((up2 f (ad 7 q) 6 0) (ad 7 q) 5)) = .int (nI dp)]) rfl ⟨ho, congrArg Value.int (((up2_n _ _ (fun z => absurd z.2 (by decide))).trans (rfl)).trans hs5), trivial⟩ ?_
            refine go_if rfl (fun (c30 : (nI dp) ≤ 0) => ?_) (fun (c30 : ¬ ((nI dp) ≤ 0)) => ?_)
            · -- (nI dp) ≤ 0
              have nc30 : dp ≤ 0 := (nI_les (a := dp) (b := 0) (by omega) (by omega)).mp c30
              refine go_blk 4 [] (pc' := 31) (vs' := [.ref (ad 7 q), .int x]) (st' := [.int x]) (M' := mm M (up2 (up2 f (ad 7 q) 6 0) (ad 7 q) 7 1) g) (ps := [ob (mm M (up2 f (ad 7 q) 6 0) g) (ad 7 q) 9, 1 = 0 ∨ 1 = 1]) rfl ⟨ho, (Or.inr rfl), trivial⟩ ?_
              refine go_callS rfl (by decide) rfl rfl (by omega) rfl (by decide) (by decide) ?_
              refine s_Tx_isPlusOrMinus (by omega) (fun c31 => ⟨ne_i, ?_⟩) (fun c31 => ⟨ne_i, ?_⟩)
              · -- 1
                show Go (d - 1) 93 0 0 34 [.ref (ad 7 q), .int x] [.int 1] (mm M (up2 (up2 f (ad 7 q) 6 0) (ad 7 q) 7 1) g) _
                refine go_if rfl (fun _ => ?_) (fun (z : ¬ (¬ (1 : Int32) = 0)) => absurd (show ¬ (1 : Int32) = 0 from (by decide)) z)
                refine go_blk 1 [] (pc' := 45) (vs' := [.ref (ad 7 q), .int x]) (st' := [.int 1]) (M' := mm M (up2 (up2 f (ad 7 q) 6 0) (ad 7 q) 7 1) g) (ps := []) rfl trivial ?_
                refine go_zret rfl rfl (Or.inr rfl) ?_
                refine ⟨ne_i, ?_⟩
                show Go d 91 0 0 89 [.ref (ad 7 q), .int x, .int 0] [.int 1] (mm M (up2 (up2 f (ad 7 q) 6 0) (ad 7 q) 7 1) g) R
                refine go_zret rfl rfl (Or.inr rfl) ?_
                refine h1 (p, dp, 0, true) _ ?_ ⟨(((up2_n _ _ (fun z => absurd z.2 (by decide))).trans ((up2_n _ _ (fun z => absurd z.2 (by decide))).trans (rfl))).trans hs4), (((up2_n _ _ (fun z => absurd z.2 (by decide))).trans ((up2_n _ _ (fun z => absurd z.2 (by decide))).trans (rfl))).trans hs5), ((up2_n _ _ (fun z => absurd z.2 (by decide))).trans (up2_s _ _ _ _)), (up2_s _ _ _ _)⟩ (fun b k hn => by rw [up2_n _ _ (fun z => hn ⟨z.1, by omega, by omega⟩), up2_n _ _ (fun z => hn ⟨z.1, by omega, by omega⟩)])
                clear h1 h0 hs4 hs5 hs6 hs7
                simp only [tStep]
                grind
              · -- 0
                show Go (d - 1) 93 0 0 34 [.ref (ad 7 q), .int x] [.int 0] (mm M (up2 (up2 f (ad 7 q) 6 0) (ad 7 q) 7 1) g) _
                refine go_if rfl (fun (z : ¬ (0 : Int32) = 0) => absurd z (show ¬ (¬ (0 : Int32) = 0) from (by decide))) (fun _ => ?_)
                refine go_blk 1 [] (pc' := 38) (vs' := [.ref (ad 7 q), .int x]) (st' := [.int x]) (M' := mm M (up2 (up2 f (ad 7 q) 6 0) (ad 7 q) 7 1) g) (ps := []) rfl trivial ?_
                refine go_callS rfl (by decide) rfl rfl (by omega) rfl (by decide) (by decide) ?_
                refine s_Tx_isTimesOrBy (by omega) (fun c32 => ⟨ne_i, ?_⟩) (fun c32 => ⟨ne_i, ?_⟩)
                · -- 1
                  show Go (d - 1) 93 0 0 41 [.ref (ad 7 q), .int x] [.int 1] (mm M (up2 (up2 f (ad 7 q) 6 0) (ad 7 q) 7 1) g) _
                  refine go_if rfl (fun (z : (1 : Int32) = 0) => absurd z (show ¬ ((1 : Int32) = 0) from (by decide))) (fun _ => ?_)
                  refine go_blk 1 [] (pc' := 45) (vs' := [.ref (ad 7 q), .int x]) (st' := [.int 1]) (M' := mm M (up2 (up2 f (ad 7 q) 6 0) (ad 7 q) 7 1) g) (ps := []) rfl trivial ?_
                  refine go_zret rfl rfl (Or.inr rfl) ?_
                  refine ⟨ne_i, ?_⟩
                  show Go d 91 0 0 89 [.ref (ad 7 q), .int x, .int 0] [.int 1] (mm M (up2 (up2 f (ad 7 q) 6 0) (ad 7 q) 7 1) g) R
                  refine go_zret rfl rfl (Or.inr rfl) ?_
                  refine h1 (p, dp, 0, true) _ ?_ ⟨(((up2_n _ _ (fun z => absurd z.2 (by decide))).trans ((up2_n _ _ (fun z => absurd z.2 (by decide))).trans (rfl))).trans hs4), (((up2_n _ _ (fun z => absurd z.2 (by decide))).trans ((up2_n _ _ (fun z => absurd z.2 (by decide))).trans (rfl))).trans hs5), ((up2_n _ _ (fun z => absurd z.2 (by decide))).trans (up2_s _ _ _ _)), (up2_s _ _ _ _)⟩ (fun b k hn => by rw [up2_n _ _ (fun z => hn ⟨z.1, by omega, by omega⟩), up2_n _ _ (fun z => hn ⟨z.1, by omega, by omega⟩)])
                  clear h1 h0 hs4 hs5 hs6 hs7
                  simp only [tStep]
                  grind
                · -- 0
                  show Go (d - 1) 93 0 0 41 [.ref (ad 7 q), .int x] [.int 0] (mm M (up2 (up2 f (ad 7 q) 6 0) (ad 7 q) 7 1) g) _
                  refine go_if rfl (fun _ => ?_) (fun (z : ¬ ((0 : Int32) = 0)) => absurd (show (0 : Int32) = 0 from (by decide)) z)
                  refine go_blk 3 [some (.int (nI dp))] (pc' := 51) (vs' := [.ref (ad 7 q), .int x]) (st' := [.int (nI dp), .ref (ad 7 q)]) (M' := mm M (up2 (up2 f (ad 7 q) 6 0) (ad 7 q) 7 1) g) (ps := [ob (mm M (up2 (up2 f (ad 7 q) 6 0) (ad 7 q) 7 1) g) (ad 7 q) 9, (Value.int ((up2 (up2 f (ad 7 q) 6 0) (ad 7 q) 7 1) (ad 7 q) 5)) = .int (nI dp)]) rfl ⟨ho, congrArg Value.int (((up2_n _ _ (fun z => absurd z.2 (by decide))).trans ((up2_n _ _ (fun z => absurd z.2 (by decide))).trans (rfl))).trans hs5), trivial⟩ ?_
                  refine go_if rfl (fun _ => ?_) (fun (z : ¬ ((nI dp) ≤ 0)) => absurd (show (nI dp) ≤ 0 from c30) z)
                  refine go_blk 3 [some (.int (nI p))] (pc' := 63) (vs' := [.ref (ad 7 q), .int x]) (st' := [.int x, .int (nI p), .ref (ad 7 q)]) (M' := mm M (up2 (up2 f (ad 7 q) 6 0) (ad 7 q) 7 1) g) (ps := [ob (mm M (up2 (up2 f (ad 7 q) 6 0) (ad 7 q) 7 1) g) (ad 7 q) 9, (Value.int ((up2 (up2 f (ad 7 q) 6 0) (ad 7 q) 7 1) (ad 7 q) 4)) = .int (nI p)]) rfl ⟨ho, congrArg Value.int (((up2_n _ _ (fun z => absurd z.2 (by decide))).trans ((up2_n _ _ (fun z => absurd z.2 (by decide))).trans (rfl))).trans hs4), trivial⟩ ?_
                  refine go_callS rfl (by decide) rfl rfl (by omega) rfl (by decide) (by decide) ?_
                  refine s_Tx_partBehind (by omega) k1 ⟨ne_i, ?_⟩
                  show Go (d - 1) 93 0 0 66 [.ref (ad 7 q), .int x] [.int (pBI p x), .ref (ad 7 q)] (mm M (up2 (up2 f (ad 7 q) 6 0) (ad 7 q) 7 1) g) _
                  refine go_blk 4 [some (.int (pBI p x))] (pc' := 74) (vs' := [.ref (ad 7 q), .int x]) (st' := [.int (-1), .int (pBI p x)]) (M' := mm M (up2 (up2 (up2 f (ad 7 q) 6 0) (ad 7 q) 7 1) (ad 7 q) 4 (pBI p x)) g) (ps := [ob (mm M (up2 (up2 f (ad 7 q) 6 0) (ad 7 q) 7 1) g) (ad 7 q) 9, ob (mm M (up2 (up2 (up2 f (ad 7 q) 6 0) (ad 7 q) 7 1) (ad 7 q) 4 (pBI p x)) g) (ad 7 q) 9, (Value.int ((up2 (up2 (up2 f (ad 7 q) 6 0) (ad 7 q) 7 1) (ad 7 q) 4 (pBI p x)) (ad 7 q) 4)) = .int (pBI p x)]) rfl ⟨ho, ho, congrArg Value.int (up2_s _ _ _ _), trivial⟩ ?_
                  refine go_icmp rfl (fun (c33 : (pBI p x) = (-1)) => ?_) (fun (c33 : ¬ ((pBI p x) = (-1))) => ?_)
                  · -- (pBI p x) = (-1)
                    refine go_blk 1 [] (pc' := 82) (vs' := [.ref (ad 7 q), .int x]) (st' := [.int 0]) (M' := mm M (up2 (up2 (up2 f (ad 7 q) 6 0) (ad 7 q) 7 1) (ad 7 q) 4 (pBI p x)) g) (ps := []) rfl trivial ?_
                    refine go_zret rfl rfl (Or.inl rfl) ?_
                    refine ⟨ne_i, ?_⟩
                    show Go d 91 0 0 89 [.ref (ad 7 q), .int x, .int 0] [.int 0] (mm M (up2 (up2 (up2 f (ad 7 q) 6 0) (ad 7 q) 7 1) (ad 7 q) 4 (pBI p x)) g) R
                    refine go_zret rfl rfl (Or.inl rfl) ?_
                    have hpb := pBI_m1 c33
                    refine h0 _ ?_ (fun b k hn => by rw [up2_n _ _ (fun z => hn ⟨z.1, by omega, by omega⟩), up2_n _ _ (fun z => hn ⟨z.1, by omega, by omega⟩), up2_n _ _ (fun z => hn ⟨z.1, by omega, by omega⟩)])
                    clear h1 h0 hs4 hs5 hs6 hs7
                    simp only [tStep]
                    grind
                  · -- ¬ ((pBI p x) = (-1))
                    refine go_blk 2 [] (pc' := 82) (vs' := [.ref (ad 7 q), .int x]) (st' := [.int 1]) (M' := mm M (up2 (up2 (up2 f (ad 7 q) 6 0) (ad 7 q) 7 1) (ad 7 q) 4 (pBI p x)) g) (ps := []) rfl trivial ?_
                    refine go_zret rfl rfl (Or.inr rfl) ?_
                    refine ⟨ne_i, ?_⟩
                    show Go d 91 0 0 89 [.ref (ad 7 q), .int x, .int 0] [.int 1] (mm M (up2 (up2 (up2 f (ad 7 q) 6 0) (ad 7 q) 7 1) (ad 7 q) 4 (pBI p x)) g) R
                    refine go_zret rfl rfl (Or.inr rfl) ?_
                    obtain ⟨kk, hpb, hpc⟩ := pBI_k c33
                    refine h1 (kk, dp, 0, true) _ ?_ ⟨((up2_s _ _ _ _).trans hpc), (((up2_n _ _ (fun z => absurd z.2 (by decide))).trans ((up2_n _ _ (fun z => absurd z.2 (by decide))).trans ((up2_n _ _ (fun z => absurd z.2 (by decide))).trans (rfl)))).trans hs5), ((up2_n _ _ (fun z => absurd z.2 (by decide))).trans ((up2_n _ _ (fun z => absurd z.2 (by decide))).trans (up2_s _ _ _ _))), ((up2_n _ _ (fun z => absurd z.2 (by decide))).trans (up2_s _ _ _ _))⟩ (fun b k hn => by rw [up2_n _ _ (fun z => hn ⟨z.1, by omega, by omega⟩), up2_n _ _ (fun z => hn ⟨z.1, by omega, by omega⟩), up2_n _ _ (fun z => hn ⟨z.1, by omega, by omega⟩)])
                    clear h1 h0 hs4 hs5 hs6 hs7
                    simp only [tStep]
                    grind
            · -- ¬ ((nI dp) ≤ 0)
              have nc30 : 0 < dp := (nI_lts (a := 0) (b := dp) (by omega) (by omega)).mp (Int32.not_le.mp c30)
              refine go_blk 2 [] (pc' := 10) (vs' := [.ref (ad 7 q), .int x]) (st' := [.int 41, .int x]) (M' := mm M (up2 f (ad 7 q) 6 0) g) (ps := []) rfl trivial ?_
              refine go_icmp rfl (fun (c34 : ¬ x = 41) => ?_) (fun (c34 : ¬ (¬ x = 41)) => ?_)
              · -- ¬ x = 41
                refine go_blk 4 [] (pc' := 31) (vs' := [.ref (ad 7 q), .int x]) (st' := [.int x]) (M' := mm M (up2 (up2 f (ad 7 q) 6 0) (ad 7 q) 7 1) g) (ps := [ob (mm M (up2 f (ad 7 q) 6 0) g) (ad 7 q) 9, 1 = 0 ∨ 1 = 1]) rfl ⟨ho, (Or.inr rfl), trivial⟩ ?_
                refine go_callS rfl (by decide) rfl rfl (by omega) rfl (by decide) (by decide) ?_
                refine s_Tx_isPlusOrMinus (by omega) (fun c35 => ⟨ne_i, ?_⟩) (fun c35 => ⟨ne_i, ?_⟩)
                · -- 1
                  show Go (d - 1) 93 0 0 34 [.ref (ad 7 q), .int x] [.int 1] (mm M (up2 (up2 f (ad 7 q) 6 0) (ad 7 q) 7 1) g) _
                  refine go_if rfl (fun _ => ?_) (fun (z : ¬ (¬ (1 : Int32) = 0)) => absurd (show ¬ (1 : Int32) = 0 from (by decide)) z)
                  refine go_blk 1 [] (pc' := 45) (vs' := [.ref (ad 7 q), .int x]) (st' := [.int 1]) (M' := mm M (up2 (up2 f (ad 7 q) 6 0) (ad 7 q) 7 1) g) (ps := []) rfl trivial ?_
                  refine go_zret rfl rfl (Or.inr rfl) ?_
                  refine ⟨ne_i, ?_⟩
                  show Go d 91 0 0 89 [.ref (ad 7 q), .int x, .int 0] [.int 1] (mm M (up2 (up2 f (ad 7 q) 6 0) (ad 7 q) 7 1) g) R
                  refine go_zret rfl rfl (Or.inr rfl) ?_
                  refine h1 (p, dp, 0, true) _ ?_ ⟨(((up2_n _ _ (fun z => absurd z.2 (by decide))).trans ((up2_n _ _ (fun z => absurd z.2 (by decide))).trans (rfl))).trans hs4), (((up2_n _ _ (fun z => absurd z.2 (by decide))).trans ((up2_n _ _ (fun z => absurd z.2 (by decide))).trans (rfl))).trans hs5), ((up2_n _ _ (fun z => absurd z.2 (by decide))).trans (up2_s _ _ _ _)), (up2_s _ _ _ _)⟩ (fun b k hn => by rw [up2_n _ _ (fun z => hn ⟨z.1, by omega, by omega⟩), up2_n _ _ (fun z => hn ⟨z.1, by omega, by omega⟩)])
                  clear h1 h0 hs4 hs5 hs6 hs7
                  simp only [tStep]
                  grind
                · -- 0
                  show Go (d - 1) 93 0 0 34 [.ref (ad 7 q), .int x] [.int 0] (mm M (up2 (up2 f (ad 7 q) 6 0) (ad 7 q) 7 1) g) _
                  refine go_if rfl (fun (z : ¬ (0 : Int32) = 0) => absurd z (show ¬ (¬ (0 : Int32) = 0) from (by decide))) (fun _ => ?_)
                  refine go_blk 1 [] (pc' := 38) (vs' := [.ref (ad 7 q), .int x]) (st' := [.int x]) (M' := mm M (up2 (up2 f (ad 7 q) 6 0) (ad 7 q) 7 1) g) (ps := []) rfl trivial ?_
                  refine go_callS rfl (by decide) rfl rfl (by omega) rfl (by decide) (by decide) ?_
                  refine s_Tx_isTimesOrBy (by omega) (fun c36 => ⟨ne_i, ?_⟩) (fun c36 => ⟨ne_i, ?_⟩)
                  · -- 1
                    show Go (d - 1) 93 0 0 41 [.ref (ad 7 q), .int x] [.int 1] (mm M (up2 (up2 f (ad 7 q) 6 0) (ad 7 q) 7 1) g) _
                    refine go_if rfl (fun (z : (1 : Int32) = 0) => absurd z (show ¬ ((1 : Int32) = 0) from (by decide))) (fun _ => ?_)
                    refine go_blk 1 [] (pc' := 45) (vs' := [.ref (ad 7 q), .int x]) (st' := [.int 1]) (M' := mm M (up2 (up2 f (ad 7 q) 6 0) (ad 7 q) 7 1) g) (ps := []) rfl trivial ?_
                    refine go_zret rfl rfl (Or.inr rfl) ?_
                    refine ⟨ne_i, ?_⟩
                    show Go d 91 0 0 89 [.ref (ad 7 q), .int x, .int 0] [.int 1] (mm M (up2 (up2 f (ad 7 q) 6 0) (ad 7 q) 7 1) g) R
                    refine go_zret rfl rfl (Or.inr rfl) ?_
                    refine h1 (p, dp, 0, true) _ ?_ ⟨(((up2_n _ _ (fun z => absurd z.2 (by decide))).trans ((up2_n _ _ (fun z => absurd z.2 (by decide))).trans (rfl))).trans hs4), (((up2_n _ _ (fun z => absurd z.2 (by decide))).trans ((up2_n _ _ (fun z => absurd z.2 (by decide))).trans (rfl))).trans hs5), ((up2_n _ _ (fun z => absurd z.2 (by decide))).trans (up2_s _ _ _ _)), (up2_s _ _ _ _)⟩ (fun b k hn => by rw [up2_n _ _ (fun z => hn ⟨z.1, by omega, by omega⟩), up2_n _ _ (fun z => hn ⟨z.1, by omega, by omega⟩)])
                    clear h1 h0 hs4 hs5 hs6 hs7
                    simp only [tStep]
                    grind
                  · -- 0
                    show Go (d - 1) 93 0 0 41 [.ref (ad 7 q), .int x] [.int 0] (mm M (up2 (up2 f (ad 7 q) 6 0) (ad 7 q) 7 1) g) _
                    refine go_if rfl (fun _ => ?_) (fun (z : ¬ ((0 : Int32) = 0)) => absurd (show (0 : Int32) = 0 from (by decide)) z)
                    refine go_blk 3 [some (.int (nI dp))] (pc' := 51) (vs' := [.ref (ad 7 q), .int x]) (st' := [.int (nI dp), .ref (ad 7 q)]) (M' := mm M (up2 (up2 f (ad 7 q) 6 0) (ad 7 q) 7 1) g) (ps := [ob (mm M (up2 (up2 f (ad 7 q) 6 0) (ad 7 q) 7 1) g) (ad 7 q) 9, (Value.int ((up2 (up2 f (ad 7 q) 6 0) (ad 7 q) 7 1) (ad 7 q) 5)) = .int (nI dp)]) rfl ⟨ho, congrArg Value.int (((up2_n _ _ (fun z => absurd z.2 (by decide))).trans ((up2_n _ _ (fun z => absurd z.2 (by decide))).trans (rfl))).trans hs5), trivial⟩ ?_
                    refine go_if rfl (fun (z : (nI dp) ≤ 0) => absurd z (show ¬ ((nI dp) ≤ 0) from c30)) (fun _ => ?_)
                    refine go_blk 6 [some (.int (-1))] (pc' := 74) (vs' := [.ref (ad 7 q), .int x]) (st' := [.int (-1), .int (-1)]) (M' := mm M (up2 (up2 (up2 f (ad 7 q) 6 0) (ad 7 q) 7 1) (ad 7 q) 4 (-1)) g) (ps := [ob (mm M (up2 (up2 f (ad 7 q) 6 0) (ad 7 q) 7 1) g) (ad 7 q) 9, ob (mm M (up2 (up2 (up2 f (ad 7 q) 6 0) (ad 7 q) 7 1) (ad 7 q) 4 (-1)) g) (ad 7 q) 9, (Value.int ((up2 (up2 (up2 f (ad 7 q) 6 0) (ad 7 q) 7 1) (ad 7 q) 4 (-1)) (ad 7 q) 4)) = .int (-1)]) rfl ⟨ho, ho, congrArg Value.int (up2_s _ _ _ _), trivial⟩ ?_
                    refine go_icmp rfl (fun _ => ?_) (fun (z : ¬ (((-1) : Int32) = (-1))) => absurd (show ((-1) : Int32) = (-1) from (by decide)) z)
                    refine go_blk 1 [] (pc' := 82) (vs' := [.ref (ad 7 q), .int x]) (st' := [.int 0]) (M' := mm M (up2 (up2 (up2 f (ad 7 q) 6 0) (ad 7 q) 7 1) (ad 7 q) 4 (-1)) g) (ps := []) rfl trivial ?_
                    refine go_zret rfl rfl (Or.inl rfl) ?_
                    refine ⟨ne_i, ?_⟩
                    show Go d 91 0 0 89 [.ref (ad 7 q), .int x, .int 0] [.int 0] (mm M (up2 (up2 (up2 f (ad 7 q) 6 0) (ad 7 q) 7 1) (ad 7 q) 4 (-1)) g) R
                    refine go_zret rfl rfl (Or.inl rfl) ?_
                    refine h0 _ ?_ (fun b k hn => by rw [up2_n _ _ (fun z => hn ⟨z.1, by omega, by omega⟩), up2_n _ _ (fun z => hn ⟨z.1, by omega, by omega⟩), up2_n _ _ (fun z => hn ⟨z.1, by omega, by omega⟩)])
                    clear h1 h0 hs4 hs5 hs6 hs7
                    simp only [tStep]
                    grind
              · -- ¬ (¬ x = 41)
                refine go_blk 7 [some (.int (nI dp))] (pc' := 24) (vs' := [.ref (ad 7 q), .int x]) (st' := [.int 1]) (M' := mm M (up2 (up2 f (ad 7 q) 6 0) (ad 7 q) 5 ((nI dp) - 1)) g) (ps := [(.ref (ad 7 q) : Value).category = 1, ob (mm M (up2 f (ad 7 q) 6 0) g) (ad 7 q) 9, (Value.int ((up2 f (ad 7 q) 6 0) (ad 7 q) 5)) = .int (nI dp), ob (mm M (up2 f (ad 7 q) 6 0) g) (ad 7 q) 9]) rfl ⟨rfl, ho, congrArg Value.int (((up2_n _ _ (fun z => absurd z.2 (by decide))).trans (rfl)).trans hs5), ho, trivial⟩ ?_
                refine go_zret rfl rfl (Or.inr rfl) ?_
                refine ⟨ne_i, ?_⟩
                show Go d 91 0 0 89 [.ref (ad 7 q), .int x, .int 0] [.int 1] (mm M (up2 (up2 f (ad 7 q) 6 0) (ad 7 q) 5 ((nI dp) - 1)) g) R
                refine go_zret rfl rfl (Or.inr rfl) ?_
                refine h1 (p, dp - 1, 0, false) _ ?_ ⟨(((up2_n _ _ (fun z => absurd z.2 (by decide))).trans ((up2_n _ _ (fun z => absurd z.2 (by decide))).trans (rfl))).trans hs4), ((up2_s _ _ _ _).trans (pk_sub (a := dp) (b := 1) (by omega))), ((up2_n _ _ (fun z => absurd z.2 (by decide))).trans (up2_s _ _ _ _)), (((up2_n _ _ (fun z => absurd z.2 (by decide))).trans ((up2_n _ _ (fun z => absurd z.2 (by decide))).trans (rfl))).trans hs7)⟩ (fun b k hn => by rw [up2_n _ _ (fun z => hn ⟨z.1, by omega, by omega⟩), up2_n _ _ (fun z => hn ⟨z.1, by omega, by omega⟩)])
                clear h1 h0 hs4 hs5 hs6 hs7
                simp only [tStep]
                grind
          · -- ¬ (¬ x = 32)
            refine go_blk 1 [] (pc' := 68) (vs' := [.ref (ad 7 q), .int x, .int 0]) (st' := [.int 1]) (M' := mm M (up2 f (ad 7 q) 6 0) g) (ps := []) rfl trivial ?_
            refine go_zret rfl rfl (Or.inr rfl) ?_
            refine h1 (p, dp, 0, false) _ ?_ ⟨(((up2_n _ _ (fun z => absurd z.2 (by decide))).trans (rfl)).trans hs4), (((up2_n _ _ (fun z => absurd z.2 (by decide))).trans (rfl)).trans hs5), (up2_s _ _ _ _), (((up2_n _ _ (fun z => absurd z.2 (by decide))).trans (rfl)).trans hs7)⟩ (fun b k hn => by rw [up2_n _ _ (fun z => hn ⟨z.1, by omega, by omega⟩)])
            clear h1 h0 hs4 hs5 hs6 hs7
            simp only [tStep]
            grind
      · -- ¬ (4 ≤ (nI dg))
        have nc19 : dg < 4 := (nI_lts (a := dg) (b := 4) (by omega) (by omega)).mp (Int32.not_le.mp c19)
        refine go_blk 4 [] (pc' := 22) (vs' := [.ref (ad 7 q), .int x, .int 1]) (st' := [.int x]) (M' := mm M f g) (ps := []) rfl trivial ?_
        refine go_callS rfl (by decide) rfl rfl (by omega) rfl (by decide) (by decide) ?_
        refine s_Tx_isDigit (by omega) (fun c37 => ⟨ne_i, ?_⟩) (fun c37 => ⟨ne_i, ?_⟩)
        · -- 1
          show Go d 91 0 0 25 [.ref (ad 7 q), .int x, .int 1] [.int 1] (mm M f g) R
          refine go_if rfl (fun (z : (1 : Int32) = 0) => absurd z (show ¬ ((1 : Int32) = 0) from (by decide))) (fun _ => ?_)
          refine go_blk 2 [some (.int 0)] (pc' := 32) (vs' := [.ref (ad 7 q), .int x, .int 1]) (st' := [.int 0]) (M' := mm M f g) (ps := [ob (mm M f g) (ad 7 q) 9, (Value.int (f (ad 7 q) 7)) = .int 0]) rfl ⟨ho, congrArg Value.int hs7, trivial⟩ ?_
          refine go_if rfl (fun (z : ¬ (0 : Int32) = 0) => absurd z (show ¬ (¬ (0 : Int32) = 0) from (by decide))) (fun _ => ?_)
          refine go_blk 1 [] (pc' := 36) (vs' := [.ref (ad 7 q), .int x, .int 1]) (st' := [.int 1]) (M' := mm M f g) (ps := []) rfl trivial ?_
          refine go_if rfl (fun (z : (1 : Int32) = 0) => absurd z (show ¬ ((1 : Int32) = 0) from (by decide))) (fun _ => ?_)
          refine go_blk 10 [some (.int (nI dg))] (pc' := 55) (vs' := [.ref (ad 7 q), .int x, .int 1]) (st' := [.int 1]) (M' := mm M (up2 (up2 f (ad 7 q) 6 ((nI dg) + 1)) (ad 7 q) 7 0) g) (ps := [(.ref (ad 7 q) : Value).category = 1, ob (mm M f g) (ad 7 q) 9, (Value.int (f (ad 7 q) 6)) = .int (nI dg), ob (mm M f g) (ad 7 q) 9, ob (mm M (up2 f (ad 7 q) 6 ((nI dg) + 1)) g) (ad 7 q) 9, 0 = 0 ∨ 0 = 1]) rfl ⟨rfl, ho, congrArg Value.int hs6, ho, ho, (Or.inl rfl), trivial⟩ ?_
          refine go_zret rfl rfl (Or.inr rfl) ?_
          refine h1 (p, dp, dg + 1, false) _ ?_ ⟨(((up2_n _ _ (fun z => absurd z.2 (by decide))).trans ((up2_n _ _ (fun z => absurd z.2 (by decide))).trans (rfl))).trans hs4), (((up2_n _ _ (fun z => absurd z.2 (by decide))).trans ((up2_n _ _ (fun z => absurd z.2 (by decide))).trans (rfl))).trans hs5), (((up2_n _ _ (fun z => absurd z.2 (by decide))).trans (up2_s _ _ _ _)).trans (nI_add dg 1)), (up2_s _ _ _ _)⟩ (fun b k hn => by rw [up2_n _ _ (fun z => hn ⟨z.1, by omega, by omega⟩), up2_n _ _ (fun z => hn ⟨z.1, by omega, by omega⟩)])
          clear h1 h0 hs4 hs5 hs6 hs7
          simp only [tStep]
          grind
        · -- 0
          show Go d 91 0 0 25 [.ref (ad 7 q), .int x, .int 1] [.int 0] (mm M f g) R
          refine go_if rfl (fun _ => ?_) (fun (z : ¬ ((0 : Int32) = 0)) => absurd (show (0 : Int32) = 0 from (by decide)) z)
          refine go_blk 5 [] (pc' := 64) (vs' := [.ref (ad 7 q), .int x, .int 1]) (st' := [.int 32, .int x]) (M' := mm M (up2 f (ad 7 q) 6 0) g) (ps := [ob (mm M f g) (ad 7 q) 9]) rfl ⟨ho, trivial⟩ ?_
          refine go_icmp rfl (fun (c38 : ¬ x = 32) => ?_) (fun (c38 : ¬ (¬ x = 32)) => ?_)
          · -- ¬ x = 32
            refine go_blk 2 [some (.int 0)] (pc' := 73) (vs' := [.ref (ad 7 q), .int x, .int 1]) (st' := [.int 0]) (M' := mm M (up2 f (ad 7 q) 6 0) g) (ps := [ob (mm M (up2 f (ad 7 q) 6 0) g) (ad 7 q) 9, (Value.int ((up2 f (ad 7 q) 6 0) (ad 7 q) 7)) = .int 0]) rfl ⟨ho, congrArg Value.int (((up2_n _ _ (fun z => absurd z.2 (by decide))).trans (rfl)).trans hs7), trivial⟩ ?_
            refine go_if rfl (fun _ => ?_) (fun (z : ¬ ((0 : Int32) = 0)) => absurd (show (0 : Int32) = 0 from (by decide)) z)
            refine go_blk 2 [] (pc' := 86) (vs' := [.ref (ad 7 q), .int x, .int 1]) (st' := [.int x, .ref (ad 7 q)]) (M' := mm M (up2 f (ad 7 q) 6 0) g) (ps := []) rfl trivial ?_
            refine go_callV rfl rfl rfl (by omega) rfl (by decide) (by decide) ho ?_
            show Go (d - 1) 93 0 0 0 [.ref (ad 7 q), .int x] [] (mm M (up2 f (ad 7 q) 6 0) g) _
            refine go_blk 2 [some (.int (nI dp))] (pc' := 4) (vs' := [.ref (ad 7 q), .int x]) (st' := [.int (nI dp)]) (M' := mm M (up2 f (ad 7 q) 6 0) g) (ps := [ob (mm M (up2 f (ad 7 q) 6 0) g) (ad 7 q) 9, (Value.int ((up2 f (ad 7 q) 6 0) (ad 7 q) 5)) = .int (nI dp)]) rfl ⟨ho, congrArg Value.int (((up2_n _ _ (fun z => absurd z.2 (by decide))).trans (rfl)).trans hs5), trivial⟩ ?_
            refine go_if rfl (fun (c39 : (nI dp) ≤ 0) => ?_) (fun (c39 : ¬ ((nI dp) ≤ 0)) => ?_)
            · -- (nI dp) ≤ 0
              have nc39 : dp ≤ 0 := (nI_les (a := dp) (b := 0) (by omega) (by omega)).mp c39
              refine go_blk 4 [] (pc' := 31) (vs' := [.ref (ad 7 q), .int x]) (st' := [.int x]) (M' := mm M (up2 (up2 f (ad 7 q) 6 0) (ad 7 q) 7 1) g) (ps := [ob (mm M (up2 f (ad 7 q) 6 0) g) (ad 7 q) 9, 1 = 0 ∨ 1 = 1]) rfl ⟨ho, (Or.inr rfl), trivial⟩ ?_
              refine go_callS rfl (by decide) rfl rfl (by omega) rfl (by decide) (by decide) ?_
              refine s_Tx_isPlusOrMinus (by omega) (fun c40 => ⟨ne_i, ?_⟩) (fun c40 => ⟨ne_i, ?_⟩)
              · -- 1
                show Go (d - 1) 93 0 0 34 [.ref (ad 7 q), .int x] [.int 1] (mm M (up2 (up2 f (ad 7 q) 6 0) (ad 7 q) 7 1) g) _
                refine go_if rfl (fun _ => ?_) (fun (z : ¬ (¬ (1 : Int32) = 0)) => absurd (show ¬ (1 : Int32) = 0 from (by decide)) z)
                refine go_blk 1 [] (pc' := 45) (vs' := [.ref (ad 7 q), .int x]) (st' := [.int 1]) (M' := mm M (up2 (up2 f (ad 7 q) 6 0) (ad 7 q) 7 1) g) (ps := []) rfl trivial ?_
                refine go_zret rfl rfl (Or.inr rfl) ?_
                refine ⟨ne_i, ?_⟩
                show Go d 91 0 0 89 [.ref (ad 7 q), .int x, .int 1] [.int 1] (mm M (up2 (up2 f (ad 7 q) 6 0) (ad 7 q) 7 1) g) R
                refine go_zret rfl rfl (Or.inr rfl) ?_
                refine h1 (p, dp, 0, true) _ ?_ ⟨(((up2_n _ _ (fun z => absurd z.2 (by decide))).trans ((up2_n _ _ (fun z => absurd z.2 (by decide))).trans (rfl))).trans hs4), (((up2_n _ _ (fun z => absurd z.2 (by decide))).trans ((up2_n _ _ (fun z => absurd z.2 (by decide))).trans (rfl))).trans hs5), ((up2_n _ _ (fun z => absurd z.2 (by decide))).trans (up2_s _ _ _ _)), (up2_s _ _ _ _)⟩ (fun b k hn => by rw [up2_n _ _ (fun z => hn ⟨z.1, by omega, by omega⟩), up2_n _ _ (fun z => hn ⟨z.1, by omega, by omega⟩)])
                clear h1 h0 hs4 hs5 hs6 hs7
                simp only [tStep]
                grind
              · -- 0
                show Go (d - 1) 93 0 0 34 [.ref (ad 7 q), .int x] [.int 0] (mm M (up2 (up2 f (ad 7 q) 6 0) (ad 7 q) 7 1) g) _
                refine go_if rfl (fun (z : ¬ (0 : Int32) = 0) => absurd z (show ¬ (¬ (0 : Int32) = 0) from (by decide))) (fun _ => ?_)
                refine go_blk 1 [] (pc' := 38) (vs' := [.ref (ad 7 q), .int x]) (st' := [.int x]) (M' := mm M (up2 (up2 f (ad 7 q) 6 0) (ad 7 q) 7 1) g) (ps := []) rfl trivial ?_
                refine go_callS rfl (by decide) rfl rfl (by omega) rfl (by decide) (by decide) ?_
                refine s_Tx_isTimesOrBy (by omega) (fun c41 => ⟨ne_i, ?_⟩) (fun c41 => ⟨ne_i, ?_⟩)
                · -- 1
                  show Go (d - 1) 93 0 0 41 [.ref (ad 7 q), .int x] [.int 1] (mm M (up2 (up2 f (ad 7 q) 6 0) (ad 7 q) 7 1) g) _
                  refine go_if rfl (fun (z : (1 : Int32) = 0) => absurd z (show ¬ ((1 : Int32) = 0) from (by decide))) (fun _ => ?_)
                  refine go_blk 1 [] (pc' := 45) (vs' := [.ref (ad 7 q), .int x]) (st' := [.int 1]) (M' := mm M (up2 (up2 f (ad 7 q) 6 0) (ad 7 q) 7 1) g) (ps := []) rfl trivial ?_
                  refine go_zret rfl rfl (Or.inr rfl) ?_
                  refine ⟨ne_i, ?_⟩
                  show Go d 91 0 0 89 [.ref (ad 7 q), .int x, .int 1] [.int 1] (mm M (up2 (up2 f (ad 7 q) 6 0) (ad 7 q) 7 1) g) R
                  refine go_zret rfl rfl (Or.inr rfl) ?_
                  refine h1 (p, dp, 0, true) _ ?_ ⟨(((up2_n _ _ (fun z => absurd z.2 (by decide))).trans ((up2_n _ _ (fun z => absurd z.2 (by decide))).trans (rfl))).trans hs4), (((up2_n _ _ (fun z => absurd z.2 (by decide))).trans ((up2_n _ _ (fun z => absurd z.2 (by decide))).trans (rfl))).trans hs5), ((up2_n _ _ (fun z => absurd z.2 (by decide))).trans (up2_s _ _ _ _)), (up2_s _ _ _ _)⟩ (fun b k hn => by rw [up2_n _ _ (fun z => hn ⟨z.1, by omega, by omega⟩), up2_n _ _ (fun z => hn ⟨z.1, by omega, by omega⟩)])
                  clear h1 h0 hs4 hs5 hs6 hs7
                  simp only [tStep]
                  grind
                · -- 0
                  show Go (d - 1) 93 0 0 41 [.ref (ad 7 q), .int x] [.int 0] (mm M (up2 (up2 f (ad 7 q) 6 0) (ad 7 q) 7 1) g) _
                  refine go_if rfl (fun _ => ?_) (fun (z : ¬ ((0 : Int32) = 0)) => absurd (show (0 : Int32) = 0 from (by decide)) z)
                  refine go_blk 3 [some (.int (nI dp))] (pc' := 51) (vs' := [.ref (ad 7 q), .int x]) (st' := [.int (nI dp), .ref (ad 7 q)]) (M' := mm M (up2 (up2 f (ad 7 q) 6 0) (ad 7 q) 7 1) g) (ps := [ob (mm M (up2 (up2 f (ad 7 q) 6 0) (ad 7 q) 7 1) g) (ad 7 q) 9, (Value.int ((up2 (up2 f (ad 7 q) 6 0) (ad 7 q) 7 1) (ad 7 q) 5)) = .int (nI dp)]) rfl ⟨ho, congrArg Value.int (((up2_n _ _ (fun z => absurd z.2 (by decide))).trans ((up2_n _ _ (fun z => absurd z.2 (by decide))).trans (rfl))).trans hs5), trivial⟩ ?_
                  refine go_if rfl (fun _ => ?_) (fun (z : ¬ ((nI dp) ≤ 0)) => absurd (show (nI dp) ≤ 0 from c39) z)
                  refine go_blk 3 [some (.int (nI p))] (pc' := 63) (vs' := [.ref (ad 7 q), .int x]) (st' := [.int x, .int (nI p), .ref (ad 7 q)]) (M' := mm M (up2 (up2 f (ad 7 q) 6 0) (ad 7 q) 7 1) g) (ps := [ob (mm M (up2 (up2 f (ad 7 q) 6 0) (ad 7 q) 7 1) g) (ad 7 q) 9, (Value.int ((up2 (up2 f (ad 7 q) 6 0) (ad 7 q) 7 1) (ad 7 q) 4)) = .int (nI p)]) rfl ⟨ho, congrArg Value.int (((up2_n _ _ (fun z => absurd z.2 (by decide))).trans ((up2_n _ _ (fun z => absurd z.2 (by decide))).trans (rfl))).trans hs4), trivial⟩ ?_
                  refine go_callS rfl (by decide) rfl rfl (by omega) rfl (by decide) (by decide) ?_
                  refine s_Tx_partBehind (by omega) k1 ⟨ne_i, ?_⟩
                  show Go (d - 1) 93 0 0 66 [.ref (ad 7 q), .int x] [.int (pBI p x), .ref (ad 7 q)] (mm M (up2 (up2 f (ad 7 q) 6 0) (ad 7 q) 7 1) g) _
                  refine go_blk 4 [some (.int (pBI p x))] (pc' := 74) (vs' := [.ref (ad 7 q), .int x]) (st' := [.int (-1), .int (pBI p x)]) (M' := mm M (up2 (up2 (up2 f (ad 7 q) 6 0) (ad 7 q) 7 1) (ad 7 q) 4 (pBI p x)) g) (ps := [ob (mm M (up2 (up2 f (ad 7 q) 6 0) (ad 7 q) 7 1) g) (ad 7 q) 9, ob (mm M (up2 (up2 (up2 f (ad 7 q) 6 0) (ad 7 q) 7 1) (ad 7 q) 4 (pBI p x)) g) (ad 7 q) 9, (Value.int ((up2 (up2 (up2 f (ad 7 q) 6 0) (ad 7 q) 7 1) (ad 7 q) 4 (pBI p x)) (ad 7 q) 4)) = .int (pBI p x)]) rfl ⟨ho, ho, congrArg Value.int (up2_s _ _ _ _), trivial⟩ ?_
                  refine go_icmp rfl (fun (c42 : (pBI p x) = (-1)) => ?_) (fun (c42 : ¬ ((pBI p x) = (-1))) => ?_)
                  · -- (pBI p x) = (-1)
                    refine go_blk 1 [] (pc' := 82) (vs' := [.ref (ad 7 q), .int x]) (st' := [.int 0]) (M' := mm M (up2 (up2 (up2 f (ad 7 q) 6 0) (ad 7 q) 7 1) (ad 7 q) 4 (pBI p x)) g) (ps := []) rfl trivial ?_
                    refine go_zret rfl rfl (Or.inl rfl) ?_
                    refine ⟨ne_i, ?_⟩
                    show Go d 91 0 0 89 [.ref (ad 7 q), .int x, .int 1] [.int 0] (mm M (up2 (up2 (up2 f (ad 7 q) 6 0) (ad 7 q) 7 1) (ad 7 q) 4 (pBI p x)) g) R
                    refine go_zret rfl rfl (Or.inl rfl) ?_
                    have hpb := pBI_m1 c42
                    refine h0 _ ?_ (fun b k hn => by rw [up2_n _ _ (fun z => hn ⟨z.1, by omega, by omega⟩), up2_n _ _ (fun z => hn ⟨z.1, by omega, by omega⟩), up2_n _ _ (fun z => hn ⟨z.1, by omega, by omega⟩)])
                    clear h1 h0 hs4 hs5 hs6 hs7
                    simp only [tStep]
                    grind
                  · -- ¬ ((pBI p x) = (-1))
                    refine go_blk 2 [] (pc' := 82) (vs' := [.ref (ad 7 q), .int x]) (st' := [.int 1]) (M' := mm M (up2 (up2 (up2 f (ad 7 q) 6 0) (ad 7 q) 7 1) (ad 7 q) 4 (pBI p x)) g) (ps := []) rfl trivial ?_
                    refine go_zret rfl rfl (Or.inr rfl) ?_
                    refine ⟨ne_i, ?_⟩
                    show Go d 91 0 0 89 [.ref (ad 7 q), .int x, .int 1] [.int 1] (mm M (up2 (up2 (up2 f (ad 7 q) 6 0) (ad 7 q) 7 1) (ad 7 q) 4 (pBI p x)) g) R
                    refine go_zret rfl rfl (Or.inr rfl) ?_
                    obtain ⟨kk, hpb, hpc⟩ := pBI_k c42
                    refine h1 (kk, dp, 0, true) _ ?_ ⟨((up2_s _ _ _ _).trans hpc), (((up2_n _ _ (fun z => absurd z.2 (by decide))).trans ((up2_n _ _ (fun z => absurd z.2 (by decide))).trans ((up2_n _ _ (fun z => absurd z.2 (by decide))).trans (rfl)))).trans hs5), ((up2_n _ _ (fun z => absurd z.2 (by decide))).trans ((up2_n _ _ (fun z => absurd z.2 (by decide))).trans (up2_s _ _ _ _))), ((up2_n _ _ (fun z => absurd z.2 (by decide))).trans (up2_s _ _ _ _))⟩ (fun b k hn => by rw [up2_n _ _ (fun z => hn ⟨z.1, by omega, by omega⟩), up2_n _ _ (fun z => hn ⟨z.1, by omega, by omega⟩), up2_n _ _ (fun z => hn ⟨z.1, by omega, by omega⟩)])
                    clear h1 h0 hs4 hs5 hs6 hs7
                    simp only [tStep]
                    grind
            · -- ¬ ((nI dp) ≤ 0)
              have nc39 : 0 < dp := (nI_lts (a := 0) (b := dp) (by omega) (by omega)).mp (Int32.not_le.mp c39)
              refine go_blk 2 [] (pc' := 10) (vs' := [.ref (ad 7 q), .int x]) (st' := [.int 41, .int x]) (M' := mm M (up2 f (ad 7 q) 6 0) g) (ps := []) rfl trivial ?_
              refine go_icmp rfl (fun (c43 : ¬ x = 41) => ?_) (fun (c43 : ¬ (¬ x = 41)) => ?_)
              · -- ¬ x = 41
                refine go_blk 4 [] (pc' := 31) (vs' := [.ref (ad 7 q), .int x]) (st' := [.int x]) (M' := mm M (up2 (up2 f (ad 7 q) 6 0) (ad 7 q) 7 1) g) (ps := [ob (mm M (up2 f (ad 7 q) 6 0) g) (ad 7 q) 9, 1 = 0 ∨ 1 = 1]) rfl ⟨ho, (Or.inr rfl), trivial⟩ ?_
                refine go_callS rfl (by decide) rfl rfl (by omega) rfl (by decide) (by decide) ?_
                refine s_Tx_isPlusOrMinus (by omega) (fun c44 => ⟨ne_i, ?_⟩) (fun c44 => ⟨ne_i, ?_⟩)
                · -- 1
                  show Go (d - 1) 93 0 0 34 [.ref (ad 7 q), .int x] [.int 1] (mm M (up2 (up2 f (ad 7 q) 6 0) (ad 7 q) 7 1) g) _
                  refine go_if rfl (fun _ => ?_) (fun (z : ¬ (¬ (1 : Int32) = 0)) => absurd (show ¬ (1 : Int32) = 0 from (by decide)) z)
                  refine go_blk 1 [] (pc' := 45) (vs' := [.ref (ad 7 q), .int x]) (st' := [.int 1]) (M' := mm M (up2 (up2 f (ad 7 q) 6 0) (ad 7 q) 7 1) g) (ps := []) rfl trivial ?_
                  refine go_zret rfl rfl (Or.inr rfl) ?_
                  refine ⟨ne_i, ?_⟩
                  show Go d 91 0 0 89 [.ref (ad 7 q), .int x, .int 1] [.int 1] (mm M (up2 (up2 f (ad 7 q) 6 0) (ad 7 q) 7 1) g) R
                  refine go_zret rfl rfl (Or.inr rfl) ?_
                  refine h1 (p, dp, 0, true) _ ?_ ⟨(((up2_n _ _ (fun z => absurd z.2 (by decide))).trans ((up2_n _ _ (fun z => absurd z.2 (by decide))).trans (rfl))).trans hs4), (((up2_n _ _ (fun z => absurd z.2 (by decide))).trans ((up2_n _ _ (fun z => absurd z.2 (by decide))).trans (rfl))).trans hs5), ((up2_n _ _ (fun z => absurd z.2 (by decide))).trans (up2_s _ _ _ _)), (up2_s _ _ _ _)⟩ (fun b k hn => by rw [up2_n _ _ (fun z => hn ⟨z.1, by omega, by omega⟩), up2_n _ _ (fun z => hn ⟨z.1, by omega, by omega⟩)])
                  clear h1 h0 hs4 hs5 hs6 hs7
                  simp only [tStep]
                  grind
                · -- 0
                  show Go (d - 1) 93 0 0 34 [.ref (ad 7 q), .int x] [.int 0] (mm M (up2 (up2 f (ad 7 q) 6 0) (ad 7 q) 7 1) g) _
                  refine go_if rfl (fun (z : ¬ (0 : Int32) = 0) => absurd z (show ¬ (¬ (0 : Int32) = 0) from (by decide))) (fun _ => ?_)
                  refine go_blk 1 [] (pc' := 38) (vs' := [.ref (ad 7 q), .int x]) (st' := [.int x]) (M' := mm M (up2 (up2 f (ad 7 q) 6 0) (ad 7 q) 7 1) g) (ps := []) rfl trivial ?_
                  refine go_callS rfl (by decide) rfl rfl (by omega) rfl (by decide) (by decide) ?_
                  refine s_Tx_isTimesOrBy (by omega) (fun c45 => ⟨ne_i, ?_⟩) (fun c45 => ⟨ne_i, ?_⟩)
                  · -- 1
                    show Go (d - 1) 93 0 0 41 [.ref (ad 7 q), .int x] [.int 1] (mm M (up2 (up2 f (ad 7 q) 6 0) (ad 7 q) 7 1) g) _
                    refine go_if rfl (fun (z : (1 : Int32) = 0) => absurd z (show ¬ ((1 : Int32) = 0) from (by decide))) (fun _ => ?_)
                    refine go_blk 1 [] (pc' := 45) (vs' := [.ref (ad 7 q), .int x]) (st' := [.int 1]) (M' := mm M (up2 (up2 f (ad 7 q) 6 0) (ad 7 q) 7 1) g) (ps := []) rfl trivial ?_
                    refine go_zret rfl rfl (Or.inr rfl) ?_
                    refine ⟨ne_i, ?_⟩
                    show Go d 91 0 0 89 [.ref (ad 7 q), .int x, .int 1] [.int 1] (mm M (up2 (up2 f (ad 7 q) 6 0) (ad 7 q) 7 1) g) R
                    refine go_zret rfl rfl (Or.inr rfl) ?_
                    refine h1 (p, dp, 0, true) _ ?_ ⟨(((up2_n _ _ (fun z => absurd z.2 (by decide))).trans ((up2_n _ _ (fun z => absurd z.2 (by decide))).trans (rfl))).trans hs4), (((up2_n _ _ (fun z => absurd z.2 (by decide))).trans ((up2_n _ _ (fun z => absurd z.2 (by decide))).trans (rfl))).trans hs5), ((up2_n _ _ (fun z => absurd z.2 (by decide))).trans (up2_s _ _ _ _)), (up2_s _ _ _ _)⟩ (fun b k hn => by rw [up2_n _ _ (fun z => hn ⟨z.1, by omega, by omega⟩), up2_n _ _ (fun z => hn ⟨z.1, by omega, by omega⟩)])
                    clear h1 h0 hs4 hs5 hs6 hs7
                    simp only [tStep]
                    grind
                  · -- 0
                    show Go (d - 1) 93 0 0 41 [.ref (ad 7 q), .int x] [.int 0] (mm M (up2 (up2 f (ad 7 q) 6 0) (ad 7 q) 7 1) g) _
                    refine go_if rfl (fun _ => ?_) (fun (z : ¬ ((0 : Int32) = 0)) => absurd (show (0 : Int32) = 0 from (by decide)) z)
                    refine go_blk 3 [some (.int (nI dp))] (pc' := 51) (vs' := [.ref (ad 7 q), .int x]) (st' := [.int (nI dp), .ref (ad 7 q)]) (M' := mm M (up2 (up2 f (ad 7 q) 6 0) (ad 7 q) 7 1) g) (ps := [ob (mm M (up2 (up2 f (ad 7 q) 6 0) (ad 7 q) 7 1) g) (ad 7 q) 9, (Value.int ((up2 (up2 f (ad 7 q) 6 0) (ad 7 q) 7 1) (ad 7 q) 5)) = .int (nI dp)]) rfl ⟨ho, congrArg Value.int (((up2_n _ _ (fun z => absurd z.2 (by decide))).trans ((up2_n _ _ (fun z => absurd z.2 (by decide))).trans (rfl))).trans hs5), trivial⟩ ?_
                    refine go_if rfl (fun (z : (nI dp) ≤ 0) => absurd z (show ¬ ((nI dp) ≤ 0) from c39)) (fun _ => ?_)
                    refine go_blk 6 [some (.int (-1))] (pc' := 74) (vs' := [.ref (ad 7 q), .int x]) (st' := [.int (-1), .int (-1)]) (M' := mm M (up2 (up2 (up2 f (ad 7 q) 6 0) (ad 7 q) 7 1) (ad 7 q) 4 (-1)) g) (ps := [ob (mm M (up2 (up2 f (ad 7 q) 6 0) (ad 7 q) 7 1) g) (ad 7 q) 9, ob (mm M (up2 (up2 (up2 f (ad 7 q) 6 0) (ad 7 q) 7 1) (ad 7 q) 4 (-1)) g) (ad 7 q) 9, (Value.int ((up2 (up2 (up2 f (ad 7 q) 6 0) (ad 7 q) 7 1) (ad 7 q) 4 (-1)) (ad 7 q) 4)) = .int (-1)]) rfl ⟨ho, ho, congrArg Value.int (up2_s _ _ _ _), trivial⟩ ?_
                    refine go_icmp rfl (fun _ => ?_) (fun (z : ¬ (((-1) : Int32) = (-1))) => absurd (show ((-1) : Int32) = (-1) from (by decide)) z)
                    refine go_blk 1 [] (pc' := 82) (vs' := [.ref (ad 7 q), .int x]) (st' := [.int 0]) (M' := mm M (up2 (up2 (up2 f (ad 7 q) 6 0) (ad 7 q) 7 1) (ad 7 q) 4 (-1)) g) (ps := []) rfl trivial ?_
                    refine go_zret rfl rfl (Or.inl rfl) ?_
                    refine ⟨ne_i, ?_⟩
                    show Go d 91 0 0 89 [.ref (ad 7 q), .int x, .int 1] [.int 0] (mm M (up2 (up2 (up2 f (ad 7 q) 6 0) (ad 7 q) 7 1) (ad 7 q) 4 (-1)) g) R
                    refine go_zret rfl rfl (Or.inl rfl) ?_
                    refine h0 _ ?_ (fun b k hn => by rw [up2_n _ _ (fun z => hn ⟨z.1, by omega, by omega⟩), up2_n _ _ (fun z => hn ⟨z.1, by omega, by omega⟩), up2_n _ _ (fun z => hn ⟨z.1, by omega, by omega⟩)])
                    clear h1 h0 hs4 hs5 hs6 hs7
                    simp only [tStep]
                    grind
              · -- ¬ (¬ x = 41)
                refine go_blk 7 [some (.int (nI dp))] (pc' := 24) (vs' := [.ref (ad 7 q), .int x]) (st' := [.int 1]) (M' := mm M (up2 (up2 f (ad 7 q) 6 0) (ad 7 q) 5 ((nI dp) - 1)) g) (ps := [(.ref (ad 7 q) : Value).category = 1, ob (mm M (up2 f (ad 7 q) 6 0) g) (ad 7 q) 9, (Value.int ((up2 f (ad 7 q) 6 0) (ad 7 q) 5)) = .int (nI dp), ob (mm M (up2 f (ad 7 q) 6 0) g) (ad 7 q) 9]) rfl ⟨rfl, ho, congrArg Value.int (((up2_n _ _ (fun z => absurd z.2 (by decide))).trans (rfl)).trans hs5), ho, trivial⟩ ?_
                refine go_zret rfl rfl (Or.inr rfl) ?_
                refine ⟨ne_i, ?_⟩
                show Go d 91 0 0 89 [.ref (ad 7 q), .int x, .int 1] [.int 1] (mm M (up2 (up2 f (ad 7 q) 6 0) (ad 7 q) 5 ((nI dp) - 1)) g) R
                refine go_zret rfl rfl (Or.inr rfl) ?_
                refine h1 (p, dp - 1, 0, false) _ ?_ ⟨(((up2_n _ _ (fun z => absurd z.2 (by decide))).trans ((up2_n _ _ (fun z => absurd z.2 (by decide))).trans (rfl))).trans hs4), ((up2_s _ _ _ _).trans (pk_sub (a := dp) (b := 1) (by omega))), ((up2_n _ _ (fun z => absurd z.2 (by decide))).trans (up2_s _ _ _ _)), (((up2_n _ _ (fun z => absurd z.2 (by decide))).trans ((up2_n _ _ (fun z => absurd z.2 (by decide))).trans (rfl))).trans hs7)⟩ (fun b k hn => by rw [up2_n _ _ (fun z => hn ⟨z.1, by omega, by omega⟩), up2_n _ _ (fun z => hn ⟨z.1, by omega, by omega⟩)])
                clear h1 h0 hs4 hs5 hs6 hs7
                simp only [tStep]
                grind
          · -- ¬ (¬ x = 32)
            refine go_blk 1 [] (pc' := 68) (vs' := [.ref (ad 7 q), .int x, .int 1]) (st' := [.int 1]) (M' := mm M (up2 f (ad 7 q) 6 0) g) (ps := []) rfl trivial ?_
            refine go_zret rfl rfl (Or.inr rfl) ?_
            refine h1 (p, dp, 0, false) _ ?_ ⟨(((up2_n _ _ (fun z => absurd z.2 (by decide))).trans (rfl)).trans hs4), (((up2_n _ _ (fun z => absurd z.2 (by decide))).trans (rfl)).trans hs5), (up2_s _ _ _ _), (((up2_n _ _ (fun z => absurd z.2 (by decide))).trans (rfl)).trans hs7)⟩ (fun b k hn => by rw [up2_n _ _ (fun z => hn ⟨z.1, by omega, by omega⟩)])
            clear h1 h0 hs4 hs5 hs6 hs7
            simp only [tStep]
            grind
  · replace hx : letV x = 0 := hx
    replace hs7 : f (ad 7 q) 7 = 1 := hs7
    show Go d 91 0 0 0 [.ref (ad 7 q), .int x, .retAddr 0] [] (mm M f g) R
    refine go_blk 2 [some (.int (nI dg))] (pc' := 4) (vs' := [.ref (ad 7 q), .int x, .retAddr 0]) (st' := [.int (nI dg)]) (M' := mm M f g) (ps := [ob (mm M f g) (ad 7 q) 9, (Value.int (f (ad 7 q) 6)) = .int (nI dg)]) rfl ⟨ho, congrArg Value.int hs6, trivial⟩ ?_
    refine go_if rfl (fun (c1 : (nI dg) ≤ 0) => ?_) (fun (c1 : ¬ ((nI dg) ≤ 0)) => ?_)
    · -- (nI dg) ≤ 0
      have nc1 : dg ≤ 0 := (nI_les (a := dg) (b := 0) (by omega) (by omega)).mp c1
      refine go_blk 3 [] (pc' := 22) (vs' := [.ref (ad 7 q), .int x, .int 0]) (st' := [.int x]) (M' := mm M f g) (ps := []) rfl trivial ?_
      refine go_callS rfl (by decide) rfl rfl (by omega) rfl (by decide) (by decide) ?_
      refine s_Tx_isDigit (by omega) (fun c2 => ⟨ne_i, ?_⟩) (fun c2 => ⟨ne_i, ?_⟩)
      · -- 1
        show Go d 91 0 0 25 [.ref (ad 7 q), .int x, .int 0] [.int 1] (mm M f g) R
        refine go_if rfl (fun (z : (1 : Int32) = 0) => absurd z (show ¬ ((1 : Int32) = 0) from (by decide))) (fun _ => ?_)
        refine go_blk 2 [some (.int 1)] (pc' := 32) (vs' := [.ref (ad 7 q), .int x, .int 0]) (st' := [.int 1]) (M' := mm M f g) (ps := [ob (mm M f g) (ad 7 q) 9, (Value.int (f (ad 7 q) 7)) = .int 1]) rfl ⟨ho, congrArg Value.int hs7, trivial⟩ ?_
        refine go_if rfl (fun _ => ?_) (fun (z : ¬ (¬ (1 : Int32) = 0)) => absurd (show ¬ (1 : Int32) = 0 from (by decide)) z)
        refine go_blk 10 [some (.int (nI dg))] (pc' := 55) (vs' := [.ref (ad 7 q), .int x, .int 0]) (st' := [.int 1]) (M' := mm M (up2 (up2 f (ad 7 q) 6 ((nI dg) + 1)) (ad 7 q) 7 0) g) (ps := [(.ref (ad 7 q) : Value).category = 1, ob (mm M f g) (ad 7 q) 9, (Value.int (f (ad 7 q) 6)) = .int (nI dg), ob (mm M f g) (ad 7 q) 9, ob (mm M (up2 f (ad 7 q) 6 ((nI dg) + 1)) g) (ad 7 q) 9, 0 = 0 ∨ 0 = 1]) rfl ⟨rfl, ho, congrArg Value.int hs6, ho, ho, (Or.inl rfl), trivial⟩ ?_
        refine go_zret rfl rfl (Or.inr rfl) ?_
        refine h1 (p, dp, dg + 1, false) _ ?_ ⟨(((up2_n _ _ (fun z => absurd z.2 (by decide))).trans ((up2_n _ _ (fun z => absurd z.2 (by decide))).trans (rfl))).trans hs4), (((up2_n _ _ (fun z => absurd z.2 (by decide))).trans ((up2_n _ _ (fun z => absurd z.2 (by decide))).trans (rfl))).trans hs5), (((up2_n _ _ (fun z => absurd z.2 (by decide))).trans (up2_s _ _ _ _)).trans (nI_add dg 1)), (up2_s _ _ _ _)⟩ (fun b k hn => by rw [up2_n _ _ (fun z => hn ⟨z.1, by omega, by omega⟩), up2_n _ _ (fun z => hn ⟨z.1, by omega, by omega⟩)])
        clear h1 h0 hs4 hs5 hs6 hs7
        simp only [tStep]
        grind
      · -- 0
        show Go d 91 0 0 25 [.ref (ad 7 q), .int x, .int 0] [.int 0] (mm M f g) R
        refine go_if rfl (fun _ => ?_) (fun (z : ¬ ((0 : Int32) = 0)) => absurd (show (0 : Int32) = 0 from (by decide)) z)
        refine go_blk 5 [] (pc' := 64) (vs' := [.ref (ad 7 q), .int x, .int 0]) (st' := [.int 32, .int x]) (M' := mm M (up2 f (ad 7 q) 6 0) g) (ps := [ob (mm M f g) (ad 7 q) 9]) rfl ⟨ho, trivial⟩ ?_
        refine go_icmp rfl (fun (c3 : ¬ x = 32) => ?_) (fun (c3 : ¬ (¬ x = 32)) => ?_)
        · -- ¬ x = 32
          refine go_blk 2 [some (.int 1)] (pc' := 73) (vs' := [.ref (ad 7 q), .int x, .int 0]) (st' := [.int 1]) (M' := mm M (up2 f (ad 7 q) 6 0) g) (ps := [ob (mm M (up2 f (ad 7 q) 6 0) g) (ad 7 q) 9, (Value.int ((up2 f (ad 7 q) 6 0) (ad 7 q) 7)) = .int 1]) rfl ⟨ho, congrArg Value.int (((up2_n _ _ (fun z => absurd z.2 (by decide))).trans (rfl)).trans hs7), trivial⟩ ?_
          refine go_if rfl (fun (z : (1 : Int32) = 0) => absurd z (show ¬ ((1 : Int32) = 0) from (by decide))) (fun _ => ?_)
          refine go_blk 2 [] (pc' := 78) (vs' := [.ref (ad 7 q), .int x, .int 0]) (st' := [.int x, .ref (ad 7 q)]) (M' := mm M (up2 f (ad 7 q) 6 0) g) (ps := []) rfl trivial ?_
          refine go_callV rfl rfl rfl (by omega) rfl (by decide) (by decide) ho ?_
          show Go (d - 1) 92 0 0 0 [.ref (ad 7 q), .int x] [] (mm M (up2 f (ad 7 q) 6 0) g) _
          refine go_blk 2 [] (pc' := 3) (vs' := [.ref (ad 7 q), .int x]) (st' := [.int 40, .int x]) (M' := mm M (up2 f (ad 7 q) 6 0) g) (ps := []) rfl trivial ?_
          refine go_icmp rfl (fun (c4 : ¬ x = 40) => ?_) (fun (c4 : ¬ (¬ x = 40)) => ?_)
          · -- ¬ x = 40
            refine go_blk 4 [] (pc' := 33) (vs' := [.ref (ad 7 q), .int x]) (st' := [.int x]) (M' := mm M (up2 (up2 f (ad 7 q) 6 0) (ad 7 q) 7 0) g) (ps := [ob (mm M (up2 f (ad 7 q) 6 0) g) (ad 7 q) 9, 0 = 0 ∨ 0 = 1]) rfl ⟨ho, (Or.inl rfl), trivial⟩ ?_
            refine go_let rfl (by omega) (by decide) ?_
            rw [hx]
            show Go (d - 1) 92 0 0 36 [.ref (ad 7 q), .int x] [.int 0] (mm M (up2 (up2 f (ad 7 q) 6 0) (ad 7 q) 7 0) g) _
            refine go_zret rfl rfl (Or.inl rfl) ?_
            refine ⟨ne_i, ?_⟩
            show Go d 91 0 0 81 [.ref (ad 7 q), .int x, .int 0] [.int 0] (mm M (up2 (up2 f (ad 7 q) 6 0) (ad 7 q) 7 0) g) R
            refine go_blk 1 [] (pc' := 89) (vs' := [.ref (ad 7 q), .int x, .int 0]) (st' := [.int 0]) (M' := mm M (up2 (up2 f (ad 7 q) 6 0) (ad 7 q) 7 0) g) (ps := []) rfl trivial ?_
            refine go_zret rfl rfl (Or.inl rfl) ?_
            refine h0 _ ?_ (fun b k hn => by rw [up2_n _ _ (fun z => hn ⟨z.1, by omega, by omega⟩), up2_n _ _ (fun z => hn ⟨z.1, by omega, by omega⟩)])
            clear h1 h0 hs4 hs5 hs6 hs7
            simp only [tStep]
            grind
          · -- ¬ (¬ x = 40)
            refine go_blk 3 [some (.int (nI dp))] (pc' := 12) (vs' := [.ref (ad 7 q), .int x]) (st' := [.int 6, .int (nI dp)]) (M' := mm M (up2 f (ad 7 q) 6 0) g) (ps := [ob (mm M (up2 f (ad 7 q) 6 0) g) (ad 7 q) 9, (Value.int ((up2 f (ad 7 q) 6 0) (ad 7 q) 5)) = .int (nI dp)]) rfl ⟨ho, congrArg Value.int (((up2_n _ _ (fun z => absurd z.2 (by decide))).trans (rfl)).trans hs5), trivial⟩ ?_
            refine go_icmp rfl (fun (c5 : 6 ≤ (nI dp)) => ?_) (fun (c5 : ¬ (6 ≤ (nI dp))) => ?_)
            · -- 6 ≤ (nI dp)
              have nc5 : 6 ≤ dp := (nI_les (a := 6) (b := dp) (by omega) (by omega)).mp c5
              refine go_blk 4 [] (pc' := 33) (vs' := [.ref (ad 7 q), .int x]) (st' := [.int x]) (M' := mm M (up2 (up2 f (ad 7 q) 6 0) (ad 7 q) 7 0) g) (ps := [ob (mm M (up2 f (ad 7 q) 6 0) g) (ad 7 q) 9, 0 = 0 ∨ 0 = 1]) rfl ⟨ho, (Or.inl rfl), trivial⟩ ?_
              refine go_let rfl (by omega) (by decide) ?_
              rw [hx]
              show Go (d - 1) 92 0 0 36 [.ref (ad 7 q), .int x] [.int 0] (mm M (up2 (up2 f (ad 7 q) 6 0) (ad 7 q) 7 0) g) _
              refine go_zret rfl rfl (Or.inl rfl) ?_
              refine ⟨ne_i, ?_⟩
              show Go d 91 0 0 81 [.ref (ad 7 q), .int x, .int 0] [.int 0] (mm M (up2 (up2 f (ad 7 q) 6 0) (ad 7 q) 7 0) g) R
              refine go_blk 1 [] (pc' := 89) (vs' := [.ref (ad 7 q), .int x, .int 0]) (st' := [.int 0]) (M' := mm M (up2 (up2 f (ad 7 q) 6 0) (ad 7 q) 7 0) g) (ps := []) rfl trivial ?_
              refine go_zret rfl rfl (Or.inl rfl) ?_
              refine h0 _ ?_ (fun b k hn => by rw [up2_n _ _ (fun z => hn ⟨z.1, by omega, by omega⟩), up2_n _ _ (fun z => hn ⟨z.1, by omega, by omega⟩)])
              clear h1 h0 hs4 hs5 hs6 hs7
              simp only [tStep]
              grind
            · -- ¬ (6 ≤ (nI dp))
              have nc5 : dp < 6 := (nI_lts (a := dp) (b := 6) (by omega) (by omega)).mp (Int32.not_le.mp c5)
              refine go_blk 7 [some (.int (nI dp))] (pc' := 26) (vs' := [.ref (ad 7 q), .int x]) (st' := [.int 1]) (M' := mm M (up2 (up2 f (ad 7 q) 6 0) (ad 7 q) 5 ((nI dp) + 1)) g) (ps := [(.ref (ad 7 q) : Value).category = 1, ob (mm M (up2 f (ad 7 q) 6 0) g) (ad 7 q) 9, (Value.int ((up2 f (ad 7 q) 6 0) (ad 7 q) 5)) = .int (nI dp), ob (mm M (up2 f (ad 7 q) 6 0) g) (ad 7 q) 9]) rfl ⟨rfl, ho, congrArg Value.int (((up2_n _ _ (fun z => absurd z.2 (by decide))).trans (rfl)).trans hs5), ho, trivial⟩ ?_
              refine go_zret rfl rfl (Or.inr rfl) ?_
              refine ⟨ne_i, ?_⟩
              show Go d 91 0 0 81 [.ref (ad 7 q), .int x, .int 0] [.int 1] (mm M (up2 (up2 f (ad 7 q) 6 0) (ad 7 q) 5 ((nI dp) + 1)) g) R
              refine go_blk 1 [] (pc' := 89) (vs' := [.ref (ad 7 q), .int x, .int 0]) (st' := [.int 1]) (M' := mm M (up2 (up2 f (ad 7 q) 6 0) (ad 7 q) 5 ((nI dp) + 1)) g) (ps := []) rfl trivial ?_
              refine go_zret rfl rfl (Or.inr rfl) ?_
              refine h1 (p, dp + 1, 0, true) _ ?_ ⟨(((up2_n _ _ (fun z => absurd z.2 (by decide))).trans ((up2_n _ _ (fun z => absurd z.2 (by decide))).trans (rfl))).trans hs4), ((up2_s _ _ _ _).trans (nI_add dp 1)), ((up2_n _ _ (fun z => absurd z.2 (by decide))).trans (up2_s _ _ _ _)), (((up2_n _ _ (fun z => absurd z.2 (by decide))).trans ((up2_n _ _ (fun z => absurd z.2 (by decide))).trans (rfl))).trans hs7)⟩ (fun b k hn => by rw [up2_n _ _ (fun z => hn ⟨z.1, by omega, by omega⟩), up2_n _ _ (fun z => hn ⟨z.1, by omega, by omega⟩)])
              clear h1 h0 hs4 hs5 hs6 hs7
              simp only [tStep]
              grind
        · -- ¬ (¬ x = 32)
          refine go_blk 1 [] (pc' := 68) (vs' := [.ref (ad 7 q), .int x, .int 0]) (st' := [.int 1]) (M' := mm M (up2 f (ad 7 q) 6 0) g) (ps := []) rfl trivial ?_
          refine go_zret rfl rfl (Or.inr rfl) ?_
          refine h1 (p, dp, 0, true) _ ?_ ⟨(((up2_n _ _ (fun z => absurd z.2 (by decide))).trans (rfl)).trans hs4), (((up2_n _ _ (fun z => absurd z.2 (by decide))).trans (rfl)).trans hs5), (up2_s _ _ _ _), (((up2_n _ _ (fun z => absurd z.2 (by decide))).trans (rfl)).trans hs7)⟩ (fun b k hn => by rw [up2_n _ _ (fun z => hn ⟨z.1, by omega, by omega⟩)])
          clear h1 h0 hs4 hs5 hs6 hs7
          simp only [tStep]
          grind
    · -- ¬ ((nI dg) ≤ 0)
      have nc1 : 0 < dg := (nI_lts (a := 0) (b := dg) (by omega) (by omega)).mp (Int32.not_le.mp c1)
      refine go_blk 3 [some (.int (nI dg))] (pc' := 12) (vs' := [.ref (ad 7 q), .int x, .retAddr 0]) (st' := [.int 4, .int (nI dg)]) (M' := mm M f g) (ps := [ob (mm M f g) (ad 7 q) 9, (Value.int (f (ad 7 q) 6)) = .int (nI dg)]) rfl ⟨ho, congrArg Value.int hs6, trivial⟩ ?_
      refine go_icmp rfl (fun (c6 : 4 ≤ (nI dg)) => ?_) (fun (c6 : ¬ (4 ≤ (nI dg))) => ?_)
      · -- 4 ≤ (nI dg)
        have nc6 : 4 ≤ dg := (nI_les (a := 4) (b := dg) (by omega) (by omega)).mp c6
        refine go_blk 3 [] (pc' := 22) (vs' := [.ref (ad 7 q), .int x, .int 0]) (st' := [.int x]) (M' := mm M f g) (ps := []) rfl trivial ?_
        refine go_callS rfl (by decide) rfl rfl (by omega) rfl (by decide) (by decide) ?_
        refine s_Tx_isDigit (by omega) (fun c7 => ⟨ne_i, ?_⟩) (fun c7 => ⟨ne_i, ?_⟩)
        · -- 1
          show Go d 91 0 0 25 [.ref (ad 7 q), .int x, .int 0] [.int 1] (mm M f g) R
          refine go_if rfl (fun (z : (1 : Int32) = 0) => absurd z (show ¬ ((1 : Int32) = 0) from (by decide))) (fun _ => ?_)
          refine go_blk 2 [some (.int 1)] (pc' := 32) (vs' := [.ref (ad 7 q), .int x, .int 0]) (st' := [.int 1]) (M' := mm M f g) (ps := [ob (mm M f g) (ad 7 q) 9, (Value.int (f (ad 7 q) 7)) = .int 1]) rfl ⟨ho, congrArg Value.int hs7, trivial⟩ ?_
          refine go_if rfl (fun _ => ?_) (fun (z : ¬ (¬ (1 : Int32) = 0)) => absurd (show ¬ (1 : Int32) = 0 from (by decide)) z)
          refine go_blk 10 [some (.int (nI dg))] (pc' := 55) (vs' := [.ref (ad 7 q), .int x, .int 0]) (st' := [.int 1]) (M' := mm M (up2 (up2 f (ad 7 q) 6 ((nI dg) + 1)) (ad 7 q) 7 0) g) (ps := [(.ref (ad 7 q) : Value).category = 1, ob (mm M f g) (ad 7 q) 9, (Value.int (f (ad 7 q) 6)) = .int (nI dg), ob (mm M f g) (ad 7 q) 9, ob (mm M (up2 f (ad 7 q) 6 ((nI dg) + 1)) g) (ad 7 q) 9, 0 = 0 ∨ 0 = 1]) rfl ⟨rfl, ho, congrArg Value.int hs6, ho, ho, (Or.inl rfl), trivial⟩ ?_
          refine go_zret rfl rfl (Or.inr rfl) ?_
          refine h1 (p, dp, dg + 1, false) _ ?_ ⟨(((up2_n _ _ (fun z => absurd z.2 (by decide))).trans ((up2_n _ _ (fun z => absurd z.2 (by decide))).trans (rfl))).trans hs4), (((up2_n _ _ (fun z => absurd z.2 (by decide))).trans ((up2_n _ _ (fun z => absurd z.2 (by decide))).trans (rfl))).trans hs5), (((up2_n _ _ (fun z => absurd z.2 (by decide))).trans (up2_s _ _ _ _)).trans (nI_add dg 1)), (up2_s _ _ _ _)⟩ (fun b k hn => by rw [up2_n _ _ (fun z => hn ⟨z.1, by omega, by omega⟩), up2_n _ _ (fun z => hn ⟨z.1, by omega, by omega⟩)])
          clear h1 h0 hs4 hs5 hs6 hs7
          simp only [tStep]
          grind
        · -- 0
          show Go d 91 0 0 25 [.ref (ad 7 q), .int x, .int 0] [.int 0] (mm M f g) R
          refine go_if rfl (fun _ => ?_) (fun (z : ¬ ((0 : Int32) = 0)) => absurd (show (0 : Int32) = 0 from (by decide)) z)
          refine go_blk 5 [] (pc' := 64) (vs' := [.ref (ad 7 q), .int x, .int 0]) (st' := [.int 32, .int x]) (M' := mm M (up2 f (ad 7 q) 6 0) g) (ps := [ob (mm M f g) (ad 7 q) 9]) rfl ⟨ho, trivial⟩ ?_
          refine go_icmp rfl (fun (c8 : ¬ x = 32) => ?_) (fun (c8 : ¬ (¬ x = 32)) => ?_)
          · -- ¬ x = 32
            refine go_blk 2 [some (.int 1)] (pc' := 73) (vs' := [.ref (ad 7 q), .int x, .int 0]) (st' := [.int 1]) (M' := mm M (up2 f (ad 7 q) 6 0) g) (ps := [ob (mm M (up2 f (ad 7 q) 6 0) g) (ad 7 q) 9, (Value.int ((up2 f (ad 7 q) 6 0) (ad 7 q) 7)) = .int 1]) rfl ⟨ho, congrArg Value.int (((up2_n _ _ (fun z => absurd z.2 (by decide))).trans (rfl)).trans hs7), trivial⟩ ?_
            refine go_if rfl (fun (z : (1 : Int32) = 0) => absurd z (show ¬ ((1 : Int32) = 0) from (by decide))) (fun _ => ?_)
            refine go_blk 2 [] (pc' := 78) (vs' := [.ref (ad 7 q), .int x, .int 0]) (st' := [.int x, .ref (ad 7 q)]) (M' := mm M (up2 f (ad 7 q) 6 0) g) (ps := []) rfl trivial ?_
            refine go_callV rfl rfl rfl (by omega) rfl (by decide) (by decide) ho ?_
            show Go (d - 1) 92 0 0 0 [.ref (ad 7 q), .int x] [] (mm M (up2 f (ad 7 q) 6 0) g) _
            refine go_blk 2 [] (pc' := 3) (vs' := [.ref (ad 7 q), .int x]) (st' := [.int 40, .int x]) (M' := mm M (up2 f (ad 7 q) 6 0) g) (ps := []) rfl trivial ?_
            refine go_icmp rfl (fun (c9 : ¬ x = 40) => ?_) (fun (c9 : ¬ (¬ x = 40)) => ?_)
            · -- ¬ x = 40
              refine go_blk 4 [] (pc' := 33) (vs' := [.ref (ad 7 q), .int x]) (st' := [.int x]) (M' := mm M (up2 (up2 f (ad 7 q) 6 0) (ad 7 q) 7 0) g) (ps := [ob (mm M (up2 f (ad 7 q) 6 0) g) (ad 7 q) 9, 0 = 0 ∨ 0 = 1]) rfl ⟨ho, (Or.inl rfl), trivial⟩ ?_
              refine go_let rfl (by omega) (by decide) ?_
              rw [hx]
              show Go (d - 1) 92 0 0 36 [.ref (ad 7 q), .int x] [.int 0] (mm M (up2 (up2 f (ad 7 q) 6 0) (ad 7 q) 7 0) g) _
              refine go_zret rfl rfl (Or.inl rfl) ?_
              refine ⟨ne_i, ?_⟩
              show Go d 91 0 0 81 [.ref (ad 7 q), .int x, .int 0] [.int 0] (mm M (up2 (up2 f (ad 7 q) 6 0) (ad 7 q) 7 0) g) R
              refine go_blk 1 [] (pc' := 89) (vs' := [.ref (ad 7 q), .int x, .int 0]) (st' := [.int 0]) (M' := mm M (up2 (up2 f (ad 7 q) 6 0) (ad 7 q) 7 0) g) (ps := []) rfl trivial ?_
              refine go_zret rfl rfl (Or.inl rfl) ?_
              refine h0 _ ?_ (fun b k hn => by rw [up2_n _ _ (fun z => hn ⟨z.1, by omega, by omega⟩), up2_n _ _ (fun z => hn ⟨z.1, by omega, by omega⟩)])
              clear h1 h0 hs4 hs5 hs6 hs7
              simp only [tStep]
              grind
            · -- ¬ (¬ x = 40)
              refine go_blk 3 [some (.int (nI dp))] (pc' := 12) (vs' := [.ref (ad 7 q), .int x]) (st' := [.int 6, .int (nI dp)]) (M' := mm M (up2 f (ad 7 q) 6 0) g) (ps := [ob (mm M (up2 f (ad 7 q) 6 0) g) (ad 7 q) 9, (Value.int ((up2 f (ad 7 q) 6 0) (ad 7 q) 5)) = .int (nI dp)]) rfl ⟨ho, congrArg Value.int (((up2_n _ _ (fun z => absurd z.2 (by decide))).trans (rfl)).trans hs5), trivial⟩ ?_
              refine go_icmp rfl (fun (c10 : 6 ≤ (nI dp)) => ?_) (fun (c10 : ¬ (6 ≤ (nI dp))) => ?_)
              · -- 6 ≤ (nI dp)
                have nc10 : 6 ≤ dp := (nI_les (a := 6) (b := dp) (by omega) (by omega)).mp c10
                refine go_blk 4 [] (pc' := 33) (vs' := [.ref (ad 7 q), .int x]) (st' := [.int x]) (M' := mm M (up2 (up2 f (ad 7 q) 6 0) (ad 7 q) 7 0) g) (ps := [ob (mm M (up2 f (ad 7 q) 6 0) g) (ad 7 q) 9, 0 = 0 ∨ 0 = 1]) rfl ⟨ho, (Or.inl rfl), trivial⟩ ?_
                refine go_let rfl (by omega) (by decide) ?_
                rw [hx]
                show Go (d - 1) 92 0 0 36 [.ref (ad 7 q), .int x] [.int 0] (mm M (up2 (up2 f (ad 7 q) 6 0) (ad 7 q) 7 0) g) _
                refine go_zret rfl rfl (Or.inl rfl) ?_
                refine ⟨ne_i, ?_⟩
                show Go d 91 0 0 81 [.ref (ad 7 q), .int x, .int 0] [.int 0] (mm M (up2 (up2 f (ad 7 q) 6 0) (ad 7 q) 7 0) g) R
                refine go_blk 1 [] (pc' := 89) (vs' := [.ref (ad 7 q), .int x, .int 0]) (st' := [.int 0]) (M' := mm M (up2 (up2 f (ad 7 q) 6 0) (ad 7 q) 7 0) g) (ps := []) rfl trivial ?_
                refine go_zret rfl rfl (Or.inl rfl) ?_
                refine h0 _ ?_ (fun b k hn => by rw [up2_n _ _ (fun z => hn ⟨z.1, by omega, by omega⟩), up2_n _ _ (fun z => hn ⟨z.1, by omega, by omega⟩)])
                clear h1 h0 hs4 hs5 hs6 hs7
                simp only [tStep]
                grind
              · -- ¬ (6 ≤ (nI dp))
                have nc10 : dp < 6 := (nI_lts (a := dp) (b := 6) (by omega) (by omega)).mp (Int32.not_le.mp c10)
                refine go_blk 7 [some (.int (nI dp))] (pc' := 26) (vs' := [.ref (ad 7 q), .int x]) (st' := [.int 1]) (M' := mm M (up2 (up2 f (ad 7 q) 6 0) (ad 7 q) 5 ((nI dp) + 1)) g) (ps := [(.ref (ad 7 q) : Value).category = 1, ob (mm M (up2 f (ad 7 q) 6 0) g) (ad 7 q) 9, (Value.int ((up2 f (ad 7 q) 6 0) (ad 7 q) 5)) = .int (nI dp), ob (mm M (up2 f (ad 7 q) 6 0) g) (ad 7 q) 9]) rfl ⟨rfl, ho, congrArg Value.int (((up2_n _ _ (fun z => absurd z.2 (by decide))).trans (rfl)).trans hs5), ho, trivial⟩ ?_
                refine go_zret rfl rfl (Or.inr rfl) ?_
                refine ⟨ne_i, ?_⟩
                show Go d 91 0 0 81 [.ref (ad 7 q), .int x, .int 0] [.int 1] (mm M (up2 (up2 f (ad 7 q) 6 0) (ad 7 q) 5 ((nI dp) + 1)) g) R
                refine go_blk 1 [] (pc' := 89) (vs' := [.ref (ad 7 q), .int x, .int 0]) (st' := [.int 1]) (M' := mm M (up2 (up2 f (ad 7 q) 6 0) (ad 7 q) 5 ((nI dp) + 1)) g) (ps := []) rfl trivial ?_
                refine go_zret rfl rfl (Or.inr rfl) ?_
                refine h1 (p, dp + 1, 0, true) _ ?_ ⟨(((up2_n _ _ (fun z => absurd z.2 (by decide))).trans ((up2_n _ _ (fun z => absurd z.2 (by decide))).trans (rfl))).trans hs4), ((up2_s _ _ _ _).trans (nI_add dp 1)), ((up2_n _ _ (fun z => absurd z.2 (by decide))).trans (up2_s _ _ _ _)), (((up2_n _ _ (fun z => absurd z.2 (by decide))).trans ((up2_n _ _ (fun z => absurd z.2 (by decide))).trans (rfl))).trans hs7)⟩ (fun b k hn => by rw [up2_n _ _ (fun z => hn ⟨z.1, by omega, by omega⟩), up2_n _ _ (fun z => hn ⟨z.1, by omega, by omega⟩)])
                clear h1 h0 hs4 hs5 hs6 hs7
                simp only [tStep]
                grind
          · -- ¬ (¬ x = 32)
            refine go_blk 1 [] (pc' := 68) (vs' := [.ref (ad 7 q), .int x, .int 0]) (st' := [.int 1]) (M' := mm M (up2 f (ad 7 q) 6 0) g) (ps := []) rfl trivial ?_
            refine go_zret rfl rfl (Or.inr rfl) ?_
            refine h1 (p, dp, 0, true) _ ?_ ⟨(((up2_n _ _ (fun z => absurd z.2 (by decide))).trans (rfl)).trans hs4), (((up2_n _ _ (fun z => absurd z.2 (by decide))).trans (rfl)).trans hs5), (up2_s _ _ _ _), (((up2_n _ _ (fun z => absurd z.2 (by decide))).trans (rfl)).trans hs7)⟩ (fun b k hn => by rw [up2_n _ _ (fun z => hn ⟨z.1, by omega, by omega⟩)])
            clear h1 h0 hs4 hs5 hs6 hs7
            simp only [tStep]
            grind
      · -- ¬ (4 ≤ (nI dg))
        have nc6 : dg < 4 := (nI_lts (a := dg) (b := 4) (by omega) (by omega)).mp (Int32.not_le.mp c6)
        refine go_blk 4 [] (pc' := 22) (vs' := [.ref (ad 7 q), .int x, .int 1]) (st' := [.int x]) (M' := mm M f g) (ps := []) rfl trivial ?_
        refine go_callS rfl (by decide) rfl rfl (by omega) rfl (by decide) (by decide) ?_
        refine s_Tx_isDigit (by omega) (fun c11 => ⟨ne_i, ?_⟩) (fun c11 => ⟨ne_i, ?_⟩)
        · -- 1
          show Go d 91 0 0 25 [.ref (ad 7 q), .int x, .int 1] [.int 1] (mm M f g) R
          refine go_if rfl (fun (z : (1 : Int32) = 0) => absurd z (show ¬ ((1 : Int32) = 0) from (by decide))) (fun _ => ?_)
          refine go_blk 2 [some (.int 1)] (pc' := 32) (vs' := [.ref (ad 7 q), .int x, .int 1]) (st' := [.int 1]) (M' := mm M f g) (ps := [ob (mm M f g) (ad 7 q) 9, (Value.int (f (ad 7 q) 7)) = .int 1]) rfl ⟨ho, congrArg Value.int hs7, trivial⟩ ?_
          refine go_if rfl (fun _ => ?_) (fun (z : ¬ (¬ (1 : Int32) = 0)) => absurd (show ¬ (1 : Int32) = 0 from (by decide)) z)
          refine go_blk 10 [some (.int (nI dg))] (pc' := 55) (vs' := [.ref (ad 7 q), .int x, .int 1]) (st' := [.int 1]) (M' := mm M (up2 (up2 f (ad 7 q) 6 ((nI dg) + 1)) (ad 7 q) 7 0) g) (ps := [(.ref (ad 7 q) : Value).category = 1, ob (mm M f g) (ad 7 q) 9, (Value.int (f (ad 7 q) 6)) = .int (nI dg), ob (mm M f g) (ad 7 q) 9, ob (mm M (up2 f (ad 7 q) 6 ((nI dg) + 1)) g) (ad 7 q) 9, 0 = 0 ∨ 0 = 1]) rfl ⟨rfl, ho, congrArg Value.int hs6, ho, ho, (Or.inl rfl), trivial⟩ ?_
          refine go_zret rfl rfl (Or.inr rfl) ?_
          refine h1 (p, dp, dg + 1, false) _ ?_ ⟨(((up2_n _ _ (fun z => absurd z.2 (by decide))).trans ((up2_n _ _ (fun z => absurd z.2 (by decide))).trans (rfl))).trans hs4), (((up2_n _ _ (fun z => absurd z.2 (by decide))).trans ((up2_n _ _ (fun z => absurd z.2 (by decide))).trans (rfl))).trans hs5), (((up2_n _ _ (fun z => absurd z.2 (by decide))).trans (up2_s _ _ _ _)).trans (nI_add dg 1)), (up2_s _ _ _ _)⟩ (fun b k hn => by rw [up2_n _ _ (fun z => hn ⟨z.1, by omega, by omega⟩), up2_n _ _ (fun z => hn ⟨z.1, by omega, by omega⟩)])
          clear h1 h0 hs4 hs5 hs6 hs7
          simp only [tStep]
          grind
        · -- 0
          show Go d 91 0 0 25 [.ref (ad 7 q), .int x, .int 1] [.int 0] (mm M f g) R
          refine go_if rfl (fun _ => ?_) (fun (z : ¬ ((0 : Int32) = 0)) => absurd (show (0 : Int32) = 0 from (by decide)) z)
          refine go_blk 5 [] (pc' := 64) (vs' := [.ref (ad 7 q), .int x, .int 1]) (st' := [.int 32, .int x]) (M' := mm M (up2 f (ad 7 q) 6 0) g) (ps := [ob (mm M f g) (ad 7 q) 9]) rfl ⟨ho, trivial⟩ ?_
          refine go_icmp rfl (fun (c12 : ¬ x = 32) => ?_) (fun (c12 : ¬ (¬ x = 32)) => ?_)
          · -- ¬ x = 32
            refine go_blk 2 [some (.int 1)] (pc' := 73) (vs' := [.ref (ad 7 q), .int x, .int 1]) (st' := [.int 1]) (M' := mm M (up2 f (ad 7 q) 6 0) g) (ps := [ob (mm M (up2 f (ad 7 q) 6 0) g) (ad 7 q) 9, (Value.int ((up2 f (ad 7 q) 6 0) (ad 7 q) 7)) = .int 1]) rfl ⟨ho, congrArg Value.int (((up2_n _ _ (fun z => absurd z.2 (by decide))).trans (rfl)).trans hs7), trivial⟩ ?_
            refine go_if rfl (fun (z : (1 : Int32) = 0) => absurd z (show ¬ ((1 : Int32) = 0) from (by decide))) (fun _ => ?_)
            refine go_blk 2 [] (pc' := 78) (vs' := [.ref (ad 7 q), .int x, .int 1]) (st' := [.int x, .ref (ad 7 q)]) (M' := mm M (up2 f (ad 7 q) 6 0) g) (ps := []) rfl trivial ?_
            refine go_callV rfl rfl rfl (by omega) rfl (by decide) (by decide) ho ?_
            show Go (d - 1) 92 0 0 0 [.ref (ad 7 q), .int x] [] (mm M (up2 f (ad 7 q) 6 0) g) _
            refine go_blk 2 [] (pc' := 3) (vs' := [.ref (ad 7 q), .int x]) (st' := [.int 40, .int x]) (M' := mm M (up2 f (ad 7 q) 6 0) g) (ps := []) rfl trivial ?_
            refine go_icmp rfl (fun (c13 : ¬ x = 40) => ?_) (fun (c13 : ¬ (¬ x = 40)) => ?_)
            · -- ¬ x = 40
              refine go_blk 4 [] (pc' := 33) (vs' := [.ref (ad 7 q), .int x]) (st' := [.int x]) (M' := mm M (up2 (up2 f (ad 7 q) 6 0) (ad 7 q) 7 0) g) (ps := [ob (mm M (up2 f (ad 7 q) 6 0) g) (ad 7 q) 9, 0 = 0 ∨ 0 = 1]) rfl ⟨ho, (Or.inl rfl), trivial⟩ ?_
              refine go_let rfl (by omega) (by decide) ?_
              rw [hx]
              show Go (d - 1) 92 0 0 36 [.ref (ad 7 q), .int x] [.int 0] (mm M (up2 (up2 f (ad 7 q) 6 0) (ad 7 q) 7 0) g) _
              refine go_zret rfl rfl (Or.inl rfl) ?_
              refine ⟨ne_i, ?_⟩
              show Go d 91 0 0 81 [.ref (ad 7 q), .int x, .int 1] [.int 0] (mm M (up2 (up2 f (ad 7 q) 6 0) (ad 7 q) 7 0) g) R
              refine go_blk 1 [] (pc' := 89) (vs' := [.ref (ad 7 q), .int x, .int 1]) (st' := [.int 0]) (M' := mm M (up2 (up2 f (ad 7 q) 6 0) (ad 7 q) 7 0) g) (ps := []) rfl trivial ?_
              refine go_zret rfl rfl (Or.inl rfl) ?_
              refine h0 _ ?_ (fun b k hn => by rw [up2_n _ _ (fun z => hn ⟨z.1, by omega, by omega⟩), up2_n _ _ (fun z => hn ⟨z.1, by omega, by omega⟩)])
              clear h1 h0 hs4 hs5 hs6 hs7
              simp only [tStep]
              grind
            · -- ¬ (¬ x = 40)
              refine go_blk 3 [some (.int (nI dp))] (pc' := 12) (vs' := [.ref (ad 7 q), .int x]) (st' := [.int 6, .int (nI dp)]) (M' := mm M (up2 f (ad 7 q) 6 0) g) (ps := [ob (mm M (up2 f (ad 7 q) 6 0) g) (ad 7 q) 9, (Value.int ((up2 f (ad 7 q) 6 0) (ad 7 q) 5)) = .int (nI dp)]) rfl ⟨ho, congrArg Value.int (((up2_n _ _ (fun z => absurd z.2 (by decide))).trans (rfl)).trans hs5), trivial⟩ ?_
              refine go_icmp rfl (fun (c14 : 6 ≤ (nI dp)) => ?_) (fun (c14 : ¬ (6 ≤ (nI dp))) => ?_)
              · -- 6 ≤ (nI dp)
                have nc14 : 6 ≤ dp := (nI_les (a := 6) (b := dp) (by omega) (by omega)).mp c14
                refine go_blk 4 [] (pc' := 33) (vs' := [.ref (ad 7 q), .int x]) (st' := [.int x]) (M' := mm M (up2 (up2 f (ad 7 q) 6 0) (ad 7 q) 7 0) g) (ps := [ob (mm M (up2 f (ad 7 q) 6 0) g) (ad 7 q) 9, 0 = 0 ∨ 0 = 1]) rfl ⟨ho, (Or.inl rfl), trivial⟩ ?_
                refine go_let rfl (by omega) (by decide) ?_
                rw [hx]
                show Go (d - 1) 92 0 0 36 [.ref (ad 7 q), .int x] [.int 0] (mm M (up2 (up2 f (ad 7 q) 6 0) (ad 7 q) 7 0) g) _
                refine go_zret rfl rfl (Or.inl rfl) ?_
                refine ⟨ne_i, ?_⟩
                show Go d 91 0 0 81 [.ref (ad 7 q), .int x, .int 1] [.int 0] (mm M (up2 (up2 f (ad 7 q) 6 0) (ad 7 q) 7 0) g) R
                refine go_blk 1 [] (pc' := 89) (vs' := [.ref (ad 7 q), .int x, .int 1]) (st' := [.int 0]) (M' := mm M (up2 (up2 f (ad 7 q) 6 0) (ad 7 q) 7 0) g) (ps := []) rfl trivial ?_
                refine go_zret rfl rfl (Or.inl rfl) ?_
                refine h0 _ ?_ (fun b k hn => by rw [up2_n _ _ (fun z => hn ⟨z.1, by omega, by omega⟩), up2_n _ _ (fun z => hn ⟨z.1, by omega, by omega⟩)])
                clear h1 h0 hs4 hs5 hs6 hs7
                simp only [tStep]
                grind
              · -- ¬ (6 ≤ (nI dp))
                have nc14 : dp < 6 := (nI_lts (a := dp) (b := 6) (by omega) (by omega)).mp (Int32.not_le.mp c14)
                refine go_blk 7 [some (.int (nI dp))] (pc' := 26) (vs' := [.ref (ad 7 q), .int x]) (st' := [.int 1]) (M' := mm M (up2 (up2 f (ad 7 q) 6 0) (ad 7 q) 5 ((nI dp) + 1)) g) (ps := [(.ref (ad 7 q) : Value).category = 1, ob (mm M (up2 f (ad 7 q) 6 0) g) (ad 7 q) 9, (Value.int ((up2 f (ad 7 q) 6 0) (ad 7 q) 5)) = .int (nI dp), ob (mm M (up2 f (ad 7 q) 6 0) g) (ad 7 q) 9]) rfl ⟨rfl, ho, congrArg Value.int (((up2_n _ _ (fun z => absurd z.2 (by decide))).trans (rfl)).trans hs5), ho, trivial⟩ ?_
                refine go_zret rfl rfl (Or.inr rfl) ?_
                refine ⟨ne_i, ?_⟩
                show Go d 91 0 0 81 [.ref (ad 7 q), .int x, .int 1] [.int 1] (mm M (up2 (up2 f (ad 7 q) 6 0) (ad 7 q) 5 ((nI dp) + 1)) g) R
                refine go_blk 1 [] (pc' := 89) (vs' := [.ref (ad 7 q), .int x, .int 1]) (st' := [.int 1]) (M' := mm M (up2 (up2 f (ad 7 q) 6 0) (ad 7 q) 5 ((nI dp) + 1)) g) (ps := []) rfl trivial ?_
                refine go_zret rfl rfl (Or.inr rfl) ?_
                refine h1 (p, dp + 1, 0, true) _ ?_ ⟨(((up2_n _ _ (fun z => absurd z.2 (by decide))).trans ((up2_n _ _ (fun z => absurd z.2 (by decide))).trans (rfl))).trans hs4), ((up2_s _ _ _ _).trans (nI_add dp 1)), ((up2_n _ _ (fun z => absurd z.2 (by decide))).trans (up2_s _ _ _ _)), (((up2_n _ _ (fun z => absurd z.2 (by decide))).trans ((up2_n _ _ (fun z => absurd z.2 (by decide))).trans (rfl))).trans hs7)⟩ (fun b k hn => by rw [up2_n _ _ (fun z => hn ⟨z.1, by omega, by omega⟩), up2_n _ _ (fun z => hn ⟨z.1, by omega, by omega⟩)])
                clear h1 h0 hs4 hs5 hs6 hs7
                simp only [tStep]
                grind
          · -- ¬ (¬ x = 32)
            refine go_blk 1 [] (pc' := 68) (vs' := [.ref (ad 7 q), .int x, .int 1]) (st' := [.int 1]) (M' := mm M (up2 f (ad 7 q) 6 0) g) (ps := []) rfl trivial ?_
            refine go_zret rfl rfl (Or.inr rfl) ?_
            refine h1 (p, dp, 0, true) _ ?_ ⟨(((up2_n _ _ (fun z => absurd z.2 (by decide))).trans (rfl)).trans hs4), (((up2_n _ _ (fun z => absurd z.2 (by decide))).trans (rfl)).trans hs5), (up2_s _ _ _ _), (((up2_n _ _ (fun z => absurd z.2 (by decide))).trans (rfl)).trans hs7)⟩ (fun b k hn => by rw [up2_n _ _ (fun z => hn ⟨z.1, by omega, by omega⟩)])
            clear h1 h0 hs4 hs5 hs6 hs7
            simp only [tStep]
            grind
  · replace hx : letV x = 1 := hx
    replace hs7 : f (ad 7 q) 7 = 0 := hs7
    show Go d 91 0 0 0 [.ref (ad 7 q), .int x, .retAddr 0] [] (mm M f g) R
    refine go_blk 2 [some (.int (nI dg))] (pc' := 4) (vs' := [.ref (ad 7 q), .int x, .retAddr 0]) (st' := [.int (nI dg)]) (M' := mm M f g) (ps := [ob (mm M f g) (ad 7 q) 9, (Value.int (f (ad 7 q) 6)) = .int (nI dg)]) rfl ⟨ho, congrArg Value.int hs6, trivial⟩ ?_
    refine go_if rfl (fun (c1 : (nI dg) ≤ 0) => ?_) (fun (c1 : ¬ ((nI dg) ≤ 0)) => ?_)
    · -- (nI dg) ≤ 0
      have nc1 : dg ≤ 0 := (nI_les (a := dg) (b := 0) (by omega) (by omega)).mp c1
      refine go_blk 3 [] (pc' := 22) (vs' := [.ref (ad 7 q), .int x, .int 0]) (st' := [.int x]) (M' := mm M f g) (ps := []) rfl trivial ?_
      refine go_callS rfl (by decide) rfl rfl (by omega) rfl (by decide) (by decide) ?_
      refine s_Tx_isDigit (by omega) (fun c2 => ⟨ne_i, ?_⟩) (fun c2 => ⟨ne_i, ?_⟩)
      · -- 1
        show Go d 91 0 0 25 [.ref (ad 7 q), .int x, .int 0] [.int 1] (mm M f g) R
        refine go_if rfl (fun (z : (1 : Int32) = 0) => absurd z (show ¬ ((1 : Int32) = 0) from (by decide))) (fun _ => ?_)
        refine go_blk 2 [some (.int 0)] (pc' := 32) (vs' := [.ref (ad 7 q), .int x, .int 0]) (st' := [.int 0]) (M' := mm M f g) (ps := [ob (mm M f g) (ad 7 q) 9, (Value.int (f (ad 7 q) 7)) = .int 0]) rfl ⟨ho, congrArg Value.int hs7, trivial⟩ ?_
        refine go_if rfl (fun (z : ¬ (0 : Int32) = 0) => absurd z (show ¬ (¬ (0 : Int32) = 0) from (by decide))) (fun _ => ?_)
        refine go_blk 1 [] (pc' := 36) (vs' := [.ref (ad 7 q), .int x, .int 0]) (st' := [.int 0]) (M' := mm M f g) (ps := []) rfl trivial ?_
        refine go_if rfl (fun _ => ?_) (fun (z : ¬ ((0 : Int32) = 0)) => absurd (show (0 : Int32) = 0 from (by decide)) z)
        refine go_blk 5 [] (pc' := 64) (vs' := [.ref (ad 7 q), .int x, .int 0]) (st' := [.int 32, .int x]) (M' := mm M (up2 f (ad 7 q) 6 0) g) (ps := [ob (mm M f g) (ad 7 q) 9]) rfl ⟨ho, trivial⟩ ?_
        refine go_icmp rfl (fun (c3 : ¬ x = 32) => ?_) (fun (c3 : ¬ (¬ x = 32)) => ?_)
        · -- ¬ x = 32
          refine go_blk 2 [some (.int 0)] (pc' := 73) (vs' := [.ref (ad 7 q), .int x, .int 0]) (st' := [.int 0]) (M' := mm M (up2 f (ad 7 q) 6 0) g) (ps := [ob (mm M (up2 f (ad 7 q) 6 0) g) (ad 7 q) 9, (Value.int ((up2 f (ad 7 q) 6 0) (ad 7 q) 7)) = .int 0]) rfl ⟨ho, congrArg Value.int (((up2_n _ _ (fun z => absurd z.2 (by decide))).trans (rfl)).trans hs7), trivial⟩ ?_
          refine go_if rfl (fun _ => ?_) (fun (z : ¬ ((0 : Int32) = 0)) => absurd (show (0 : Int32) = 0 from (by decide)) z)
          refine go_blk 2 [] (pc' := 86) (vs' := [.ref (ad 7 q), .int x, .int 0]) (st' := [.int x, .ref (ad 7 q)]) (M' := mm M (up2 f (ad 7 q) 6 0) g) (ps := []) rfl trivial ?_
          refine go_callV rfl rfl rfl (by omega) rfl (by decide) (by decide) ho ?_
          show Go (d - 1) 93 0 0 0 [.ref (ad 7 q), .int x] [] (mm M (up2 f (ad 7 q) 6 0) g) _
          refine go_blk 2 [some (.int (nI dp))] (pc' := 4) (vs' := [.ref (ad 7 q), .int x]) (st' := [.int (nI dp)]) (M' := mm M (up2 f (ad 7 q) 6 0) g) (ps := [ob (mm M (up2 f (ad 7 q) 6 0) g) (ad 7 q) 9, (Value.int ((up2 f (ad 7 q) 6 0) (ad 7 q) 5)) = .int (nI dp)]) rfl ⟨ho, congrArg Value.int (((up2_n _ _ (fun z => absurd z.2 (by decide))).trans (rfl)).trans hs5), trivial⟩ ?_
          refine go_if rfl (fun (c4 : (nI dp) ≤ 0) => ?_) (fun (c4 : ¬ ((nI dp) ≤ 0)) => ?_)
          · -- (nI dp) ≤ 0
            have nc4 : dp ≤ 0 := (nI_les (a := dp) (b := 0) (by omega) (by omega)).mp c4
            refine go_blk 4 [] (pc' := 31) (vs' := [.ref (ad 7 q), .int x]) (st' := [.int x]) (M' := mm M (up2 (up2 f (ad 7 q) 6 0) (ad 7 q) 7 1) g) (ps := [ob (mm M (up2 f (ad 7 q) 6 0) g) (ad 7 q) 9, 1 = 0 ∨ 1 = 1]) rfl ⟨ho, (Or.inr rfl), trivial⟩ ?_
            refine go_callS rfl (by decide) rfl rfl (by omega) rfl (by decide) (by decide) ?_
            refine s_Tx_isPlusOrMinus (by omega) (fun c5 => ⟨ne_i, ?_⟩) (fun c5 => ⟨ne_i, ?_⟩)
            · -- 1
              show Go (d - 1) 93 0 0 34 [.ref (ad 7 q), .int x] [.int 1] (mm M (up2 (up2 f (ad 7 q) 6 0) (ad 7 q) 7 1) g) _
              refine go_if rfl (fun _ => ?_) (fun (z : ¬ (¬ (1 : Int32) = 0)) => absurd (show ¬ (1 : Int32) = 0 from (by decide)) z)
              refine go_blk 1 [] (pc' := 45) (vs' := [.ref (ad 7 q), .int x]) (st' := [.int 1]) (M' := mm M (up2 (up2 f (ad 7 q) 6 0) (ad 7 q) 7 1) g) (ps := []) rfl trivial ?_
              refine go_zret rfl rfl (Or.inr rfl) ?_
              refine ⟨ne_i, ?_⟩
              show Go d 91 0 0 89 [.ref (ad 7 q), .int x, .int 0] [.int 1] (mm M (up2 (up2 f (ad 7 q) 6 0) (ad 7 q) 7 1) g) R
              refine go_zret rfl rfl (Or.inr rfl) ?_
              refine h1 (p, dp, 0, true) _ ?_ ⟨(((up2_n _ _ (fun z => absurd z.2 (by decide))).trans ((up2_n _ _ (fun z => absurd z.2 (by decide))).trans (rfl))).trans hs4), (((up2_n _ _ (fun z => absurd z.2 (by decide))).trans ((up2_n _ _ (fun z => absurd z.2 (by decide))).trans (rfl))).trans hs5), ((up2_n _ _ (fun z => absurd z.2 (by decide))).trans (up2_s _ _ _ _)), (up2_s _ _ _ _)⟩ (fun b k hn => by rw [up2_n _ _ (fun z => hn ⟨z.1, by omega, by omega⟩), up2_n _ _ (fun z => hn ⟨z.1, by omega, by omega⟩)])
              clear h1 h0 hs4 hs5 hs6 hs7
              simp only [tStep]
              grind
            · -- 0
              show Go (d - 1) 93 0 0 34 [.ref (ad 7 q), .int x] [.int 0] (mm M (up2 (up2 f (ad 7 q) 6 0) (ad 7 q) 7 1) g) _
              refine go_if rfl (fun (z : ¬ (0 : Int32) = 0) => absurd z (show ¬ (¬ (0 : Int32) = 0) from (by decide))) (fun _ => ?_)
              refine go_blk 1 [] (pc' := 38) (vs' := [.ref (ad 7 q), .int x]) (st' := [.int x]) (M' := mm M (up2 (up2 f (ad 7 q) 6 0) (ad 7 q) 7 1) g) (ps := []) rfl trivial ?_
              refine go_callS rfl (by decide) rfl rfl (by omega) rfl (by decide) (by decide) ?_
              refine s_Tx_isTimesOrBy (by omega) (fun c6 => ⟨ne_i, ?_⟩) (fun c6 => ⟨ne_i, ?_⟩)
              · -- 1
                show Go (d - 1) 93 0 0 41 [.ref (ad 7 q), .int x] [.int 1] (mm M (up2 (up2 f (ad 7 q) 6 0) (ad 7 q) 7 1) g) _
                refine go_if rfl (fun (z : (1 : Int32) = 0) => absurd z (show ¬ ((1 : Int32) = 0) from (by decide))) (fun _ => ?_)
                refine go_blk 1 [] (pc' := 45) (vs' := [.ref (ad 7 q), .int x]) (st' := [.int 1]) (M' := mm M (up2 (up2 f (ad 7 q) 6 0) (ad 7 q) 7 1) g) (ps := []) rfl trivial ?_
                refine go_zret rfl rfl (Or.inr rfl) ?_
                refine ⟨ne_i, ?_⟩
                show Go d 91 0 0 89 [.ref (ad 7 q), .int x, .int 0] [.int 1] (mm M (up2 (up2 f (ad 7 q) 6 0) (ad 7 q) 7 1) g) R
                refine go_zret rfl rfl (Or.inr rfl) ?_
                refine h1 (p, dp, 0, true) _ ?_ ⟨(((up2_n _ _ (fun z => absurd z.2 (by decide))).trans ((up2_n _ _ (fun z => absurd z.2 (by decide))).trans (rfl))).trans hs4), (((up2_n _ _ (fun z => absurd z.2 (by decide))).trans ((up2_n _ _ (fun z => absurd z.2 (by decide))).trans (rfl))).trans hs5), ((up2_n _ _ (fun z => absurd z.2 (by decide))).trans (up2_s _ _ _ _)), (up2_s _ _ _ _)⟩ (fun b k hn => by rw [up2_n _ _ (fun z => hn ⟨z.1, by omega, by omega⟩), up2_n _ _ (fun z => hn ⟨z.1, by omega, by omega⟩)])
                clear h1 h0 hs4 hs5 hs6 hs7
                simp only [tStep]
                grind
              · -- 0
                show Go (d - 1) 93 0 0 41 [.ref (ad 7 q), .int x] [.int 0] (mm M (up2 (up2 f (ad 7 q) 6 0) (ad 7 q) 7 1) g) _
                refine go_if rfl (fun _ => ?_) (fun (z : ¬ ((0 : Int32) = 0)) => absurd (show (0 : Int32) = 0 from (by decide)) z)
                refine go_blk 3 [some (.int (nI dp))] (pc' := 51) (vs' := [.ref (ad 7 q), .int x]) (st' := [.int (nI dp), .ref (ad 7 q)]) (M' := mm M (up2 (up2 f (ad 7 q) 6 0) (ad 7 q) 7 1) g) (ps := [ob (mm M (up2 (up2 f (ad 7 q) 6 0) (ad 7 q) 7 1) g) (ad 7 q) 9, (Value.int ((up2 (up2 f (ad 7 q) 6 0) (ad 7 q) 7 1) (ad 7 q) 5)) = .int (nI dp)]) rfl ⟨ho, congrArg Value.int (((up2_n _ _ (fun z => absurd z.2 (by decide))).trans ((up2_n _ _ (fun z => absurd z.2 (by decide))).trans (rfl))).trans hs5), trivial⟩ ?_
                refine go_if rfl (fun _ => ?_) (fun (z : ¬ ((nI dp) ≤ 0)) => absurd (show (nI dp) ≤ 0 from c4) z)
                refine go_blk 3 [some (.int (nI p))] (pc' := 63) (vs' := [.ref (ad 7 q), .int x]) (st' := [.int x, .int (nI p), .ref (ad 7 q)]) (M' := mm M (up2 (up2 f (ad 7 q) 6 0) (ad 7 q) 7 1) g) (ps := [ob (mm M (up2 (up2 f (ad 7 q) 6 0) (ad 7 q) 7 1) g) (ad 7 q) 9, (Value.int ((up2 (up2 f (ad 7 q) 6 0) (ad 7 q) 7 1) (ad 7 q) 4)) = .int (nI p)]) rfl ⟨ho, congrArg Value.int (((up2_n _ _ (fun z => absurd z.2 (by decide))).trans ((up2_n _ _ (fun z => absurd z.2 (by decide))).trans (rfl))).trans hs4), trivial⟩ ?_
                refine go_callS rfl (by decide) rfl rfl (by omega) rfl (by decide) (by decide) ?_
                refine s_Tx_partBehind (by omega) k1 ⟨ne_i, ?_⟩
                show Go (d - 1) 93 0 0 66 [.ref (ad 7 q), .int x] [.int (pBI p x), .ref (ad 7 q)] (mm M (up2 (up2 f (ad 7 q) 6 0) (ad 7 q) 7 1) g) _
                refine go_blk 4 [some (.int (pBI p x))] (pc' := 74) (vs' := [.ref (ad 7 q), .int x]) (st' := [.int (-1), .int (pBI p x)]) (M' := mm M (up2 (up2 (up2 f (ad 7 q) 6 0) (ad 7 q) 7 1) (ad 7 q) 4 (pBI p x)) g) (ps := [ob (mm M (up2 (up2 f (ad 7 q) 6 0) (ad 7 q) 7 1) g) (ad 7 q) 9, ob (mm M (up2 (up2 (up2 f (ad 7 q) 6 0) (ad 7 q) 7 1) (ad 7 q) 4 (pBI p x)) g) (ad 7 q) 9, (Value.int ((up2 (up2 (up2 f (ad 7 q) 6 0) (ad 7 q) 7 1) (ad 7 q) 4 (pBI p x)) (ad 7 q) 4)) = .int (pBI p x)]) rfl ⟨ho, ho, congrArg Value.int (up2_s _ _ _ _), trivial⟩ ?_
                refine go_icmp rfl (fun (c7 : (pBI p x) = (-1)) => ?_) (fun (c7 : ¬ ((pBI p x) = (-1))) => ?_)
                · -- (pBI p x) = (-1)
                  refine go_blk 1 [] (pc' := 82) (vs' := [.ref (ad 7 q), .int x]) (st' := [.int 0]) (M' := mm M (up2 (up2 (up2 f (ad 7 q) 6 0) (ad 7 q) 7 1) (ad 7 q) 4 (pBI p x)) g) (ps := []) rfl trivial ?_
                  refine go_zret rfl rfl (Or.inl rfl) ?_
                  refine ⟨ne_i, ?_⟩
                  show Go d 91 0 0 89 [.ref (ad 7 q), .int x, .int 0] [.int 0] (mm M (up2 (up2 (up2 f (ad 7 q) 6 0) (ad 7 q) 7 1) (ad 7 q) 4 (pBI p x)) g) R
                  refine go_zret rfl rfl (Or.inl rfl) ?_
                  have hpb := pBI_m1 c7
                  refine h0 _ ?_ (fun b k hn => by rw [up2_n _ _ (fun z => hn ⟨z.1, by omega, by omega⟩), up2_n _ _ (fun z => hn ⟨z.1, by omega, by omega⟩), up2_n _ _ (fun z => hn ⟨z.1, by omega, by omega⟩)])
                  clear h1 h0 hs4 hs5 hs6 hs7
                  simp only [tStep]
                  grind
                · -- ¬ ((pBI p x) = (-1))
                  refine go_blk 2 [] (pc' := 82) (vs' := [.ref (ad 7 q), .int x]) (st' := [.int 1]) (M' := mm M (up2 (up2 (up2 f (ad 7 q) 6 0) (ad 7 q) 7 1) (ad 7 q) 4 (pBI p x)) g) (ps := []) rfl trivial ?_
                  refine go_zret rfl rfl (Or.inr rfl) ?_
                  refine ⟨ne_i, ?_⟩
                  show Go d 91 0 0 89 [.ref (ad 7 q), .int x, .int 0] [.int 1] (mm M (up2 (up2 (up2 f (ad 7 q) 6 0) (ad 7 q) 7 1) (ad 7 q) 4 (pBI p x)) g) R
                  refine go_zret rfl rfl (Or.inr rfl) ?_
                  obtain ⟨kk, hpb, hpc⟩ := pBI_k c7
                  refine h1 (kk, dp, 0, true) _ ?_ ⟨((up2_s _ _ _ _).trans hpc), (((up2_n _ _ (fun z => absurd z.2 (by decide))).trans ((up2_n _ _ (fun z => absurd z.2 (by decide))).trans ((up2_n _ _ (fun z => absurd z.2 (by decide))).trans (rfl)))).trans hs5), ((up2_n _ _ (fun z => absurd z.2 (by decide))).trans ((up2_n _ _ (fun z => absurd z.2 (by decide))).trans (up2_s _ _ _ _))), ((up2_n _ _ (fun z => absurd z.2 (by decide))).trans (up2_s _ _ _ _))⟩ (fun b k hn => by rw [up2_n _ _ (fun z => hn ⟨z.1, by omega, by omega⟩), up2_n _ _ (fun z => hn ⟨z.1, by omega, by omega⟩), up2_n _ _ (fun z => hn ⟨z.1, by omega, by omega⟩)])
                  clear h1 h0 hs4 hs5 hs6 hs7
                  simp only [tStep]
                  grind
          · -- ¬ ((nI dp) ≤ 0)
            have nc4 : 0 < dp := (nI_lts (a := 0) (b := dp) (by omega) (by omega)).mp (Int32.not_le.mp c4)
            refine go_blk 2 [] (pc' := 10) (vs' := [.ref (ad 7 q), .int x]) (st' := [.int 41, .int x]) (M' := mm M (up2 f (ad 7 q) 6 0) g) (ps := []) rfl trivial ?_
            refine go_icmp rfl (fun (c8 : ¬ x = 41) => ?_) (fun (c8 : ¬ (¬ x = 41)) => ?_)
            · -- ¬ x = 41
              refine go_blk 4 [] (pc' := 31) (vs' := [.ref (ad 7 q), .int x]) (st' := [.int x]) (M' := mm M (up2 (up2 f (ad 7 q) 6 0) (ad 7 q) 7 1) g) (ps := [ob (mm M (up2 f (ad 7 q) 6 0) g) (ad 7 q) 9, 1 = 0 ∨ 1 = 1]) rfl ⟨ho, (Or.inr rfl), trivial⟩ ?_
              refine go_callS rfl (by decide) rfl rfl (by omega) rfl (by decide) (by decide) ?_
              refine s_Tx_isPlusOrMinus (by omega) (fun c9 => ⟨ne_i, ?_⟩) (fun c9 => ⟨ne_i, ?_⟩)
              · -- 1
                show Go (d - 1) 93 0 0 34 [.ref (ad 7 q), .int x] [.int 1] (mm M (up2 (up2 f (ad 7 q) 6 0) (ad 7 q) 7 1) g) _
                refine go_if rfl (fun _ => ?_) (fun (z : ¬ (¬ (1 : Int32) = 0)) => absurd (show ¬ (1 : Int32) = 0 from (by decide)) z)
                refine go_blk 1 [] (pc' := 45) (vs' := [.ref (ad 7 q), .int x]) (st' := [.int 1]) (M' := mm M (up2 (up2 f (ad 7 q) 6 0) (ad 7 q) 7 1) g) (ps := []) rfl trivial ?_
                refine go_zret rfl rfl (Or.inr rfl) ?_
                refine ⟨ne_i, ?_⟩
                show Go d 91 0 0 89 [.ref (ad 7 q), .int x, .int 0] [.int 1] (mm M (up2 (up2 f (ad 7 q) 6 0) (ad 7 q) 7 1) g) R
                refine go_zret rfl rfl (Or.inr rfl) ?_
                refine h1 (p, dp, 0, true) _ ?_ ⟨(((up2_n _ _ (fun z => absurd z.2 (by decide))).trans ((up2_n _ _ (fun z => absurd z.2 (by decide))).trans (rfl))).trans hs4), (((up2_n _ _ (fun z => absurd z.2 (by decide))).trans ((up2_n _ _ (fun z => absurd z.2 (by decide))).trans (rfl))).trans hs5), ((up2_n _ _ (fun z => absurd z.2 (by decide))).trans (up2_s _ _ _ _)), (up2_s _ _ _ _)⟩ (fun b k hn => by rw [up2_n _ _ (fun z => hn ⟨z.1, by omega, by omega⟩), up2_n _ _ (fun z => hn ⟨z.1, by omega, by omega⟩)])
                clear h1 h0 hs4 hs5 hs6 hs7
                simp only [tStep]
                grind
              · -- 0
                show Go (d - 1) 93 0 0 34 [.ref (ad 7 q), .int x] [.int 0] (mm M (up2 (up2 f (ad 7 q) 6 0) (ad 7 q) 7 1) g) _
                refine go_if rfl (fun (z : ¬ (0 : Int32) = 0) => absurd z (show ¬ (¬ (0 : Int32) = 0) from (by decide))) (fun _ => ?_)
                refine go_blk 1 [] (pc' := 38) (vs' := [.ref (ad 7 q), .int x]) (st' := [.int x]) (M' := mm M (up2 (up2 f (ad 7 q) 6 0) (ad 7 q) 7 1) g) (ps := []) rfl trivial ?_
                refine go_callS rfl (by decide) rfl rfl (by omega) rfl (by decide) (by decide) ?_
                refine s_Tx_isTimesOrBy (by omega) (fun c10 => ⟨ne_i, ?_⟩) (fun c10 => ⟨ne_i, ?_⟩)
                · -- 1
                  show Go (d - 1) 93 0 0 41 [.ref (ad 7 q), .int x] [.int 1] (mm M (up2 (up2 f (ad 7 q) 6 0) (ad 7 q) 7 1) g) _
                  refine go_if rfl (fun (z : (1 : Int32) = 0) => absurd z (show ¬ ((1 : Int32) = 0) from (by decide))) (fun _ => ?_)
                  refine go_blk 1 [] (pc' := 45) (vs' := [.ref (ad 7 q), .int x]) (st' := [.int 1]) (M' := mm M (up2 (up2 f (ad 7 q) 6 0) (ad 7 q) 7 1) g) (ps := []) rfl trivial ?_
                  refine go_zret rfl rfl (Or.inr rfl) ?_
                  refine ⟨ne_i, ?_⟩
                  show Go d 91 0 0 89 [.ref (ad 7 q), .int x, .int 0] [.int 1] (mm M (up2 (up2 f (ad 7 q) 6 0) (ad 7 q) 7 1) g) R
                  refine go_zret rfl rfl (Or.inr rfl) ?_
                  refine h1 (p, dp, 0, true) _ ?_ ⟨(((up2_n _ _ (fun z => absurd z.2 (by decide))).trans ((up2_n _ _ (fun z => absurd z.2 (by decide))).trans (rfl))).trans hs4), (((up2_n _ _ (fun z => absurd z.2 (by decide))).trans ((up2_n _ _ (fun z => absurd z.2 (by decide))).trans (rfl))).trans hs5), ((up2_n _ _ (fun z => absurd z.2 (by decide))).trans (up2_s _ _ _ _)), (up2_s _ _ _ _)⟩ (fun b k hn => by rw [up2_n _ _ (fun z => hn ⟨z.1, by omega, by omega⟩), up2_n _ _ (fun z => hn ⟨z.1, by omega, by omega⟩)])
                  clear h1 h0 hs4 hs5 hs6 hs7
                  simp only [tStep]
                  grind
                · -- 0
                  show Go (d - 1) 93 0 0 41 [.ref (ad 7 q), .int x] [.int 0] (mm M (up2 (up2 f (ad 7 q) 6 0) (ad 7 q) 7 1) g) _
                  refine go_if rfl (fun _ => ?_) (fun (z : ¬ ((0 : Int32) = 0)) => absurd (show (0 : Int32) = 0 from (by decide)) z)
                  refine go_blk 3 [some (.int (nI dp))] (pc' := 51) (vs' := [.ref (ad 7 q), .int x]) (st' := [.int (nI dp), .ref (ad 7 q)]) (M' := mm M (up2 (up2 f (ad 7 q) 6 0) (ad 7 q) 7 1) g) (ps := [ob (mm M (up2 (up2 f (ad 7 q) 6 0) (ad 7 q) 7 1) g) (ad 7 q) 9, (Value.int ((up2 (up2 f (ad 7 q) 6 0) (ad 7 q) 7 1) (ad 7 q) 5)) = .int (nI dp)]) rfl ⟨ho, congrArg Value.int (((up2_n _ _ (fun z => absurd z.2 (by decide))).trans ((up2_n _ _ (fun z => absurd z.2 (by decide))).trans (rfl))).trans hs5), trivial⟩ ?_
                  refine go_if rfl (fun (z : (nI dp) ≤ 0) => absurd z (show ¬ ((nI dp) ≤ 0) from c4)) (fun _ => ?_)
                  refine go_blk 6 [some (.int (-1))] (pc' := 74) (vs' := [.ref (ad 7 q), .int x]) (st' := [.int (-1), .int (-1)]) (M' := mm M (up2 (up2 (up2 f (ad 7 q) 6 0) (ad 7 q) 7 1) (ad 7 q) 4 (-1)) g) (ps := [ob (mm M (up2 (up2 f (ad 7 q) 6 0) (ad 7 q) 7 1) g) (ad 7 q) 9, ob (mm M (up2 (up2 (up2 f (ad 7 q) 6 0) (ad 7 q) 7 1) (ad 7 q) 4 (-1)) g) (ad 7 q) 9, (Value.int ((up2 (up2 (up2 f (ad 7 q) 6 0) (ad 7 q) 7 1) (ad 7 q) 4 (-1)) (ad 7 q) 4)) = .int (-1)]) rfl ⟨ho, ho, congrArg Value.int (up2_s _ _ _ _), trivial⟩ ?_
                  refine go_icmp rfl (fun _ => ?_) (fun (z : ¬ (((-1) : Int32) = (-1))) => absurd (show ((-1) : Int32) = (-1) from (by decide)) z)
                  refine go_blk 1 [] (pc' := 82) (vs' := [.ref (ad 7 q), .int x]) (st' := [.int 0]) (M' := mm M (up2 (up2 (up2 f (ad 7 q) 6 0) (ad 7 q) 7 1) (ad 7 q) 4 (-1)) g) (ps := []) rfl trivial ?_
                  refine go_zret rfl rfl (Or.inl rfl) ?_
                  refine ⟨ne_i, ?_⟩
                  show Go d 91 0 0 89 [.ref (ad 7 q), .int x, .int 0] [.int 0] (mm M (up2 (up2 (up2 f (ad 7 q) 6 0) (ad 7 q) 7 1) (ad 7 q) 4 (-1)) g) R
                  refine go_zret rfl rfl (Or.inl rfl) ?_
                  refine h0 _ ?_ (fun b k hn => by rw [up2_n _ _ (fun z => hn ⟨z.1, by omega, by omega⟩), up2_n _ _ (fun z => hn ⟨z.1, by omega, by omega⟩), up2_n _ _ (fun z => hn ⟨z.1, by omega, by omega⟩)])
                  clear h1 h0 hs4 hs5 hs6 hs7
                  simp only [tStep]
                  grind
            · -- ¬ (¬ x = 41)
              refine go_blk 7 [some (.int (nI dp))] (pc' := 24) (vs' := [.ref (ad 7 q), .int x]) (st' := [.int 1]) (M' := mm M (up2 (up2 f (ad 7 q) 6 0) (ad 7 q) 5 ((nI dp) - 1)) g) (ps := [(.ref (ad 7 q) : Value).category = 1, ob (mm M (up2 f (ad 7 q) 6 0) g) (ad 7 q) 9, (Value.int ((up2 f (ad 7 q) 6 0) (ad 7 q) 5)) = .int (nI dp), ob (mm M (up2 f (ad 7 q) 6 0) g) (ad 7 q) 9]) rfl ⟨rfl, ho, congrArg Value.int (((up2_n _ _ (fun z => absurd z.2 (by decide))).trans (rfl)).trans hs5), ho, trivial⟩ ?_
              refine go_zret rfl rfl (Or.inr rfl) ?_
              refine ⟨ne_i, ?_⟩
              show Go d 91 0 0 89 [.ref (ad 7 q), .int x, .int 0] [.int 1] (mm M (up2 (up2 f (ad 7 q) 6 0) (ad 7 q) 5 ((nI dp) - 1)) g) R
              refine go_zret rfl rfl (Or.inr rfl) ?_
              refine h1 (p, dp - 1, 0, false) _ ?_ ⟨(((up2_n _ _ (fun z => absurd z.2 (by decide))).trans ((up2_n _ _ (fun z => absurd z.2 (by decide))).trans (rfl))).trans hs4), ((up2_s _ _ _ _).trans (pk_sub (a := dp) (b := 1) (by omega))), ((up2_n _ _ (fun z => absurd z.2 (by decide))).trans (up2_s _ _ _ _)), (((up2_n _ _ (fun z => absurd z.2 (by decide))).trans ((up2_n _ _ (fun z => absurd z.2 (by decide))).trans (rfl))).trans hs7)⟩ (fun b k hn => by rw [up2_n _ _ (fun z => hn ⟨z.1, by omega, by omega⟩), up2_n _ _ (fun z => hn ⟨z.1, by omega, by omega⟩)])
              clear h1 h0 hs4 hs5 hs6 hs7
              simp only [tStep]
              grind
        · -- ¬ (¬ x = 32)
          refine go_blk 1 [] (pc' := 68) (vs' := [.ref (ad 7 q), .int x, .int 0]) (st' := [.int 1]) (M' := mm M (up2 f (ad 7 q) 6 0) g) (ps := []) rfl trivial ?_
          refine go_zret rfl rfl (Or.inr rfl) ?_
          refine h1 (p, dp, 0, false) _ ?_ ⟨(((up2_n _ _ (fun z => absurd z.2 (by decide))).trans (rfl)).trans hs4), (((up2_n _ _ (fun z => absurd z.2 (by decide))).trans (rfl)).trans hs5), (up2_s _ _ _ _), (((up2_n _ _ (fun z => absurd z.2 (by decide))).trans (rfl)).trans hs7)⟩ (fun b k hn => by rw [up2_n _ _ (fun z => hn ⟨z.1, by omega, by omega⟩)])
          clear h1 h0 hs4 hs5 hs6 hs7
          simp only [tStep]
          grind
      · -- 0
        show Go d 91 0 0 25 [.ref (ad 7 q), .int x, .int 0] [.int 0] (mm M f g) R
        refine go_if rfl (fun _ => ?_) (fun (z : ¬ ((0 : Int32) = 0)) => absurd (show (0 : Int32) = 0 from (by decide)) z)
        refine go_blk 5 [] (pc' := 64) (vs' := [.ref (ad 7 q), .int x, .int 0]) (st' := [.int 32, .int x]) (M' := mm M (up2 f (ad 7 q) 6 0) g) (ps := [ob (mm M f g) (ad 7 q) 9]) rfl ⟨ho, trivial⟩ ?_
        refine go_icmp rfl (fun (c11 : ¬ x = 32) => ?_) (fun (c11 : ¬ (¬ x = 32)) => ?_)
        · -- ¬ x = 32
          refine go_blk 2 [some (.int 0)] (pc' := 73) (vs' := [.ref (ad 7 q), .int x, .int 0]) (st' := [.int 0]) (M' := mm M (up2 f (ad 7 q) 6 0) g) (ps := [ob (mm M (up2 f (ad 7 q) 6 0) g) (ad 7 q) 9, (Value.int ((up2 f (ad 7 q) 6 0) (ad 7 q) 7)) = .int 0]) rfl ⟨ho, congrArg Value.int (((up2_n _ _ (fun z => absurd z.2 (by decide))).trans (rfl)).trans hs7), trivial⟩ ?_
          refine go_if rfl (fun _ => ?_) (fun (z : ¬ ((0 : Int32) = 0)) => absurd (show (0 : Int32) = 0 from (by decide)) z)
          refine go_blk 2 [] (pc' := 86) (vs' := [.ref (ad 7 q), .int x, .int 0]) (st' := [.int x, .ref (ad 7 q)]) (M' := mm M (up2 f (ad 7 q) 6 0) g) (ps := []) rfl trivial ?_
          refine go_callV rfl rfl rfl (by omega) rfl (by decide) (by decide) ho ?_
          show Go (d - 1) 93 0 0 0 [.ref (ad 7 q), .int x] [] (mm M (up2 f (ad 7 q) 6 0) g) _
          refine go_blk 2 [some (.int (nI dp))] (pc' := 4) (vs' := [.ref (ad 7 q), .int x]) (st' := [.int (nI dp)]) (M' := mm M (up2 f (ad 7 q) 6 0) g) (ps := [ob (mm M (up2 f (ad 7 q) 6 0) g) (ad 7 q) 9, (Value.int ((up2 f (ad 7 q) 6 0) (ad 7 q) 5)) = .int (nI dp)]) rfl ⟨ho, congrArg Value.int (((up2_n _ _ (fun z => absurd z.2 (by decide))).trans (rfl)).trans hs5), trivial⟩ ?_
          refine go_if rfl (fun (c12 : (nI dp) ≤ 0) => ?_) (fun (c12 : ¬ ((nI dp) ≤ 0)) => ?_)
          · -- (nI dp) ≤ 0
            have nc12 : dp ≤ 0 := (nI_les (a := dp) (b := 0) (by omega) (by omega)).mp c12
            refine go_blk 4 [] (pc' := 31) (vs' := [.ref (ad 7 q), .int x]) (st' := [.int x]) (M' := mm M (up2 (up2 f (ad 7 q) 6 0) (ad 7 q) 7 1) g) (ps := [ob (mm M (up2 f (ad 7 q) 6 0) g) (ad 7 q) 9, 1 = 0 ∨ 1 = 1]) rfl ⟨ho, (Or.inr rfl), trivial⟩ ?_
            refine go_callS rfl (by decide) rfl rfl (by omega) rfl (by decide) (by decide) ?_
            refine s_Tx_isPlusOrMinus (by omega) (fun c13 => ⟨ne_i, ?_⟩) (fun c13 => ⟨ne_i, ?_⟩)
            · -- 1
              show Go (d - 1) 93 0 0 34 [.ref (ad 7 q), .int x] [.int 1] (mm M (up2 (up2 f (ad 7 q) 6 0) (ad 7 q) 7 1) g) _
              refine go_if rfl (fun _ => ?_) (fun (z : ¬ (¬ (1 : Int32) = 0)) => absurd (show ¬ (1 : Int32) = 0 from (by decide)) z)
              refine go_blk 1 [] (pc' := 45) (vs' := [.ref (ad 7 q), .int x]) (st' := [.int 1]) (M' := mm M (up2 (up2 f (ad 7 q) 6 0) (ad 7 q) 7 1) g) (ps := []) rfl trivial ?_
              refine go_zret rfl rfl (Or.inr rfl) ?_
              refine ⟨ne_i, ?_⟩
              show Go d 91 0 0 89 [.ref (ad 7 q), .int x, .int 0] [.int 1] (mm M (up2 (up2 f (ad 7 q) 6 0) (ad 7 q) 7 1) g) R
              refine go_zret rfl rfl (Or.inr rfl) ?_
              refine h1 (p, dp, 0, true) _ ?_ ⟨(((up2_n _ _ (fun z => absurd z.2 (by decide))).trans ((up2_n _ _ (fun z => absurd z.2 (by decide))).trans (rfl))).trans hs4), (((up2_n _ _ (fun z => absurd z.2 (by decide))).trans ((up2_n _ _ (fun z => absurd z.2 (by decide))).trans (rfl))).trans hs5), ((up2_n _ _ (fun z => absurd z.2 (by decide))).trans (up2_s _ _ _ _)), (up2_s _ _ _ _)⟩ (fun b k hn => by rw [up2_n _ _ (fun z => hn ⟨z.1, by omega, by omega⟩), up2_n _ _ (fun z => hn ⟨z.1, by omega, by omega⟩)])
              clear h1 h0 hs4 hs5 hs6 hs7
              simp only [tStep]
              grind
            · -- 0
              show Go (d - 1) 93 0 0 34 [.ref (ad 7 q), .int x] [.int 0] (mm M (up2 (up2 f (ad 7 q) 6 0) (ad 7 q) 7 1) g) _
              refine go_if rfl (fun (z : ¬ (0 : Int32) = 0) => absurd z (show ¬ (¬ (0 : Int32) = 0) from (by decide))) (fun _ => ?_)
              refine go_blk 1 [] (pc' := 38) (vs' := [.ref (ad 7 q), .int x]) (st' := [.int x]) (M' := mm M (up2 (up2 f (ad 7 q) 6 0) (ad 7 q) 7 1) g) (ps := []) rfl trivial ?_
              refine go_callS rfl (by decide) rfl rfl (by omega) rfl (by decide) (by decide) ?_
              refine s_Tx_isTimesOrBy (by omega) (fun c14 => ⟨ne_i, ?_⟩) (fun c14 => ⟨ne_i, ?_⟩)
              · -- 1
                show Go (d - 1) 93 0 0 41 [.ref (ad 7 q), .int x] [.int 1] (mm M (up2 (up2 f (ad 7 q) 6 0) (ad 7 q) 7 1) g) _
                refine go_if rfl (fun (z : (1 : Int32) = 0) => absurd z (show ¬ ((1 : Int32) = 0) from (by decide))) (fun _ => ?_)
                refine go_blk 1 [] (pc' := 45) (vs' := [.ref (ad 7 q), .int x]) (st' := [.int 1]) (M' := mm M (up2 (up2 f (ad 7 q) 6 0) (ad 7 q) 7 1) g) (ps := []) rfl trivial ?_
                refine go_zret rfl rfl (Or.inr rfl) ?_
                refine ⟨ne_i, ?_⟩
                show Go d 91 0 0 89 [.ref (ad 7 q), .int x, .int 0] [.int 1] (mm M (up2 (up2 f (ad 7 q) 6 0) (ad 7 q) 7 1) g) R
                refine go_zret rfl rfl (Or.inr rfl) ?_
                refine h1 (p, dp, 0, true) _ ?_ ⟨(((up2_n _ _ (fun z => absurd z.2 (by decide))).trans ((up2_n _ _ (fun z => absurd z.2 (by decide))).trans (rfl))).trans hs4), (((up2_n _ _ (fun z => absurd z.2 (by decide))).trans ((up2_n _ _ (fun z => absurd z.2 (by decide))).trans (rfl))).trans hs5), ((up2_n _ _ (fun z => absurd z.2 (by decide))).trans (up2_s _ _ _ _)), (up2_s _ _ _ _)⟩ (fun b k hn => by rw [up2_n _ _ (fun z => hn ⟨z.1, by omega, by omega⟩), up2_n _ _ (fun z => hn ⟨z.1, by omega, by omega⟩)])
                clear h1 h0 hs4 hs5 hs6 hs7
                simp only [tStep]
                grind
              · -- 0
                show Go (d - 1) 93 0 0 41 [.ref (ad 7 q), .int x] [.int 0] (mm M (up2 (up2 f (ad 7 q) 6 0) (ad 7 q) 7 1) g) _
                refine go_if rfl (fun _ => ?_) (fun (z : ¬ ((0 : Int32) = 0)) => absurd (show (0 : Int32) = 0 from (by decide)) z)
                refine go_blk 3 [some (.int (nI dp))] (pc' := 51) (vs' := [.ref (ad 7 q), .int x]) (st' := [.int (nI dp), .ref (ad 7 q)]) (M' := mm M (up2 (up2 f (ad 7 q) 6 0) (ad 7 q) 7 1) g) (ps := [ob (mm M (up2 (up2 f (ad 7 q) 6 0) (ad 7 q) 7 1) g) (ad 7 q) 9, (Value.int ((up2 (up2 f (ad 7 q) 6 0) (ad 7 q) 7 1) (ad 7 q) 5)) = .int (nI dp)]) rfl ⟨ho, congrArg Value.int (((up2_n _ _ (fun z => absurd z.2 (by decide))).trans ((up2_n _ _ (fun z => absurd z.2 (by decide))).trans (rfl))).trans hs5), trivial⟩ ?_
                refine go_if rfl (fun _ => ?_) (fun (z : ¬ ((nI dp) ≤ 0)) => absurd (show (nI dp) ≤ 0 from c12) z)
                refine go_blk 3 [some (.int (nI p))] (pc' := 63) (vs' := [.ref (ad 7 q), .int x]) (st' := [.int x, .int (nI p), .ref (ad 7 q)]) (M' := mm M (up2 (up2 f (ad 7 q) 6 0) (ad 7 q) 7 1) g) (ps := [ob (mm M (up2 (up2 f (ad 7 q) 6 0) (ad 7 q) 7 1) g) (ad 7 q) 9, (Value.int ((up2 (up2 f (ad 7 q) 6 0) (ad 7 q) 7 1) (ad 7 q) 4)) = .int (nI p)]) rfl ⟨ho, congrArg Value.int (((up2_n _ _ (fun z => absurd z.2 (by decide))).trans ((up2_n _ _ (fun z => absurd z.2 (by decide))).trans (rfl))).trans hs4), trivial⟩ ?_
                refine go_callS rfl (by decide) rfl rfl (by omega) rfl (by decide) (by decide) ?_
                refine s_Tx_partBehind (by omega) k1 ⟨ne_i, ?_⟩
                show Go (d - 1) 93 0 0 66 [.ref (ad 7 q), .int x] [.int (pBI p x), .ref (ad 7 q)] (mm M (up2 (up2 f (ad 7 q) 6 0) (ad 7 q) 7 1) g) _
                refine go_blk 4 [some (.int (pBI p x))] (pc' := 74) (vs' := [.ref (ad 7 q), .int x]) (st' := [.int (-1), .int (pBI p x)]) (M' := mm M (up2 (up2 (up2 f (ad 7 q) 6 0) (ad 7 q) 7 1) (ad 7 q) 4 (pBI p x)) g) (ps := [ob (mm M (up2 (up2 f (ad 7 q) 6 0) (ad 7 q) 7 1) g) (ad 7 q) 9, ob (mm M (up2 (up2 (up2 f (ad 7 q) 6 0) (ad 7 q) 7 1) (ad 7 q) 4 (pBI p x)) g) (ad 7 q) 9, (Value.int ((up2 (up2 (up2 f (ad 7 q) 6 0) (ad 7 q) 7 1) (ad 7 q) 4 (pBI p x)) (ad 7 q) 4)) = .int (pBI p x)]) rfl ⟨ho, ho, congrArg Value.int (up2_s _ _ _ _), trivial⟩ ?_
                refine go_icmp rfl (fun (c15 : (pBI p x) = (-1)) => ?_) (fun (c15 : ¬ ((pBI p x) = (-1))) => ?_)
                · -- (pBI p x) = (-1)
                  refine go_blk 1 [] (pc' := 82) (vs' := [.ref (ad 7 q), .int x]) (st' := [.int 0]) (M' := mm M (up2 (up2 (up2 f (ad 7 q) 6 0) (ad 7 q) 7 1) (ad 7 q) 4 (pBI p x)) g) (ps := []) rfl trivial ?_
                  refine go_zret rfl rfl (Or.inl rfl) ?_
                  refine ⟨ne_i, ?_⟩
                  show Go d 91 0 0 89 [.ref (ad 7 q), .int x, .int 0] [.int 0] (mm M (up2 (up2 (up2 f (ad 7 q) 6 0) (ad 7 q) 7 1) (ad 7 q) 4 (pBI p x)) g) R
                  refine go_zret rfl rfl (Or.inl rfl) ?_
                  have hpb := pBI_m1 c15
                  refine h0 _ ?_ (fun b k hn => by rw [up2_n _ _ (fun z => hn ⟨z.1, by omega, by omega⟩), up2_n _ _ (fun z => hn ⟨z.1, by omega, by omega⟩), up2_n _ _ (fun z => hn ⟨z.1, by omega, by omega⟩)])
                  clear h1 h0 hs4 hs5 hs6 hs7
                  simp only [tStep]
                  grind
                · -- ¬ ((pBI p x) = (-1))
                  refine go_blk 2 [] (pc' := 82) (vs' := [.ref (ad 7 q), .int x]) (st' := [.int 1]) (M' := mm M (up2 (up2 (up2 f (ad 7 q) 6 0) (ad 7 q) 7 1) (ad 7 q) 4 (pBI p x)) g) (ps := []) rfl trivial ?_
                  refine go_zret rfl rfl (Or.inr rfl) ?_
                  refine ⟨ne_i, ?_⟩
                  show Go d 91 0 0 89 [.ref (ad 7 q), .int x, .int 0] [.int 1] (mm M (up2 (up2 (up2 f (ad 7 q) 6 0) (ad 7 q) 7 1) (ad 7 q) 4 (pBI p x)) g) R
                  refine go_zret rfl rfl (Or.inr rfl) ?_
                  obtain ⟨kk, hpb, hpc⟩ := pBI_k c15
                  refine h1 (kk, dp, 0, true) _ ?_ ⟨((up2_s _ _ _ _).trans hpc), (((up2_n _ _ (fun z => absurd z.2 (by decide))).trans ((up2_n _ _ (fun z => absurd z.2 (by decide))).trans ((up2_n _ _ (fun z => absurd z.2 (by decide))).trans (rfl)))).trans hs5), ((up2_n _ _ (fun z => absurd z.2 (by decide))).trans ((up2_n _ _ (fun z => absurd z.2 (by decide))).trans (up2_s _ _ _ _))), ((up2_n _ _ (fun z => absurd z.2 (by decide))).trans (up2_s _ _ _ _))⟩ (fun b k hn => by rw [up2_n _ _ (fun z => hn ⟨z.1, by omega, by omega⟩), up2_n _ _ (fun z => hn ⟨z.1, by omega, by omega⟩), up2_n _ _ (fun z => hn ⟨z.1, by omega, by omega⟩)])
                  clear h1 h0 hs4 hs5 hs6 hs7
                  simp only [tStep]
                  grind
          · -- ¬ ((nI dp) ≤ 0)
            have nc12 : 0 < dp := (nI_lts (a := 0) (b := dp) (by omega) (by omega)).mp (Int32.not_le.mp c12)
            refine go_blk 2 [] (pc' := 10) (vs' := [.ref (ad 7 q), .int x]) (st' := [.int 41, .int x]) (M' := mm M (up2 f (ad 7 q) 6 0) g) (ps := []) rfl trivial ?_
            refine go_icmp rfl (fun (c16 : ¬ x = 41) => ?_) (fun (c16 : ¬ (¬ x = 41)) => ?_)
            · -- ¬ x = 41
              refine go_blk 4 [] (pc' := 31) (vs' := [.ref (ad 7 q), .int x]) (st' := [.int x]) (M' := mm M (up2 (up2 f (ad 7 q) 6 0) (ad 7 q) 7 1) g) (ps := [ob (mm M (up2 f (ad 7 q) 6 0) g) (ad 7 q) 9, 1 = 0 ∨ 1 = 1]) rfl ⟨ho, (Or.inr rfl), trivial⟩ ?_
              refine go_callS rfl (by decide) rfl rfl (by omega) rfl (by decide) (by decide) ?_
              refine s_Tx_isPlusOrMinus (by omega) (fun c17 => ⟨ne_i, ?_⟩) (fun c17 => ⟨ne_i, ?_⟩)
              · -- 1
                show Go (d - 1) 93 0 0 34 [.ref (ad 7 q), .int x] [.int 1] (mm M (up2 (up2 f (ad 7 q) 6 0) (ad 7 q) 7 1) g) _
                refine go_if rfl (fun _ => ?_) (fun (z : ¬ (¬ (1 : Int32) = 0)) => absurd (show ¬ (1 : Int32) = 0 from (by decide)) z)
                refine go_blk 1 [] (pc' := 45) (vs' := [.ref (ad 7 q), .int x]) (st' := [.int 1]) (M' := mm M (up2 (up2 f (ad 7 q) 6 0) (ad 7 q) 7 1) g) (ps := []) rfl trivial ?_
                refine go_zret rfl rfl (Or.inr rfl) ?_
                refine ⟨ne_i, ?_⟩
                show Go d 91 0 0 89 [.ref (ad 7 q), .int x, .int 0] [.int 1] (mm M (up2 (up2 f (ad 7 q) 6 0) (ad 7 q) 7 1) g) R
                refine go_zret rfl rfl (Or.inr rfl) ?_
                refine h1 (p, dp, 0, true) _ ?_ ⟨(((up2_n _ _ (fun z => absurd z.2 (by decide))).trans ((up2_n _ _ (fun z => absurd z.2 (by decide))).trans (rfl))).trans hs4), (((up2_n _ _ (fun z => absurd z.2 (by decide))).trans ((up2_n _ _ (fun z => absurd z.2 (by decide))).trans (rfl))).trans hs5), ((up2_n _ _ (fun z => absurd z.2 (by decide))).trans (up2_s _ _ _ _)), (up2_s _ _ _ _)⟩ (fun b k hn => by rw [up2_n _ _ (fun z => hn ⟨z.1, by omega, by omega⟩), up2_n _ _ (fun z => hn ⟨z.1, by omega, by omega⟩)])
                clear h1 h0 hs4 hs5 hs6 hs7
                simp only [tStep]
                grind
              · -- 0
                show Go (d - 1) 93 0 0 34 [.ref (ad 7 q), .int x] [.int 0] (mm M (up2 (up2 f (ad 7 q) 6 0) (ad 7 q) 7 1) g) _
                refine go_if rfl (fun (z : ¬ (0 : Int32) = 0) => absurd z (show ¬ (¬ (0 : Int32) = 0) from (by decide))) (fun _ => ?_)
                refine go_blk 1 [] (pc' := 38) (vs' := [.ref (ad 7 q), .int x]) (st' := [.int x]) (M' := mm M (up2 (up2 f (ad 7 q) 6 0) (ad 7 q) 7 1) g) (ps := []) rfl trivial ?_
                refine go_callS rfl (by decide) rfl rfl (by omega) rfl (by decide) (by decide) ?_
                refine s_Tx_isTimesOrBy (by omega) (fun c18 => ⟨ne_i, ?_⟩) (fun c18 => ⟨ne_i, ?_⟩)
                · -- 1
                  show Go (d - 1) 93 0 0 41 [.ref (ad 7 q), .int x] [.int 1] (mm M (up2 (up2 f (ad 7 q) 6 0) (ad 7 q) 7 1) g) _
                  refine go_if rfl (fun (z : (1 : Int32) = 0) => absurd z (show ¬ ((1 : Int32) = 0) from (by decide))) (fun _ => ?_)
                  refine go_blk 1 [] (pc' := 45) (vs' := [.ref (ad 7 q), .int x]) (st' := [.int 1]) (M' := mm M (up2 (up2 f (ad 7 q) 6 0) (ad 7 q) 7 1) g) (ps := []) rfl trivial ?_
                  refine go_zret rfl rfl (Or.inr rfl) ?_
                  refine ⟨ne_i, ?_⟩
                  show Go d 91 0 0 89 [.ref (ad 7 q), .int x, .int 0] [.int 1] (mm M (up2 (up2 f (ad 7 q) 6 0) (ad 7 q) 7 1) g) R
                  refine go_zret rfl rfl (Or.inr rfl) ?_
                  refine h1 (p, dp, 0, true) _ ?_ ⟨(((up2_n _ _ (fun z => absurd z.2 (by decide))).trans ((up2_n _ _ (fun z => absurd z.2 (by decide))).trans (rfl))).trans hs4), (((up2_n _ _ (fun z => absurd z.2 (by decide))).trans ((up2_n _ _ (fun z => absurd z.2 (by decide))).trans (rfl))).trans hs5), ((up2_n _ _ (fun z => absurd z.2 (by decide))).trans (up2_s _ _ _ _)), (up2_s _ _ _ _)⟩ (fun b k hn => by rw [up2_n _ _ (fun z => hn ⟨z.1, by omega, by omega⟩), up2_n _ _ (fun z => hn ⟨z.1, by omega, by omega⟩)])
                  clear h1 h0 hs4 hs5 hs6 hs7
                  simp only [tStep]
                  grind
                · -- 0
                  show Go (d - 1) 93 0 0 41 [.ref (ad 7 q), .int x] [.int 0] (mm M (up2 (up2 f (ad 7 q) 6 0) (ad 7 q) 7 1) g) _
                  refine go_if rfl (fun _ => ?_) (fun (z : ¬ ((0 : Int32) = 0)) => absurd (show (0 : Int32) = 0 from (by decide)) z)
                  refine go_blk 3 [some (.int (nI dp))] (pc' := 51) (vs' := [.ref (ad 7 q), .int x]) (st' := [.int (nI dp), .ref (ad 7 q)]) (M' := mm M (up2 (up2 f (ad 7 q) 6 0) (ad 7 q) 7 1) g) (ps := [ob (mm M (up2 (up2 f (ad 7 q) 6 0) (ad 7 q) 7 1) g) (ad 7 q) 9, (Value.int ((up2 (up2 f (ad 7 q) 6 0) (ad 7 q) 7 1) (ad 7 q) 5)) = .int (nI dp)]) rfl ⟨ho, congrArg Value.int (((up2_n _ _ (fun z => absurd z.2 (by decide))).trans ((up2_n _ _ (fun z => absurd z.2 (by decide))).trans (rfl))).trans hs5), trivial⟩ ?_
                  refine go_if rfl (fun (z : (nI dp) ≤ 0) => absurd z (show ¬ ((nI dp) ≤ 0) from c12)) (fun _ => ?_)
                  refine go_blk 6 [some (.int (-1))] (pc' := 74) (vs' := [.ref (ad 7 q), .int x]) (st' := [.int (-1), .int (-1)]) (M' := mm M (up2 (up2 (up2 f (ad 7 q) 6 0) (ad 7 q) 7 1) (ad 7 q) 4 (-1)) g) (ps := [ob (mm M (up2 (up2 f (ad 7 q) 6 0) (ad 7 q) 7 1) g) (ad 7 q) 9, ob (mm M (up2 (up2 (up2 f (ad 7 q) 6 0) (ad 7 q) 7 1) (ad 7 q) 4 (-1)) g) (ad 7 q) 9, (Value.int ((up2 (up2 (up2 f (ad 7 q) 6 0) (ad 7 q) 7 1) (ad 7 q) 4 (-1)) (ad 7 q) 4)) = .int (-1)]) rfl ⟨ho, ho, congrArg Value.int (up2_s _ _ _ _), trivial⟩ ?_
                  refine go_icmp rfl (fun _ => ?_) (fun (z : ¬ (((-1) : Int32) = (-1))) => absurd (show ((-1) : Int32) = (-1) from (by decide)) z)
                  refine go_blk 1 [] (pc' := 82) (vs' := [.ref (ad 7 q), .int x]) (st' := [.int 0]) (M' := mm M (up2 (up2 (up2 f (ad 7 q) 6 0) (ad 7 q) 7 1) (ad 7 q) 4 (-1)) g) (ps := []) rfl trivial ?_
                  refine go_zret rfl rfl (Or.inl rfl) ?_
                  refine ⟨ne_i, ?_⟩
                  show Go d 91 0 0 89 [.ref (ad 7 q), .int x, .int 0] [.int 0] (mm M (up2 (up2 (up2 f (ad 7 q) 6 0) (ad 7 q) 7 1) (ad 7 q) 4 (-1)) g) R
                  refine go_zret rfl rfl (Or.inl rfl) ?_
                  refine h0 _ ?_ (fun b k hn => by rw [up2_n _ _ (fun z => hn ⟨z.1, by omega, by omega⟩), up2_n _ _ (fun z => hn ⟨z.1, by omega, by omega⟩), up2_n _ _ (fun z => hn ⟨z.1, by omega, by omega⟩)])
                  clear h1 h0 hs4 hs5 hs6 hs7
                  simp only [tStep]
                  grind
            · -- ¬ (¬ x = 41)
              refine go_blk 7 [some (.int (nI dp))] (pc' := 24) (vs' := [.ref (ad 7 q), .int x]) (st' := [.int 1]) (M' := mm M (up2 (up2 f (ad 7 q) 6 0) (ad 7 q) 5 ((nI dp) - 1)) g) (ps := [(.ref (ad 7 q) : Value).category = 1, ob (mm M (up2 f (ad 7 q) 6 0) g) (ad 7 q) 9, (Value.int ((up2 f (ad 7 q) 6 0) (ad 7 q) 5)) = .int (nI dp), ob (mm M (up2 f (ad 7 q) 6 0) g) (ad 7 q) 9]) rfl ⟨rfl, ho, congrArg Value.int (((up2_n _ _ (fun z => absurd z.2 (by decide))).trans (rfl)).trans hs5), ho, trivial⟩ ?_
              refine go_zret rfl rfl (Or.inr rfl) ?_
              refine ⟨ne_i, ?_⟩
              show Go d 91 0 0 89 [.ref (ad 7 q), .int x, .int 0] [.int 1] (mm M (up2 (up2 f (ad 7 q) 6 0) (ad 7 q) 5 ((nI dp) - 1)) g) R
              refine go_zret rfl rfl (Or.inr rfl) ?_
              refine h1 (p, dp - 1, 0, false) _ ?_ ⟨(((up2_n _ _ (fun z => absurd z.2 (by decide))).trans ((up2_n _ _ (fun z => absurd z.2 (by decide))).trans (rfl))).trans hs4), ((up2_s _ _ _ _).trans (pk_sub (a := dp) (b := 1) (by omega))), ((up2_n _ _ (fun z => absurd z.2 (by decide))).trans (up2_s _ _ _ _)), (((up2_n _ _ (fun z => absurd z.2 (by decide))).trans ((up2_n _ _ (fun z => absurd z.2 (by decide))).trans (rfl))).trans hs7)⟩ (fun b k hn => by rw [up2_n _ _ (fun z => hn ⟨z.1, by omega, by omega⟩), up2_n _ _ (fun z => hn ⟨z.1, by omega, by omega⟩)])
              clear h1 h0 hs4 hs5 hs6 hs7
              simp only [tStep]
              grind
        · -- ¬ (¬ x = 32)
          refine go_blk 1 [] (pc' := 68) (vs' := [.ref (ad 7 q), .int x, .int 0]) (st' := [.int 1]) (M' := mm M (up2 f (ad 7 q) 6 0) g) (ps := []) rfl trivial ?_
          refine go_zret rfl rfl (Or.inr rfl) ?_
          refine h1 (p, dp, 0, false) _ ?_ ⟨(((up2_n _ _ (fun z => absurd z.2 (by decide))).trans (rfl)).trans hs4), (((up2_n _ _ (fun z => absurd z.2 (by decide))).trans (rfl)).trans hs5), (up2_s _ _ _ _), (((up2_n _ _ (fun z => absurd z.2 (by decide))).trans (rfl)).trans hs7)⟩ (fun b k hn => by rw [up2_n _ _ (fun z => hn ⟨z.1, by omega, by omega⟩)])
          clear h1 h0 hs4 hs5 hs6 hs7
          simp only [tStep]
          grind
    · -- ¬ ((nI dg) ≤ 0)
      have nc1 : 0 < dg := (nI_lts (a := 0) (b := dg) (by omega) (by omega)).mp (Int32.not_le.mp c1)
      refine go_blk 3 [some (.int (nI dg))] (pc' := 12) (vs' := [.ref (ad 7 q), .int x, .retAddr 0]) (st' := [.int 4, .int (nI dg)]) (M' := mm M f g) (ps := [ob (mm M f g) (ad 7 q) 9, (Value.int (f (ad 7 q) 6)) = .int (nI dg)]) rfl ⟨ho, congrArg Value.int hs6, trivial⟩ ?_
      refine go_icmp rfl (fun (c19 : 4 ≤ (nI dg)) => ?_) (fun (c19 : ¬ (4 ≤ (nI dg))) => ?_)
      · -- 4 ≤ (nI dg)
        have nc19 : 4 ≤ dg := (nI_les (a := 4) (b := dg) (by omega) (by omega)).mp c19
        refine go_blk 3 [] (pc' := 22) (vs' := [.ref (ad 7 q), .int x, .int 0]) (st' := [.int x]) (M' := mm M f g) (ps := []) rfl trivial ?_
        refine go_callS rfl (by decide) rfl rfl (by omega) rfl (by decide) (by decide) ?_
        refine s_Tx_isDigit (by omega) (fun c20 => ⟨ne_i, ?_⟩) (fun c20 => ⟨ne_i, ?_⟩)
        · -- 1
          show Go d 91 0 0 25 [.ref (ad 7 q), .int x, .int 0] [.int 1] (mm M f g) R
          refine go_if rfl (fun (z : (1 : Int32) = 0) => absurd z (show ¬ ((1 : Int32) = 0) from (by decide))) (fun _ => ?_)
          refine go_blk 2 [some (.int 0)] (pc' := 32) (vs' := [.ref (ad 7 q), .int x, .int 0]) (st' := [.int 0]) (M' := mm M f g) (ps := [ob (mm M f g) (ad 7 q) 9, (Value.int (f (ad 7 q) 7)) = .int 0]) rfl ⟨ho, congrArg Value.int hs7, trivial⟩ ?_
          refine go_if rfl (fun (z : ¬ (0 : Int32) = 0) => absurd z (show ¬ (¬ (0 : Int32) = 0) from (by decide))) (fun _ => ?_)
          refine go_blk 1 [] (pc' := 36) (vs' := [.ref (ad 7 q), .int x, .int 0]) (st' := [.int 0]) (M' := mm M f g) (ps := []) rfl trivial ?_
          refine go_if rfl (fun _ => ?_) (fun (z : ¬ ((0 : Int32) = 0)) => absurd (show (0 : Int32) = 0 from (by decide)) z)
          refine go_blk 5 [] (pc' := 64) (vs' := [.ref (ad 7 q), .int x, .int 0]) (st' := [.int 32, .int x]) (M' := mm M (up2 f (ad 7 q) 6 0) g) (ps := [ob (mm M f g) (ad 7 q) 9]) rfl ⟨ho, trivial⟩ ?_
          refine go_icmp rfl (fun (c21 : ¬ x = 32) => ?_) (fun (c21 : ¬ (¬ x = 32)) => ?_)
          · -- ¬ x = 32
            refine go_blk 2 [some (.int 0)] (pc' := 73) (vs' := [.ref (ad 7 q), .int x, .int 0]) (st' := [.int 0]) (M' := mm M (up2 f (ad 7 q) 6 0) g) (ps := [ob (mm M (up2 f (ad 7 q) 6 0) g) (ad 7 q) 9, (Value.int ((up2 f (ad 7 q) 6 0) (ad 7 q) 7)) = .int 0]) rfl ⟨ho, congrArg Value.int (((up2_n _ _ (fun z => absurd z.2 (by decide))).trans (rfl)).trans hs7), trivial⟩ ?_
            refine go_if rfl (fun _ => ?_) (fun (z : ¬ ((0 : Int32) = 0)) => absurd (show (0 : Int32) = 0 from (by decide)) z)
            refine go_blk 2 [] (pc' := 86) (vs' := [.ref (ad 7 q), .int x, .int 0]) (st' := [.int x, .ref (ad 7 q)]) (M' := mm M (up2 f (ad 7 q) 6 0) g) (ps := []) rfl trivial ?_
            refine go_callV rfl rfl rfl (by omega) rfl (by decide) (by decide) ho ?_
            show Go (d - 1) 93 0 0 0 [.ref (ad 7 q), .int x] [] (mm M (up2 f (ad 7 q) 6 0) g) _
            refine go_blk 2 [some (.int (nI dp))] (pc' := 4) (vs' := [.ref (ad 7 q), .int x]) (st' := [.int (nI dp)]) (M' := mm M (up2 f (ad 7 q) 6 0) g) (ps := [ob (mm M (up2 f (ad 7 q) 6 0) g) (ad 7 q) 9, (Value.int ((up2 f (ad 7 q) 6 0) (ad 7 q) 5)) = .int (nI dp)]) rfl ⟨ho, congrArg Value.int (((up2_n _ _ (fun z => absurd z.2 (by decide))).trans (rfl)).trans hs5), trivial⟩ ?_
            refine go_if rfl (fun (c22 : (nI dp) ≤ 0) => ?_) (fun (c22 : ¬ ((nI dp) ≤ 0)) => ?_)
            · -- (nI dp) ≤ 0
              have nc22 : dp ≤ 0 := (nI_les (a := dp) (b := 0) (by omega) (by omega)).mp c22
              refine go_blk 4 [] (pc' := 31) (vs' := [.ref (ad 7 q), .int x]) (st' := [.int x]) (M' := mm M (up2 (up2 f (ad 7 q) 6 0) (ad 7 q) 7 1) g) (ps := [ob (mm M (up2 f (ad 7 q) 6 0) g) (ad 7 q) 9, 1 = 0 ∨ 1 = 1]) rfl ⟨ho, (Or.inr rfl), trivial⟩ ?_
              refine go_callS rfl (by decide) rfl rfl (by omega) rfl (by decide) (by decide) ?_
              refine s_Tx_isPlusOrMinus (by omega) (fun c23 => ⟨ne_i, ?_⟩) (fun c23 => ⟨ne_i, ?_⟩)
              · -- 1
                show Go (d - 1) 93 0 0 34 [.ref (ad 7 q), .int x] [.int 1] (mm M (up2 (up2 f (ad 7 q) 6 0) (ad 7 q) 7 1) g) _
                refine go_if rfl (fun _ => ?_) (fun (z : ¬ (¬ (1 : Int32) = 0)) => absurd (show ¬ (1 : Int32) = 0 from (by decide)) z)
                refine go_blk 1 [] (pc' := 45) (vs' := [.ref (ad 7 q), .int x]) (st' := [.int 1]) (M' := mm M (up2 (up2 f (ad 7 q) 6 0) (ad 7 q) 7 1) g) (ps := []) rfl trivial ?_
                refine go_zret rfl rfl (Or.inr rfl) ?_
                refine ⟨ne_i, ?_⟩
                show Go d 91 0 0 89 [.ref (ad 7 q), .int x, .int 0] [.int 1] (mm M (up2 (up2 f (ad 7 q) 6 0) (ad 7 q) 7 1) g) R
                refine go_zret rfl rfl (Or.inr rfl) ?_
                refine h1 (p, dp, 0, true) _ ?_ ⟨(((up2_n _ _ (fun z => absurd z.2 (by decide))).trans ((up2_n _ _ (fun z => absurd z.2 (by decide))).trans (rfl))).trans hs4), (((up2_n _ _ (fun z => absurd z.2 (by decide))).trans ((up2_n _ _ (fun z => absurd z.2 (by decide))).trans (rfl))).trans hs5), ((up2_n _ _ (fun z => absurd z.2 (by decide))).trans (up2_s _ _ _ _)), (up2_s _ _ _ _)⟩ (fun b k hn => by rw [up2_n _ _ (fun z => hn ⟨z.1, by omega, by omega⟩), up2_n _ _ (fun z => hn ⟨z.1, by omega, by omega⟩)])
                clear h1 h0 hs4 hs5 hs6 hs7
                simp only [tStep]
                grind
              · -- 0
                show Go (d - 1) 93 0 0 34 [.ref (ad 7 q), .int x] [.int 0] (mm M (up2 (up2 f (ad 7 q) 6 0) (ad 7 q) 7 1) g) _
                refine go_if rfl (fun (z : ¬ (0 : Int32) = 0) => absurd z (show ¬ (¬ (0 : Int32) = 0) from (by decide))) (fun _ => ?_)
                refine go_blk 1 [] (pc' := 38) (vs' := [.ref (ad 7 q), .int x]) (st' := [.int x]) (M' := mm M (up2 (up2 f (ad 7 q) 6 0) (ad 7 q) 7 1) g) (ps := []) rfl trivial ?_
                refine go_callS rfl (by decide) rfl rfl (by omega) rfl (by decide) (by decide) ?_
                refine s_Tx_isTimesOrBy (by omega) (fun c24 => ⟨ne_i, ?_⟩) (fun c24 => ⟨ne_i, ?_⟩)
                · -- 1
                  show Go (d - 1) 93 0 0 41 [.ref (ad 7 q), .int x] [.int 1] (mm M (up2 (up2 f (ad 7 q) 6 0) (ad 7 q) 7 1) g) _
                  refine go_if rfl (fun (z : (1 : Int32) = 0) => absurd z (show ¬ ((1 : Int32) = 0) from (by decide))) (fun _ => ?_)
                  refine go_blk 1 [] (pc' := 45) (vs' := [.ref (ad 7 q), .int x]) (st' := [.int 1]) (M' := mm M (up2 (up2 f (ad 7 q) 6 0) (ad 7 q) 7 1) g) (ps := []) rfl trivial ?_
                  refine go_zret rfl rfl (Or.inr rfl) ?_
                  refine ⟨ne_i, ?_⟩
                  show Go d 91 0 0 89 [.ref (ad 7 q), .int x, .int 0] [.int 1] (mm M (up2 (up2 f (ad 7 q) 6 0) (ad 7 q) 7 1) g) R
                  refine go_zret rfl rfl (Or.inr rfl) ?_
                  refine h1 (p, dp, 0, true) _ ?_ ⟨(((up2_n _ _ (fun z => absurd z.2 (by decide))).trans ((up2_n _ _ (fun z => absurd z.2 (by decide))).trans (rfl))).trans hs4), (((up2_n _ _ (fun z => absurd z.2 (by decide))).trans ((up2_n _ _ (fun z => absurd z.2 (by decide))).trans (rfl))).trans hs5), ((up2_n _ _ (fun z => absurd z.2 (by decide))).trans (up2_s _ _ _ _)), (up2_s _ _ _ _)⟩ (fun b k hn => by rw [up2_n _ _ (fun z => hn ⟨z.1, by omega, by omega⟩), up2_n _ _ (fun z => hn ⟨z.1, by omega, by omega⟩)])
                  clear h1 h0 hs4 hs5 hs6 hs7
                  simp only [tStep]
                  grind
                · -- 0
                  show Go (d - 1) 93 0 0 41 [.ref (ad 7 q), .int x] [.int 0] (mm M (up2 (up2 f (ad 7 q) 6 0) (ad 7 q) 7 1) g) _
                  refine go_if rfl (fun _ => ?_) (fun (z : ¬ ((0 : Int32) = 0)) => absurd (show (0 : Int32) = 0 from (by decide)) z)
                  refine go_blk 3 [some (.int (nI dp))] (pc' := 51) (vs' := [.ref (ad 7 q), .int x]) (st' := [.int (nI dp), .ref (ad 7 q)]) (M' := mm M (up2 (up2 f (ad 7 q) 6 0) (ad 7 q) 7 1) g) (ps := [ob (mm M (up2 (up2 f (ad 7 q) 6 0) (ad 7 q) 7 1) g) (ad 7 q) 9, (Value.int ((up2 (up2 f (ad 7 q) 6 0) (ad 7 q) 7 1) (ad 7 q) 5)) = .int (nI dp)]) rfl ⟨ho, congrArg Value.int (((up2_n _ _ (fun z => absurd z.2 (by decide))).trans ((up2_n _ _ (fun z => absurd z.2 (by decide))).trans (rfl))).trans hs5), trivial⟩ ?_
                  refine go_if rfl (fun _ => ?_) (fun (z : ¬ ((nI dp) ≤ 0)) => absurd (show (nI dp) ≤ 0 from c22) z)
                  refine go_blk 3 [some (.int (nI p))] (pc' := 63) (vs' := [.ref (ad 7 q), .int x]) (st' := [.int x, .int (nI p), .ref (ad 7 q)]) (M' := mm M (up2 (up2 f (ad 7 q) 6 0) (ad 7 q) 7 1) g) (ps := [ob (mm M (up2 (up2 f (ad 7 q) 6 0) (ad 7 q) 7 1) g) (ad 7 q) 9, (Value.int ((up2 (up2 f (ad 7 q) 6 0) (ad 7 q) 7 1) (ad 7 q) 4)) = .int (nI p)]) rfl ⟨ho, congrArg Value.int (((up2_n _ _ (fun z => absurd z.2 (by decide))).trans ((up2_n _ _ (fun z => absurd z.2 (by decide))).trans (rfl))).trans hs4), trivial⟩ ?_
                  refine go_callS rfl (by decide) rfl rfl (by omega) rfl (by decide) (by decide) ?_
                  refine s_Tx_partBehind (by omega) k1 ⟨ne_i, ?_⟩
                  show Go (d - 1) 93 0 0 66 [.ref (ad 7 q), .int x] [.int (pBI p x), .ref (ad 7 q)] (mm M (up2 (up2 f (ad 7 q) 6 0) (ad 7 q) 7 1) g) _
                  refine go_blk 4 [some (.int (pBI p x))] (pc' := 74) (vs' := [.ref (ad 7 q), .int x]) (st' := [.int (-1), .int (pBI p x)]) (M' := mm M (up2 (up2 (up2 f (ad 7 q) 6 0) (ad 7 q) 7 1) (ad 7 q) 4 (pBI p x)) g) (ps := [ob (mm M (up2 (up2 f (ad 7 q) 6 0) (ad 7 q) 7 1) g) (ad 7 q) 9, ob (mm M (up2 (up2 (up2 f (ad 7 q) 6 0) (ad 7 q) 7 1) (ad 7 q) 4 (pBI p x)) g) (ad 7 q) 9, (Value.int ((up2 (up2 (up2 f (ad 7 q) 6 0) (ad 7 q) 7 1) (ad 7 q) 4 (pBI p x)) (ad 7 q) 4)) = .int (pBI p x)]) rfl ⟨ho, ho, congrArg Value.int (up2_s _ _ _ _), trivial⟩ ?_
                  refine go_icmp rfl (fun (c25 : (pBI p x) = (-1)) => ?_) (fun (c25 : ¬ ((pBI p x) = (-1))) => ?_)
                  · -- (pBI p x) = (-1)
                    refine go_blk 1 [] (pc' := 82) (vs' := [.ref (ad 7 q), .int x]) (st' := [.int 0]) (M' := mm M (up2 (up2 (up2 f (ad 7 q) 6 0) (ad 7 q) 7 1) (ad 7 q) 4 (pBI p x)) g) (ps := []) rfl trivial ?_
                    refine go_zret rfl rfl (Or.inl rfl) ?_
                    refine ⟨ne_i, ?_⟩
                    show Go d 91 0 0 89 [.ref (ad 7 q), .int x, .int 0] [.int 0] (mm M (up2 (up2 (up2 f (ad 7 q) 6 0) (ad 7 q) 7 1) (ad 7 q) 4 (pBI p x)) g) R
                    refine go_zret rfl rfl (Or.inl rfl) ?_
                    have hpb := pBI_m1 c25
                    refine h0 _ ?_ (fun b k hn => by rw [up2_n _ _ (fun z => hn ⟨z.1, by omega, by omega⟩), up2_n _ _ (fun z => hn ⟨z.1, by omega, by omega⟩), up2_n _ _ (fun z => hn ⟨z.1, by omega, by omega⟩)])
                    clear h1 h0 hs4 hs5 hs6 hs7
                    simp only [tStep]
                    grind
                  · -- ¬ ((pBI p x) = (-1))
                    refine go_blk 2 [] (pc' := 82) (vs' := [.ref (ad 7 q), .int x]) (st' := [.int 1]) (M' := mm M (up2 (up2 (up2 f (ad 7 q) 6 0) (ad 7 q) 7 1) (ad 7 q) 4 (pBI p x)) g) (ps := []) rfl trivial ?_
                    refine go_zret rfl rfl (Or.inr rfl) ?_
                    refine ⟨ne_i, ?_⟩
                    show Go d 91 0 0 89 [.ref (ad 7 q), .int x, .int 0] [.int 1] (mm M (up2 (up2 (up2 f (ad 7 q) 6 0) (ad 7 q) 7 1) (ad 7 q) 4 (pBI p x)) g) R
                    refine go_zret rfl rfl (Or.inr rfl) ?_
                    obtain ⟨kk, hpb, hpc⟩ := pBI_k c25
                    refine h1 (kk, dp, 0, true) _ ?_ ⟨((up2_s _ _ _ _).trans hpc), (((up2_n _ _ (fun z => absurd z.2 (by decide))).trans ((up2_n _ _ (fun z => absurd z.2 (by decide))).trans ((up2_n _ _ (fun z => absurd z.2 (by decide))).trans (rfl)))).trans hs5), ((up2_n _ _ (fun z => absurd z.2 (by decide))).trans ((up2_n _ _ (fun z => absurd z.2 (by decide))).trans (up2_s _ _ _ _))), ((up2_n _ _ (fun z => absurd z.2 (by decide))).trans (up2_s _ _ _ _))⟩ (fun b k hn => by rw [up2_n _ _ (fun z => hn ⟨z.1, by omega, by omega⟩), up2_n _ _ (fun z => hn ⟨z.1, by omega, by omega⟩), up2_n _ _ (fun z => hn ⟨z.1, by omega, by omega⟩)])
                    clear h1 h0 hs4 hs5 hs6 hs7
                    simp only [tStep]
                    grind
            · -- ¬ ((nI dp) ≤ 0)
              have nc22 : 0 < dp := (nI_lts (a := 0) (b := dp) (by omega) (by omega)).mp (Int32.not_le.mp c22)
              refine go_blk 2 [] (pc' := 10) (vs' := [.ref (ad 7 q), .int x]) (st' := [.int 41, .int x]) (M' := mm M (up2 f (ad 7 q) 6 0) g) (ps := []) rfl trivial ?_
              refine go_icmp rfl (fun (c26 : ¬ x = 41) => ?_) (fun (c26 : ¬ (¬ x = 41)) => ?_)
              · -- ¬ x = 41
                refine go_blk 4 [] (pc' := 31) (vs' := [.ref (ad 7 q), .int x]) (st' := [.int x]) (M' := mm M (up2 (up2 f (ad 7 q) 6 0) (ad 7 q) 7 1) g) (ps := [ob (mm M (up2 f (ad 7 q) 6 0) g) (ad 7 q) 9, 1 = 0 ∨ 1 = 1]) rfl ⟨ho, (Or.inr rfl), trivial⟩ ?_
                refine go_callS rfl (by decide) rfl rfl (by omega) rfl (by decide) (by decide) ?_
                refine s_Tx_isPlusOrMinus (by omega) (fun c27 => ⟨ne_i, ?_⟩) (fun c27 => ⟨ne_i, ?_⟩)
                · -- 1
                  show Go (d - 1) 93 0 0 34 [.ref (ad 7 q), .int x] [.int 1] (mm M (up2 (up2 f (ad 7 q) 6 0) (ad 7 q) 7 1) g) _
                  refine go_if rfl (fun _ => ?_) (fun (z : ¬ (¬ (1 : Int32) = 0)) => absurd (show ¬ (1 : Int32) = 0 from (by decide)) z)
                  refine go_blk 1 [] (pc' := 45) (vs' := [.ref (ad 7 q), .int x]) (st' := [.int 1]) (M' := mm M (up2 (up2 f (ad 7 q) 6 0) (ad 7 q) 7 1) g) (ps := []) rfl trivial ?_
                  refine go_zret rfl rfl (Or.inr rfl) ?_
                  refine ⟨ne_i, ?_⟩
                  show Go d 91 0 0 89 [.ref (ad 7 q), .int x, .int 0] [.int 1] (mm M (up2 (up2 f (ad 7 q) 6 0) (ad 7 q) 7 1) g) R
                  refine go_zret rfl rfl (Or.inr rfl) ?_
                  refine h1 (p, dp, 0, true) _ ?_ ⟨(((up2_n _ _ (fun z => absurd z.2 (by decide))).trans ((up2_n _ _ (fun z => absurd z.2 (by decide))).trans (rfl))).trans hs4), (((up2_n _ _ (fun z => absurd z.2 (by decide))).trans ((up2_n _ _ (fun z => absurd z.2 (by decide))).trans (rfl))).trans hs5), ((up2_n _ _ (fun z => absurd z.2 (by decide))).trans (up2_s _ _ _ _)), (up2_s _ _ _ _)⟩ (fun b k hn => by rw [up2_n _ _ (fun z => hn ⟨z.1, by omega, by omega⟩), up2_n _ _ (fun z => hn ⟨z.1, by omega, by omega⟩)])
                  clear h1 h0 hs4 hs5 hs6 hs7
                  simp only [tStep]
                  grind
                · -- 0
                  show Go (d - 1) 93 0 0 34 [.ref (ad 7 q), .int x] [.int 0] (mm M (up2 (up2 f (ad 7 q) 6 0) (ad 7 q) 7 1) g) _
                  refine go_if rfl (fun (z : ¬ (0 : Int32) = 0) => absurd z (show ¬ (¬ (0 : Int32) = 0) from (by decide))) (fun _ => ?_)
                  refine go_blk 1 [] (pc' := 38) (vs' := [.ref (ad 7 q), .int x]) (st' := [.int x]) (M' := mm M (up2 (up2 f (ad 7 q) 6 0) (ad 7 q) 7 1) g) (ps := []) rfl trivial ?_
                  refine go_callS rfl (by decide) rfl rfl (by omega) rfl (by decide) (by decide) ?_
                  refine s_Tx_isTimesOrBy (by omega) (fun c28 => ⟨ne_i, ?_⟩) (fun c28 => ⟨ne_i, ?_⟩)
                  · -- 1
                    show Go (d - 1) 93 0 0 41 [.ref (ad 7 q), .int x] [.int 1] (mm M (up2 (up2 f (ad 7 q) 6 0) (ad 7 q) 7 1) g) _
                    refine go_if rfl (fun (z : (1 : Int32) = 0) => absurd z (show ¬ ((1 : Int32) = 0) from (by decide))) (fun _ => ?_)
                    refine go_blk 1 [] (pc' := 45) (vs' := [.ref (ad 7 q), .int x]) (st' := [.int 1]) (M' := mm M (up2 (up2 f (ad 7 q) 6 0) (ad 7 q) 7 1) g) (ps := []) rfl trivial ?_
                    refine go_zret rfl rfl (Or.inr rfl) ?_
                    refine ⟨ne_i, ?_⟩
                    show Go d 91 0 0 89 [.ref (ad 7 q), .int x, .int 0] [.int 1] (mm M (up2 (up2 f (ad 7 q) 6 0) (ad 7 q) 7 1) g) R
                    refine go_zret rfl rfl (Or.inr rfl) ?_
                    refine h1 (p, dp, 0, true) _ ?_ ⟨(((up2_n _ _ (fun z => absurd z.2 (by decide))).trans ((up2_n _ _ (fun z => absurd z.2 (by decide))).trans (rfl))).trans hs4), (((up2_n _ _ (fun z => absurd z.2 (by decide))).trans ((up2_n _ _ (fun z => absurd z.2 (by decide))).trans (rfl))).trans hs5), ((up2_n _ _ (fun z => absurd z.2 (by decide))).trans (up2_s _ _ _ _)), (up2_s _ _ _ _)⟩ (fun b k hn => by rw [up2_n _ _ (fun z => hn ⟨z.1, by omega, by omega⟩), up2_n _ _ (fun z => hn ⟨z.1, by omega, by omega⟩)])
                    clear h1 h0 hs4 hs5 hs6 hs7
                    simp only [tStep]
                    grind
                  · -- 0
                    show Go (d - 1) 93 0 0 41 [.ref (ad 7 q), .int x] [.int 0] (mm M (up2 (up2 f (ad 7 q) 6 0) (ad 7 q) 7 1) g) _
                    refine go_if rfl (fun _ => ?_) (fun (z : ¬ ((0 : Int32) = 0)) => absurd (show (0 : Int32) = 0 from (by decide)) z)
                    refine go_blk 3 [some (.int (nI dp))] (pc' := 51) (vs' := [.ref (ad 7 q), .int x]) (st' := [.int (nI dp), .ref (ad 7 q)]) (M' := mm M (up2 (up2 f (ad 7 q) 6 0) (ad 7 q) 7 1) g) (ps := [ob (mm M (up2 (up2 f (ad 7 q) 6 0) (ad 7 q) 7 1) g) (ad 7 q) 9, (Value.int ((up2 (up2 f (ad 7 q) 6 0) (ad 7 q) 7 1) (ad 7 q) 5)) = .int (nI dp)]) rfl ⟨ho, congrArg Value.int (((up2_n _ _ (fun z => absurd z.2 (by decide))).trans ((up2_n _ _ (fun z => absurd z.2 (by decide))).trans (rfl))).trans hs5), trivial⟩ ?_
                    refine go_if rfl (fun (z : (nI dp) ≤ 0) => absurd z (show ¬ ((nI dp) ≤ 0) from c22)) (fun _ => ?_)
                    refine go_blk 6 [some (.int (-1))] (pc' := 74) (vs' := [.ref (ad 7 q), .int x]) (st' := [.int (-1), .int (-1)]) (M' := mm M (up2 (up2 (up2 f (ad 7 q) 6 0) (ad 7 q) 7 1) (ad 7 q) 4 (-1)) g) (ps := [ob (mm M (up2 (up2 f (ad 7 q) 6 0) (ad 7 q) 7 1) g) (ad 7 q) 9, ob (mm M (up2 (up2 (up2 f (ad 7 q) 6 0) (ad 7 q) 7 1) (ad 7 q) 4 (-1)) g) (ad 7 q) 9, (Value.int ((up2 (up2 (up2 f (ad 7 q) 6 0) (ad 7 q) 7 1) (ad 7 q) 4 (-1)) (ad 7 q) 4)) = .int (-1)]) rfl ⟨ho, ho, congrArg Value.int (up2_s _ _ _ _), trivial⟩ ?_
                    refine go_icmp rfl (fun _ => ?_) (fun (z : ¬ (((-1) : Int32) = (-1))) => absurd (show ((-1) : Int32) = (-1) from (by decide)) z)
                    refine go_blk 1 [] (pc' := 82) (vs' := [.ref (ad 7 q), .int x]) (st' := [.int 0]) (M' := mm M (up2 (up2 (up2 f (ad 7 q) 6 0) (ad 7 q) 7 1) (ad 7 q) 4 (-1)) g) (ps := []) rfl trivial ?_
                    refine go_zret rfl rfl (Or.inl rfl) ?_
                    refine ⟨ne_i, ?_⟩
                    show Go d 91 0 0 89 [.ref (ad 7 q), .int x, .int 0] [.int 0] (mm M (up2 (up2 (up2 f (ad 7 q) 6 0) (ad 7 q) 7 1) (ad 7 q) 4 (-1)) g) R
                    refine go_zret rfl rfl (Or.inl rfl) ?_
                    refine h0 _ ?_ (fun b k hn => by rw [up2_n _ _ (fun z => hn ⟨z.1, by omega, by omega⟩), up2_n _ _ (fun z => hn ⟨z.1, by omega, by omega⟩), up2_n _ _ (fun z => hn ⟨z.1, by omega, by omega⟩)])
                    clear h1 h0 hs4 hs5 hs6 hs7
                    simp only [tStep]
                    grind
              · -- ¬ (¬ x = 41)
                refine go_blk 7 [some (.int (nI dp))] (pc' := 24) (vs' := [.ref (ad 7 q), .int x]) (st' := [.int 1]) (M' := mm M (up2 (up2 f (ad 7 q) 6 0) (ad 7 q) 5 ((nI dp) - 1)) g) (ps := [(.ref (ad 7 q) : Value).category = 1, ob (mm M (up2 f (ad 7 q) 6 0) g) (ad 7 q) 9, (Value.int ((up2 f (ad 7 q) 6 0) (ad 7 q) 5)) = .int (nI dp), ob (mm M (up2 f (ad 7 q) 6 0) g) (ad 7 q) 9]) rfl ⟨rfl, ho, congrArg Value.int (((up2_n _ _ (fun z => absurd z.2 (by decide))).trans (rfl)).trans hs5), ho, trivial⟩ ?_
                refine go_zret rfl rfl (Or.inr rfl) ?_
                refine ⟨ne_i, ?_⟩
                show Go d 91 0 0 89 [.ref (ad 7 q), .int x, .int 0] [.int 1] (mm M (up2 (up2 f (ad 7 q) 6 0) (ad 7 q) 5 ((nI dp) - 1)) g) R
                refine go_zret rfl rfl (Or.inr rfl) ?_
                refine h1 (p, dp - 1, 0, false) _ ?_ ⟨(((up2_n _ _ (fun z => absurd z.2 (by decide))).trans ((up2_n _ _ (fun z => absurd z.2 (by decide))).trans (rfl))).trans hs4), ((up2_s _ _ _ _).trans (pk_sub (a := dp) (b := 1) (by omega))), ((up2_n _ _ (fun z => absurd z.2 (by decide))).trans (up2_s _ _ _ _)), (((up2_n _ _ (fun z => absurd z.2 (by decide))).trans ((up2_n _ _ (fun z => absurd z.2 (by decide))).trans (rfl))).trans hs7)⟩ (fun b k hn => by rw [up2_n _ _ (fun z => hn ⟨z.1, by omega, by omega⟩), up2_n _ _ (fun z => hn ⟨z.1, by omega, by omega⟩)])
                clear h1 h0 hs4 hs5 hs6 hs7
                simp only [tStep]
                grind
          · -- ¬ (¬ x = 32)
            refine go_blk 1 [] (pc' := 68) (vs' := [.ref (ad 7 q), .int x, .int 0]) (st' := [.int 1]) (M' := mm M (up2 f (ad 7 q) 6 0) g) (ps := []) rfl trivial ?_
            refine go_zret rfl rfl (Or.inr rfl) ?_
            refine h1 (p, dp, 0, false) _ ?_ ⟨(((up2_n _ _ (fun z => absurd z.2 (by decide))).trans (rfl)).trans hs4), (((up2_n _ _ (fun z => absurd z.2 (by decide))).trans (rfl)).trans hs5), (up2_s _ _ _ _), (((up2_n _ _ (fun z => absurd z.2 (by decide))).trans (rfl)).trans hs7)⟩ (fun b k hn => by rw [up2_n _ _ (fun z => hn ⟨z.1, by omega, by omega⟩)])
            clear h1 h0 hs4 hs5 hs6 hs7
            simp only [tStep]
            grind
        · -- 0
          show Go d 91 0 0 25 [.ref (ad 7 q), .int x, .int 0] [.int 0] (mm M f g) R
          refine go_if rfl (fun _ => ?_) (fun (z : ¬ ((0 : Int32) = 0)) => absurd (show (0 : Int32) = 0 from (by decide)) z)
          refine go_blk 5 [] (pc' := 64) (vs' := [.ref (ad 7 q), .int x, .int 0]) (st' := [.int 32, .int x]) (M' := mm M (up2 f (ad 7 q) 6 0) g) (ps := [ob (mm M f g) (ad 7 q) 9]) rfl ⟨ho, trivial⟩ ?_
          refine go_icmp rfl (fun (c29 : ¬ x = 32) => ?_) (fun (c29 : ¬ (¬ x = 32)) => ?_)
          · -- ¬ x = 32
            refine go_blk 2 [some (.int 0)] (pc' := 73) (vs' := [.ref (ad 7 q), .int x, .int 0]) (st' := [.int 0]) (M' := mm M (up2 f (ad 7 q) 6 0) g) (ps := [ob (mm M (up2 f (ad 7 q) 6 0) g) (ad 7 q) 9, (Value.int ((up2 f (ad 7 q) 6 0) (ad 7 q) 7)) = .int 0]) rfl ⟨ho, congrArg Value.int (((up2_n _ _ (fun z => absurd z.2 (by decide))).trans (rfl)).trans hs7), trivial⟩ ?_
            refine go_if rfl (fun _ => ?_) (fun (z : ¬ ((0 : Int32) = 0)) => absurd (show (0 : Int32) = 0 from (by decide)) z)
            refine go_blk 2 [] (pc' := 86) (vs' := [.ref (ad 7 q), .int x, .int 0]) (st' := [.int x, .ref (ad 7 q)]) (M' := mm M (up2 f (ad 7 q) 6 0) g) (ps := []) rfl trivial ?_
            refine go_callV rfl rfl rfl (by omega) rfl (by decide) (by decide) ho ?_
            show Go (d - 1) 93 0 0 0 [.ref (ad 7 q), .int x] [] (mm M (up2 f (ad 7 q) 6 0) g) _
            refine go_blk 2 [some (.int (nI dp))] (pc' := 4) (vs' := [.ref (ad 7 q), .int x]) (st' := [.int (nI dp)]) (M' := mm M (up2 f (ad 7 q) 6 0) g) (ps := [ob (mm M (up2 f (ad 7 q) 6 0) g) (ad 7 q) 9, (Value.int ((up2 f (ad 7 q) 6 0) (ad 7 q) 5)) = .int (nI dp)]) rfl ⟨ho, congrArg Value.int (((up2_n _ _ (fun z => absurd z.2 (by decide))).trans (rfl)).trans hs5), trivial⟩ ?_
            refine go_if rfl (fun (c30 : (nI dp) ≤ 0) => ?_) (fun (c30 : ¬ ((nI dp) ≤ 0)) => ?_)
            · -- (nI dp) ≤ 0
              have nc30 : dp ≤ 0 := (nI_les (a := dp) (b := 0) (by omega) (by omega)).mp c30
              refine go_blk 4 [] (pc' := 31) (vs' := [.ref (ad 7 q), .int x]) (st' := [.int x]) (M' := mm M (up2 (up2 f (ad 7 q) 6 0) (ad 7 q) 7 1) g) (ps := [ob (mm M (up2 f (ad 7 q) 6 0) g) (ad 7 q) 9, 1 = 0 ∨ 1 = 1]) rfl ⟨ho, (Or.inr rfl), trivial⟩ ?_
              refine go_callS rfl (by decide) rfl rfl (by omega) rfl (by decide) (by decide) ?_
              refine s_Tx_isPlusOrMinus (by omega) (fun c31 => ⟨ne_i, ?_⟩) (fun c31 => ⟨ne_i, ?_⟩)
              · -- 1
                show Go (d - 1) 93 0 0 34 [.ref (ad 7 q), .int x] [.int 1] (mm M (up2 (up2 f (ad 7 q) 6 0) (ad 7 q) 7 1) g) _
                refine go_if rfl (fun _ => ?_) (fun (z : ¬ (¬ (1 : Int32) = 0)) => absurd (show ¬ (1 : Int32) = 0 from (by decide)) z)
                refine go_blk 1 [] (pc' := 45) (vs' := [.ref (ad 7 q), .int x]) (st' := [.int 1]) (M' := mm M (up2 (up2 f (ad 7 q) 6 0) (ad 7 q) 7 1) g) (ps := []) rfl trivial ?_
                refine go_zret rfl rfl (Or.inr rfl) ?_
                refine ⟨ne_i, ?_⟩
                show Go d 91 0 0 89 [.ref (ad 7 q), .int x, .int 0] [.int 1] (mm M (up2 (up2 f (ad 7 q) 6 0) (ad 7 q) 7 1) g) R
                refine go_zret rfl rfl (Or.inr rfl) ?_
                refine h1 (p, dp, 0, true) _ ?_ ⟨(((up2_n _ _ (fun z => absurd z.2 (by decide))).trans ((up2_n _ _ (fun z => absurd z.2 (by decide))).trans (rfl))).trans hs4), (((up2_n _ _ (fun z => absurd z.2 (by decide))).trans ((up2_n _ _ (fun z => absurd z.2 (by decide))).trans (rfl))).trans hs5), ((up2_n _ _ (fun z => absurd z.2 (by decide))).trans (up2_s _ _ _ _)), (up2_s _ _ _ _)⟩ (fun b k hn => by rw [up2_n _ _ (fun z => hn ⟨z.1, by omega, by omega⟩), up2_n _ _ (fun z => hn ⟨z.1, by omega, by omega⟩)])
                clear h1 h0 hs4 hs5 hs6 hs7
                simp only [tStep]
                grind
              · -- 0
                show Go (d - 1) 93 0 0 34 [.ref (ad 7 q), .int x] [.int 0] (mm M (up2 (up2 f (ad 7 q) 6 0) (ad 7 q) 7 1) g) _
                refine go_if rfl (fun (z : ¬ (0 : Int32) = 0) => absurd z (show ¬ (¬ (0 : Int32) = 0) from (by decide))) (fun _ => ?_)
                refine go_blk 1 [] (pc' := 38) (vs' := [.ref (ad 7 q), .int x]) (st' := [.int x]) (M' := mm M (up2 (up2 f (ad 7 q) 6 0) (ad 7 q) 7 1) g) (ps := []) rfl trivial ?_
                refine go_callS rfl (by decide) rfl rfl (by omega) rfl (by decide) (by decide) ?_
                refine s_Tx_isTimesOrBy (by omega) (fun c32 => ⟨ne_i, ?_⟩) (fun c32 => ⟨ne_i, ?_⟩)
                · -- 1
                  show Go (d - 1) 93 0 0 41 [.ref (ad 7 q), .int x] [.int 1] (mm M (up2 (up2 f (ad 7 q) 6 0) (ad 7 q) 7 1) g) _
                  refine go_if rfl (fun (z : (1 : Int32) = 0) => absurd z (show ¬ ((1 : Int32) = 0) from (by decide))) (fun _ => ?_)
                  refine go_blk 1 [] (pc' := 45) (vs' := [.ref (ad 7 q), .int x]) (st' := [.int 1]) (M' := mm M (up2 (up2 f (ad 7 q) 6 0) (ad 7 q) 7 1) g) (ps := []) rfl trivial ?_
                  refine go_zret rfl rfl (Or.inr rfl) ?_
                  refine ⟨ne_i, ?_⟩
                  show Go d 91 0 0 89 [.ref (ad 7 q), .int x, .int 0] [.int 1] (mm M (up2 (up2 f (ad 7 q) 6 0) (ad 7 q) 7 1) g) R
                  refine go_zret rfl rfl (Or.inr rfl) ?_
                  refine h1 (p, dp, 0, true) _ ?_ ⟨(((up2_n _ _ (fun z => absurd z.2 (by decide))).trans ((up2_n _ _ (fun z => absurd z.2 (by decide))).trans (rfl))).trans hs4), (((up2_n _ _ (fun z => absurd z.2 (by decide))).trans ((up2_n _ _ (fun z => absurd z.2 (by decide))).trans (rfl))).trans hs5), ((up2_n _ _ (fun z => absurd z.2 (by decide))).trans (up2_s _ _ _ _)), (up2_s _ _ _ _)⟩ (fun b k hn => by rw [up2_n _ _ (fun z => hn ⟨z.1, by omega, by omega⟩), up2_n _ _ (fun z => hn ⟨z.1, by omega, by omega⟩)])
                  clear h1 h0 hs4 hs5 hs6 hs7
                  simp only [tStep]
                  grind
                · -- 0
                  show Go (d - 1) 93 0 0 41 [.ref (ad 7 q), .int x] [.int 0] (mm M (up2 (up2 f (ad 7 q) 6 0) (ad 7 q) 7 1) g) _
                  refine go_if rfl (fun _ => ?_) (fun (z : ¬ ((0 : Int32) = 0)) => absurd (show (0 : Int32) = 0 from (by decide)) z)
                  refine go_blk 3 [some (.int (nI dp))] (pc' := 51) (vs' := [.ref (ad 7 q), .int x]) (st' := [.int (nI dp), .ref (ad 7 q)]) (M' := mm M (up2 (up2 f (ad 7 q) 6 0) (ad 7 q) 7 1) g) (ps := [ob (mm M (up2 (up2 f (ad 7 q) 6 0) (ad 7 q) 7 1) g) (ad 7 q) 9, (Value.int ((up2 (up2 f (ad 7 q) 6 0) (ad 7 q) 7 1) (ad 7 q) 5)) = .int (nI dp)]) rfl ⟨ho, congrArg Value.int (((up2_n _ _ (fun z => absurd z.2 (by decide))).trans ((up2_n _ _ (fun z => absurd z.2 (by decide))).trans (rfl))).trans hs5), trivial⟩ ?_
                  refine go_if rfl (fun _ => ?_) (fun (z : ¬ ((nI dp) ≤ 0)) => absurd (show (nI dp) ≤ 0 from c30) z)
                  refine go_blk 3 [some (.int (nI p))] (pc' := 63) (vs' := [.ref (ad 7 q), .int x]) (st' := [.int x, .int (nI p), .ref (ad 7 q)]) (M' := mm M (up2 (up2 f (ad 7 q) 6 0) (ad 7 q) 7 1) g) (ps := [ob (mm M (up2 (up2 f (ad 7 q) 6 0) (ad 7 q) 7 1) g) (ad 7 q) 9, (Value.int ((up2 (up2 f (ad 7 q) 6 0) (ad 7 q) 7 1) (ad 7 q) 4)) = .int (nI p)]) rfl ⟨ho, congrArg Value.int (((up2_n _ _ (fun z => absurd z.2 (by decide))).trans ((up2_n _ _ (fun z => absurd z.2 (by decide))).trans (rfl))).trans hs4), trivial⟩ ?_
                  refine go_callS rfl (by decide) rfl rfl (by omega) rfl (by decide) (by decide) ?_
                  refine s_Tx_partBehind (by omega) k1 ⟨ne_i, ?_⟩
                  show Go (d - 1) 93 0 0 66 [.ref (ad 7 q), .int x] [.int (pBI p x), .ref (ad 7 q)] (mm M (up2 (up2 f (ad 7 q) 6 0) (ad 7 q) 7 1) g) _
                  refine go_blk 4 [some (.int (pBI p x))] (pc' := 74) (vs' := [.ref (ad 7 q), .int x]) (st' := [.int (-1), .int (pBI p x)]) (M' := mm M (up2 (up2 (up2 f (ad 7 q) 6 0) (ad 7 q) 7 1) (ad 7 q) 4 (pBI p x)) g) (ps := [ob (mm M (up2 (up2 f (ad 7 q) 6 0) (ad 7 q) 7 1) g) (ad 7 q) 9, ob (mm M (up2 (up2 (up2 f (ad 7 q) 6 0) (ad 7 q) 7 1) (ad 7 q) 4 (pBI p x)) g) (ad 7 q) 9, (Value.int ((up2 (up2 (up2 f (ad 7 q) 6 0) (ad 7 q) 7 1) (ad 7 q) 4 (pBI p x)) (ad 7 q) 4)) = .int (pBI p x)]) rfl ⟨ho, ho, congrArg Value.int (up2_s _ _ _ _), trivial⟩ ?_
                  refine go_icmp rfl (fun (c33 : (pBI p x) = (-1)) => ?_) (fun (c33 : ¬ ((pBI p x) = (-1))) => ?_)
                  · -- (pBI p x) = (-1)
                    refine go_blk 1 [] (pc' := 82) (vs' := [.ref (ad 7 q), .int x]) (st' := [.int 0]) (M' := mm M (up2 (up2 (up2 f (ad 7 q) 6 0) (ad 7 q) 7 1) (ad 7 q) 4 (pBI p x)) g) (ps := []) rfl trivial ?_
                    refine go_zret rfl rfl (Or.inl rfl) ?_
                    refine ⟨ne_i, ?_⟩
                    show Go d 91 0 0 89 [.ref (ad 7 q), .int x, .int 0] [.int 0] (mm M (up2 (up2 (up2 f (ad 7 q) 6 0) (ad 7 q) 7 1) (ad 7 q) 4 (pBI p x)) g) R
                    refine go_zret rfl rfl (Or.inl rfl) ?_
                    have hpb := pBI_m1 c33
                    refine h0 _ ?_ (fun b k hn => by rw [up2_n _ _ (fun z => hn ⟨z.1, by omega, by omega⟩), up2_n _ _ (fun z => hn ⟨z.1, by omega, by omega⟩), up2_n _ _ (fun z => hn ⟨z.1, by omega, by omega⟩)])
                    clear h1 h0 hs4 hs5 hs6 hs7
                    simp only [tStep]
                    grind
                  · -- ¬ ((pBI p x) = (-1))
                    refine go_blk 2 [] (pc' := 82) (vs' := [.ref (ad 7 q), .int x]) (st' := [.int 1]) (M' := mm M (up2 (up2 (up2 f (ad 7 q) 6 0) (ad 7 q) 7 1) (ad 7 q) 4 (pBI p x)) g) (ps := []) rfl trivial ?_
                    refine go_zret rfl rfl (Or.inr rfl) ?_
                    refine ⟨ne_i, ?_⟩
                    show Go d 91 0 0 89 [.ref (ad 7 q), .int x, .int 0] [.int 1] (mm M (up2 (up2 (up2 f (ad 7 q) 6 0) (ad 7 q) 7 1) (ad 7 q) 4 (pBI p x)) g) R
                    refine go_zret rfl rfl (Or.inr rfl) ?_
                    obtain ⟨kk, hpb, hpc⟩ := pBI_k c33
                    refine h1 (kk, dp, 0, true) _ ?_ ⟨((up2_s _ _ _ _).trans hpc), (((up2_n _ _ (fun z => absurd z.2 (by decide))).trans ((up2_n _ _ (fun z => absurd z.2 (by decide))).trans ((up2_n _ _ (fun z => absurd z.2 (by decide))).trans (rfl)))).trans hs5), ((up2_n _ _ (fun z => absurd z.2 (by decide))).trans ((up2_n _ _ (fun z => absurd z.2 (by decide))).trans (up2_s _ _ _ _))), ((up2_n _ _ (fun z => absurd z.2 (by decide))).trans (up2_s _ _ _ _))⟩ (fun b k hn => by rw [up2_n _ _ (fun z => hn ⟨z.1, by omega, by omega⟩), up2_n _ _ (fun z => hn ⟨z.1, by omega, by omega⟩), up2_n _ _ (fun z => hn ⟨z.1, by omega, by omega⟩)])
                    clear h1 h0 hs4 hs5 hs6 hs7
                    simp only [tStep]
                    grind
            · -- ¬ ((nI dp) ≤ 0)
              have nc30 : 0 < dp := (nI_lts (a := 0) (b := dp) (by omega) (by omega)).mp (Int32.not_le.mp c30)
              refine go_blk 2 [] (pc' := 10) (vs' := [.ref (ad 7 q), .int x]) (st' := [.int 41, .int x]) (M' := mm M (up2 f (ad 7 q) 6 0) g) (ps := []) rfl trivial ?_
              refine go_icmp rfl (fun (c34 : ¬ x = 41) => ?_) (fun (c34 : ¬ (¬ x = 41)) => ?_)
              · -- ¬ x = 41
                refine go_blk 4 [] (pc' := 31) (vs' := [.ref (ad 7 q), .int x]) (st' := [.int x]) (M' := mm M (up2 (up2 f (ad 7 q) 6 0) (ad 7 q) 7 1) g) (ps := [ob (mm M (up2 f (ad 7 q) 6 0) g) (ad 7 q) 9, 1 = 0 ∨ 1 = 1]) rfl ⟨ho, (Or.inr rfl), trivial⟩ ?_
                refine go_callS rfl (by decide) rfl rfl (by omega) rfl (by decide) (by decide) ?_
                refine s_Tx_isPlusOrMinus (by omega) (fun c35 => ⟨ne_i, ?_⟩) (fun c35 => ⟨ne_i, ?_⟩)
                · -- 1
                  show Go (d - 1) 93 0 0 34 [.ref (ad 7 q), .int x] [.int 1] (mm M (up2 (up2 f (ad 7 q) 6 0) (ad 7 q) 7 1) g) _
                  refine go_if rfl (fun _ => ?_) (fun (z : ¬ (¬ (1 : Int32) = 0)) => absurd (show ¬ (1 : Int32) = 0 from (by decide)) z)
                  refine go_blk 1 [] (pc' := 45) (vs' := [.ref (ad 7 q), .int x]) (st' := [.int 1]) (M' := mm M (up2 (up2 f (ad 7 q) 6 0) (ad 7 q) 7 1) g) (ps := []) rfl trivial ?_
                  refine go_zret rfl rfl (Or.inr rfl) ?_
                  refine ⟨ne_i, ?_⟩
                  show Go d 91 0 0 89 [.ref (ad 7 q), .int x, .int 0] [.int 1] (mm M (up2 (up2 f (ad 7 q) 6 0) (ad 7 q) 7 1) g) R
                  refine go_zret rfl rfl (Or.inr rfl) ?_
                  refine h1 (p, dp, 0, true) _ ?_ ⟨(((up2_n _ _ (fun z => absurd z.2 (by decide))).trans ((up2_n _ _ (fun z => absurd z.2 (by decide))).trans (rfl))).trans hs4), (((up2_n _ _ (fun z => absurd z.2 (by decide))).trans ((up2_n _ _ (fun z => absurd z.2 (by decide))).trans (rfl))).trans hs5), ((up2_n _ _ (fun z => absurd z.2 (by decide))).trans (up2_s _ _ _ _)), (up2_s _ _ _ _)⟩ (fun b k hn => by rw [up2_n _ _ (fun z => hn ⟨z.1, by omega, by omega⟩), up2_n _ _ (fun z => hn ⟨z.1, by omega, by omega⟩)])
                  clear h1 h0 hs4 hs5 hs6 hs7
                  simp only [tStep]
                  grind
                · -- 0
                  show Go (d - 1) 93 0 0 34 [.ref (ad 7 q), .int x] [.int 0] (mm M (up2 (up2 f (ad 7 q) 6 0) (ad 7 q) 7 1) g) _
                  refine go_if rfl (fun (z : ¬ (0 : Int32) = 0) => absurd z (show ¬ (¬ (0 : Int32) = 0) from (by decide))) (fun _ => ?_)
                  refine go_blk 1 [] (pc' := 38) (vs' := [.ref (ad 7 q), .int x]) (st' := [.int x]) (M' := mm M (up2 (up2 f (ad 7 q) 6 0) (ad 7 q) 7 1) g) (ps := []) rfl trivial ?_
                  refine go_callS rfl (by decide) rfl rfl (by omega) rfl (by decide) (by decide) ?_
                  refine s_Tx_isTimesOrBy (by omega) (fun c36 => ⟨ne_i, ?_⟩) (fun c36 => ⟨ne_i, ?_⟩)
                  · -- 1
                    show Go (d - 1) 93 0 0 41 [.ref (ad 7 q), .int x] [.int 1] (mm M (up2 (up2 f (ad 7 q) 6 0) (ad 7 q) 7 1) g) _
                    refine go_if rfl (fun (z : (1 : Int32) = 0) => absurd z (show ¬ ((1 : Int32) = 0) from (by decide))) (fun _ => ?_)
                    refine go_blk 1 [] (pc' := 45) (vs' := [.ref (ad 7 q), .int x]) (st' := [.int 1]) (M' := mm M (up2 (up2 f (ad 7 q) 6 0) (ad 7 q) 7 1) g) (ps := []) rfl trivial ?_
                    refine go_zret rfl rfl (Or.inr rfl) ?_
                    refine ⟨ne_i, ?_⟩
                    show Go d 91 0 0 89 [.ref (ad 7 q), .int x, .int 0] [.int 1] (mm M (up2 (up2 f (ad 7 q) 6 0) (ad 7 q) 7 1) g) R
                    refine go_zret rfl rfl (Or.inr rfl) ?_
                    refine h1 (p, dp, 0, true) _ ?_ ⟨(((up2_n _ _ (fun z => absurd z.2 (by decide))).trans ((up2_n _ _ (fun z => absurd z.2 (by decide))).trans (rfl))).trans hs4), (((up2_n _ _ (fun z => absurd z.2 (by decide))).trans ((up2_n _ _ (fun z => absurd z.2 (by decide))).trans (rfl))).trans hs5), ((up2_n _ _ (fun z => absurd z.2 (by decide))).trans (up2_s _ _ _ _)), (up2_s _ _ _ _)⟩ (fun b k hn => by rw [up2_n _ _ (fun z => hn ⟨z.1, by omega, by omega⟩), up2_n _ _ (fun z => hn ⟨z.1, by omega, by omega⟩)])
                    clear h1 h0 hs4 hs5 hs6 hs7
                    simp only [tStep]
                    grind
                  · -- 0
                    show Go (d - 1) 93 0 0 41 [.ref (ad 7 q), .int x] [.int 0] (mm M (up2 (up2 f (ad 7 q) 6 0) (ad 7 q) 7 1) g) _
                    refine go_if rfl (fun _ => ?_) (fun (z : ¬ ((0 : Int32) = 0)) => absurd (show (0 : Int32) = 0 from (by decide)) z)
                    refine go_blk 3 [some (.int (nI dp))] (pc' := 51) (vs' := [.ref (ad 7 q), .int x]) (st' := [.int (nI dp), .ref (ad 7 q)]) (M' := mm M (up2 (up2 f (ad 7 q) 6 0) (ad 7 q) 7 1) g) (ps := [ob (mm M (up2 (up2 f (ad 7 q) 6 0) (ad 7 q) 7 1) g) (ad 7 q) 9, (Value.int ((up2 (up2 f (ad 7 q) 6 0) (ad 7 q) 7 1) (ad 7 q) 5)) = .int (nI dp)]) rfl ⟨ho, congrArg Value.int (((up2_n _ _ (fun z => absurd z.2 (by decide))).trans ((up2_n _ _ (fun z => absurd z.2 (by decide))).trans (rfl))).trans hs5), trivial⟩ ?_
                    refine go_if rfl (fun (z : (nI dp) ≤ 0) => absurd z (show ¬ ((nI dp) ≤ 0) from c30)) (fun _ => ?_)
                    refine go_blk 6 [some (.int (-1))] (pc' := 74) (vs' := [.ref (ad 7 q), .int x]) (st' := [.int (-1), .int (-1)]) (M' := mm M (up2 (up2 (up2 f (ad 7 q) 6 0) (ad 7 q) 7 1) (ad 7 q) 4 (-1)) g) (ps := [ob (mm M (up2 (up2 f (ad 7 q) 6 0) (ad 7 q) 7 1) g) (ad 7 q) 9, ob (mm M (up2 (up2 (up2 f (ad 7 q) 6 0) (ad 7 q) 7 1) (ad 7 q) 4 (-1)) g) (ad 7 q) 9, (Value.int ((up2 (up2 (up2 f (ad 7 q) 6 0) (ad 7 q) 7 1) (ad 7 q) 4 (-1)) (ad 7 q) 4)) = .int (-1)]) rfl ⟨ho, ho, congrArg Value.int (up2_s _ _ _ _), trivial⟩ ?_
                    refine go_icmp rfl (fun _ => ?_) (fun (z : ¬ (((-1) : Int32) = (-1))) => absurd (show ((-1) : Int32) = (-1) from (by decide)) z)
                    refine go_blk 1 [] (pc' := 82) (vs' := [.ref (ad 7 q), .int x]) (st' := [.int 0]) (M' := mm M (up2 (up2 (up2 f (ad 7 q) 6 0) (ad 7 q) 7 1) (ad 7 q) 4 (-1)) g) (ps := []) rfl trivial ?_
                    refine go_zret rfl rfl (Or.inl rfl) ?_
                    refine ⟨ne_i, ?_⟩
                    show Go d 91 0 0 89 [.ref (ad 7 q), .int x, .int 0] [.int 0] (mm M (up2 (up2 (up2 f (ad 7 q) 6 0) (ad 7 q) 7 1) (ad 7 q) 4 (-1)) g) R
                    refine go_zret rfl rfl (Or.inl rfl) ?_
                    refine h0 _ ?_ (fun b k hn => by rw [up2_n _ _ (fun z => hn ⟨z.1, by omega, by omega⟩), up2_n _ _ (fun z => hn ⟨z.1, by omega, by omega⟩), up2_n _ _ (fun z => hn ⟨z.1, by omega, by omega⟩)])
                    clear h1 h0 hs4 hs5 hs6 hs7
                    simp only [tStep]
                    grind
              · -- ¬ (¬ x = 41)
                refine go_blk 7 [some (.int (nI dp))] (pc' := 24) (vs' := [.ref (ad 7 q), .int x]) (st' := [.int 1]) (M' := mm M (up2 (up2 f (ad 7 q) 6 0) (ad 7 q) 5 ((nI dp) - 1)) g) (ps := [(.ref (ad 7 q) : Value).category = 1, ob (mm M (up2 f (ad 7 q) 6 0) g) (ad 7 q) 9, (Value.int ((up2 f (ad 7 q) 6 0) (ad 7 q) 5)) = .int (nI dp), ob (mm M (up2 f (ad 7 q) 6 0) g) (ad 7 q) 9]) rfl ⟨rfl, ho, congrArg Value.int (((up2_n _ _ (fun z => absurd z.2 (by decide))).trans (rfl)).trans hs5), ho, trivial⟩ ?_
                refine go_zret rfl rfl (Or.inr rfl) ?_
                refine ⟨ne_i, ?_⟩
                show Go d 91 0 0 89 [.ref (ad 7 q), .int x, .int 0] [.int 1] (mm M (up2 (up2 f (ad 7 q) 6 0) (ad 7 q) 5 ((nI dp) - 1)) g) R
                refine go_zret rfl rfl (Or.inr rfl) ?_
                refine h1 (p, dp - 1, 0, false) _ ?_ ⟨(((up2_n _ _ (fun z => absurd z.2 (by decide))).trans ((up2_n _ _ (fun z => absurd z.2 (by decide))).trans (rfl))).trans hs4), ((up2_s _ _ _ _).trans (pk_sub (a := dp) (b := 1) (by omega))), ((up2_n _ _ (fun z => absurd z.2 (by decide))).trans (up2_s _ _ _ _)), (((up2_n _ _ (fun z => absurd z.2 (by decide))).trans ((up2_n _ _ (fun z => absurd z.2 (by decide))).trans (rfl))).trans hs7)⟩ (fun b k hn => by rw [up2_n _ _ (fun z => hn ⟨z.1, by omega, by omega⟩), up2_n _ _ (fun z => hn ⟨z.1, by omega, by omega⟩)])
                clear h1 h0 hs4 hs5 hs6 hs7
                simp only [tStep]
                grind
          · -- ¬ (¬ x = 32)
            refine go_blk 1 [] (pc' := 68) (vs' := [.ref (ad 7 q), .int x, .int 0]) (st' := [.int 1]) (M' := mm M (up2 f (ad 7 q) 6 0) g) (ps := []) rfl trivial ?_
            refine go_zret rfl rfl (Or.inr rfl) ?_
            refine h1 (p, dp, 0, false) _ ?_ ⟨(((up2_n _ _ (fun z => absurd z.2 (by decide))).trans (rfl)).trans hs4), (((up2_n _ _ (fun z => absurd z.2 (by decide))).trans (rfl)).trans hs5), (up2_s _ _ _ _), (((up2_n _ _ (fun z => absurd z.2 (by decide))).trans (rfl)).trans hs7)⟩ (fun b k hn => by rw [up2_n _ _ (fun z => hn ⟨z.1, by omega, by omega⟩)])
            clear h1 h0 hs4 hs5 hs6 hs7
            simp only [tStep]
            grind
      · -- ¬ (4 ≤ (nI dg))
        have nc19 : dg < 4 := (nI_lts (a := dg) (b := 4) (by omega) (by omega)).mp (Int32.not_le.mp c19)
        refine go_blk 4 [] (pc' := 22) (vs' := [.ref (ad 7 q), .int x, .int 1]) (st' := [.int x]) (M' := mm M f g) (ps := []) rfl trivial ?_
        refine go_callS rfl (by decide) rfl rfl (by omega) rfl (by decide) (by decide) ?_
        refine s_Tx_isDigit (by omega) (fun c37 => ⟨ne_i, ?_⟩) (fun c37 => ⟨ne_i, ?_⟩)
        · -- 1
          show Go d 91 0 0 25 [.ref (ad 7 q), .int x, .int 1] [.int 1] (mm M f g) R
          refine go_if rfl (fun (z : (1 : Int32) = 0) => absurd z (show ¬ ((1 : Int32) = 0) from (by decide))) (fun _ => ?_)
          refine go_blk 2 [some (.int 0)] (pc' := 32) (vs' := [.ref (ad 7 q), .int x, .int 1]) (st' := [.int 0]) (M' := mm M f g) (ps := [ob (mm M f g) (ad 7 q) 9, (Value.int (f (ad 7 q) 7)) = .int 0]) rfl ⟨ho, congrArg Value.int hs7, trivial⟩ ?_
          refine go_if rfl (fun (z : ¬ (0 : Int32) = 0) => absurd z (show ¬ (¬ (0 : Int32) = 0) from (by decide))) (fun _ => ?_)
          refine go_blk 1 [] (pc' := 36) (vs' := [.ref (ad 7 q), .int x, .int 1]) (st' := [.int 1]) (M' := mm M f g) (ps := []) rfl trivial ?_
          refine go_if rfl (fun (z : (1 : Int32) = 0) => absurd z (show ¬ ((1 : Int32) = 0) from (by decide))) (fun _ => ?_)
          refine go_blk 10 [some (.int (nI dg))] (pc' := 55) (vs' := [.ref (ad 7 q), .int x, .int 1]) (st' := [.int 1]) (M' := mm M (up2 (up2 f (ad 7 q) 6 ((nI dg) + 1)) (ad 7 q) 7 0) g) (ps := [(.ref (ad 7 q) : Value).category = 1, ob (mm M f g) (ad 7 q) 9, (Value.int (f (ad 7 q) 6)) = .int (nI dg), ob (mm M f g) (ad 7 q) 9, ob (mm M (up2 f (ad 7 q) 6 ((nI dg) + 1)) g) (ad 7 q) 9, 0 = 0 ∨ 0 = 1]) rfl ⟨rfl, ho, congrArg Value.int hs6, ho, ho, (Or.inl rfl), trivial⟩ ?_
          refine go_zret rfl rfl (Or.inr rfl) ?_
          refine h1 (p, dp, dg + 1, false) _ ?_ ⟨(((up2_n _ _ (fun z => absurd z.2 (by decide))).trans ((up2_n _ _ (fun z => absurd z.2 (by decide))).trans (rfl))).trans hs4), (((up2_n _ _ (fun z => absurd z.2 (by decide))).trans ((up2_n _ _ (fun z => absurd z.2 (by decide))).trans (rfl))).trans hs5), (((up2_n _ _ (fun z => absurd z.2 (by decide))).trans (up2_s _ _ _ _)).trans (nI_add dg 1)), (up2_s _ _ _ _)⟩ (fun b k hn => by rw [up2_n _ _ (fun z => hn ⟨z.1, by omega, by omega⟩), up2_n _ _ (fun z => hn ⟨z.1, by omega, by omega⟩)])
          clear h1 h0 hs4 hs5 hs6 hs7
          simp only [tStep]
          grind
        · -- 0
          show Go d 91 0 0 25 [.ref (ad 7 q), .int x, .int 1] [.int 0] (mm M f g) R
          refine go_if rfl (fun _ => ?_) (fun (z : ¬ ((0 : Int32) = 0)) => absurd (show (0 : Int32) = 0 from (by decide)) z)
          refine go_blk 5 [] (pc' := 64) (vs' := [.ref (ad 7 q), .int x, .int 1]) (st' := [.int 32, .int x]) (M' := mm M (up2 f (ad 7 q) 6 0) g) (ps := [ob (mm M f g) (ad 7 q) 9]) rfl ⟨ho, trivial⟩ ?_
          refine go_icmp rfl (fun (c38 : ¬ x = 32) => ?_) (fun (c38 : ¬ (¬ x = 32)) => ?_)
          · -- ¬ x = 32
            refine go_blk 2 [some (.int 0)] (pc' := 73) (vs' := [.ref (ad 7 q), .int x, .int 1]) (st' := [.int 0]) (M' := mm M (up2 f (ad 7 q) 6 0) g) (ps := [ob (mm M (up2 f (ad 7 q) 6 0) g) (ad 7 q) 9, (Value.int ((up2 f (ad 7 q) 6 0) (ad 7 q) 7)) = .int 0]) rfl ⟨ho, congrArg Value.int (((up2_n _ _ (fun z => absurd z.2 (by decide))).trans (rfl)).trans hs7), trivial⟩ ?_
            refine go_if rfl (fun _ => ?_) (fun (z : ¬ ((0 : Int32) = 0)) => absurd (show (0 : Int32) = 0 from (by decide)) z)
            refine go_blk 2 [] (pc' := 86) (vs' := [.ref (ad 7 q), .int x, .int 1]) (st' := [.int x, .ref (ad 7 q)]) (M' := mm M (up2 f (ad 7 q) 6 0) g) (ps := []) rfl trivial ?_
            refine go_callV rfl rfl rfl (by omega) rfl (by decide) (by decide) ho ?_
            show Go (d - 1) 93 0 0 0 [.ref (ad 7 q), .int x] [] (mm M (up2 f (ad 7 q) 6 0) g) _
            refine go_blk 2 [some (.int (nI dp))] (pc' := 4) (vs' := [.ref (ad 7 q), .int x]) (st' := [.int (nI dp)]) (M' := mm M (up2 f (ad 7 q) 6 0) g) (ps := [ob (mm M (up2 f (ad 7 q) 6 0) g) (ad 7 q) 9, (Value.int ((up2 f (ad 7 q) 6 0) (ad 7 q) 5)) = .int (nI dp)]) rfl ⟨ho, congrArg Value.int (((up2_n _ _ (fun z => absurd z.2 (by decide))).trans (rfl)).trans hs5), trivial⟩ ?_
            refine go_if rfl (fun (c39 : (nI dp) ≤ 0) => ?_) (fun (c39 : ¬ ((nI dp) ≤ 0)) => ?_)
            · -- (nI dp) ≤ 0
              have nc39 : dp ≤ 0 := (nI_les (a := dp) (b := 0) (by omega) (by omega)).mp c39
              refine go_blk 4 [] (pc' := 31) (vs' := [.ref (ad 7 q), .int x]) (st' := [.int x]) (M' := mm M (up2 (up2 f (ad 7 q) 6 0) (ad 7 q) 7 1) g) (ps := [ob (mm M (up2 f (ad 7 q) 6 0) g) (ad 7 q) 9, 1 = 0 ∨ 1 = 1]) rfl ⟨ho, (Or.inr rfl), trivial⟩ ?_
              refine go_callS rfl (by decide) rfl rfl (by omega) rfl (by decide) (by decide) ?_
              refine s_Tx_isPlusOrMinus (by omega) (fun c40 => ⟨ne_i, ?_⟩) (fun c40 => ⟨ne_i, ?_⟩)
              · -- 1
                show Go (d - 1) 93 0 0 34 [.ref (ad 7 q), .int x] [.int 1] (mm M (up2 (up2 f (ad 7 q) 6 0) (ad 7 q) 7 1) g) _
                refine go_if rfl (fun _ => ?_) (fun (z : ¬ (¬ (1 : Int32) = 0)) => absurd (show ¬ (1 : Int32) = 0 from (by decide)) z)
                refine go_blk 1 [] (pc' := 45) (vs' := [.ref (ad 7 q), .int x]) (st' := [.int 1]) (M' := mm M (up2 (up2 f (ad 7 q) 6 0) (ad 7 q) 7 1) g) (ps := []) rfl trivial ?_
                refine go_zret rfl rfl (Or.inr rfl) ?_
                refine ⟨ne_i, ?_⟩
                show Go d 91 0 0 89 [.ref (ad 7 q), .int x, .int 1] [.int 1] (mm M (up2 (up2 f (ad 7 q) 6 0) (ad 7 q) 7 1) g) R
                refine go_zret rfl rfl (Or.inr rfl) ?_
                refine h1 (p, dp, 0, true) _ ?_ ⟨(((up2_n _ _ (fun z => absurd z.2 (by decide))).trans ((up2_n _ _ (fun z => absurd z.2 (by decide))).trans (rfl))).trans hs4), (((up2_n _ _ (fun z => absurd z.2 (by decide))).trans ((up2_n _ _ (fun z => absurd z.2 (by decide))).trans (rfl))).trans hs5), ((up2_n _ _ (fun z => absurd z.2 (by decide))).trans (up2_s _ _ _ _)), (up2_s _ _ _ _)⟩ (fun b k hn => by rw [up2_n _ _ (fun z => hn ⟨z.1, by omega, by omega⟩), up2_n _ _ (fun z => hn ⟨z.1, by omega, by omega⟩)])
                clear h1 h0 hs4 hs5 hs6 hs7
                simp only [tStep]
                grind
              · -- 0
                show Go (d - 1) 93 0 0 34 [.ref (ad 7 q), .int x] [.int 0] (mm M (up2 (up2 f (ad 7 q) 6 0) (ad 7 q) 7 1) g) _
                refine go_if rfl (fun (z : ¬ (0 : Int32) = 0) => absurd z (show ¬ (¬ (0 : Int32) = 0) from (by decide))) (fun _ => ?_)
                refine go_blk 1 [] (pc' := 38) (vs' := [.ref (ad 7 q), .int x]) (st' := [.int x]) (M' := mm M (up2 (up2 f (ad 7 q) 6 0) (ad 7 q) 7 1) g) (ps := []) rfl trivial ?_
                refine go_callS rfl (by decide) rfl rfl (by omega) rfl (by decide) (by decide) ?_
                refine s_Tx_isTimesOrBy (by omega) (fun c41 => ⟨ne_i, ?_⟩) (fun c41 => ⟨ne_i, ?_⟩)
                · -- 1
                  show Go (d - 1) 93 0 0 41 [.ref (ad 7 q), .int x] [.int 1] (mm M (up2 (up2 f (ad 7 q) 6 0) (ad 7 q) 7 1) g) _
                  refine go_if rfl (fun (z : (1 : Int32) = 0) => absurd z (show ¬ ((1 : Int32) = 0) from (by decide))) (fun _ => ?_)
                  refine go_blk 1 [] (pc' := 45) (vs' := [.ref (ad 7 q), .int x]) (st' := [.int 1]) (M' := mm M (up2 (up2 f (ad 7 q) 6 0) (ad 7 q) 7 1) g) (ps := []) rfl trivial ?_
                  refine go_zret rfl rfl (Or.inr rfl) ?_
                  refine ⟨ne_i, ?_⟩
                  show Go d 91 0 0 89 [.ref (ad 7 q), .int x, .int 1] [.int 1] (mm M (up2 (up2 f (ad 7 q) 6 0) (ad 7 q) 7 1) g) R
                  refine go_zret rfl rfl (Or.inr rfl) ?_
                  refine h1 (p, dp, 0, true) _ ?_ ⟨(((up2_n _ _ (fun z => absurd z.2 (by decide))).trans ((up2_n _ _ (fun z => absurd z.2 (by decide))).trans (rfl))).trans hs4), (((up2_n _ _ (fun z => absurd z.2 (by decide))).trans ((up2_n _ _ (fun z => absurd z.2 (by decide))).trans (rfl))).trans hs5), ((up2_n _ _ (fun z => absurd z.2 (by decide))).trans (up2_s _ _ _ _)), (up2_s _ _ _ _)⟩ (fun b k hn => by rw [up2_n _ _ (fun z => hn ⟨z.1, by omega, by omega⟩), up2_n _ _ (fun z => hn ⟨z.1, by omega, by omega⟩)])
                  clear h1 h0 hs4 hs5 hs6 hs7
                  simp only [tStep]
                  grind
                · -- 0
                  show Go (d - 1) 93 0 0 41 [.ref (ad 7 q), .int x] [.int 0] (mm M (up2 (up2 f (ad 7 q) 6 0) (ad 7 q) 7 1) g) _
                  refine go_if rfl (fun _ => ?_) (fun (z : ¬ ((0 : Int32) = 0)) => absurd (show (0 : Int32) = 0 from (by decide)) z)
                  refine go_blk 3 [some (.int (nI dp))] (pc' := 51) (vs' := [.ref (ad 7 q), .int x]) (st' := [.int (nI dp), .ref (ad 7 q)]) (M' := mm M (up2 (up2 f (ad 7 q) 6 0) (ad 7 q) 7 1) g) (ps := [ob (mm M (up2 (up2 f (ad 7 q) 6 0) (ad 7 q) 7 1) g) (ad 7 q) 9, (Value.int ((up2 (up2 f (ad 7 q) 6 0) (ad 7 q) 7 1) (ad 7 q) 5)) = .int (nI dp)]) rfl ⟨ho, congrArg Value.int (((up2_n _ _ (fun z => absurd z.2 (by decide))).trans ((up2_n _ _ (fun z => absurd z.2 (by decide))).trans (rfl))).trans hs5), trivial⟩ ?_
                  refine go_if rfl (fun _ => ?_) (fun (z : ¬ ((nI dp) ≤ 0)) => absurd (show (nI dp) ≤ 0 from c39) z)
                  refine go_blk 3 [some (.int (nI p))] (pc' := 63) (vs' := [.ref (ad 7 q), .int x]) (st' := [.int x, .int (nI p), .ref (ad 7 q)]) (M' := mm M (up2 (up2 f (ad 7 q) 6 0) (ad 7 q) 7 1) g) (ps := [ob (mm M (up2 (up2 f (ad 7 q) 6 0) (ad 7 q) 7 1) g) (ad 7 q) 9, (Value.int ((up2 (up2 f (ad 7 q) 6 0) (ad 7 q) 7 1) (ad 7 q) 4)) = .int (nI p)]) rfl ⟨ho, congrArg Value.int (((up2_n _ _ (fun z => absurd z.2 (by decide))).trans ((up2_n _ _ (fun z => absurd z.2 (by decide))).trans (rfl))).trans hs4), trivial⟩ ?_
                  refine go_callS rfl (by decide) rfl rfl (by omega) rfl (by decide) (by decide) ?_
                  refine s_Tx_partBehind (by omega) k1 ⟨ne_i, ?_⟩
                  show Go (d - 1) 93 0 0 66 [.ref (ad 7 q), .int x] [.int (pBI p x), .ref (ad 7 q)] (mm M (up2 (up2 f (ad 7 q) 6 0) (ad 7 q) 7 1) g) _
                  refine go_blk 4 [some (.int (pBI p x))] (pc' := 74) (vs' := [.ref (ad 7 q), .int x]) (st' := [.int (-1), .int (pBI p x)]) (M' := mm M (up2 (up2 (up2 f (ad 7 q) 6 0) (ad 7 q) 7 1) (ad 7 q) 4 (pBI p x)) g) (ps := [ob (mm M (up2 (up2 f (ad 7 q) 6 0) (ad 7 q) 7 1) g) (ad 7 q) 9, ob (mm M (up2 (up2 (up2 f (ad 7 q) 6 0) (ad 7 q) 7 1) (ad 7 q) 4 (pBI p x)) g) (ad 7 q) 9, (Value.int ((up2 (up2 (up2 f (ad 7 q) 6 0) (ad 7 q) 7 1) (ad 7 q) 4 (pBI p x)) (ad 7 q) 4)) = .int (pBI p x)]) rfl ⟨ho, ho, congrArg Value.int (up2_s _ _ _ _), trivial⟩ ?_
                  refine go_icmp rfl (fun (c42 : (pBI p x) = (-1)) => ?_) (fun (c42 : ¬ ((pBI p x) = (-1))) => ?_)
                  · -- (pBI p x) = (-1)
                    refine go_blk 1 [] (pc' := 82) (vs' := [.ref (ad 7 q), .int x]) (st' := [.int 0]) (M' := mm M (up2 (up2 (up2 f (ad 7 q) 6 0) (ad 7 q) 7 1) (ad 7 q) 4 (pBI p x)) g) (ps := []) rfl trivial ?_
                    refine go_zret rfl rfl (Or.inl rfl) ?_
                    refine ⟨ne_i, ?_⟩
                    show Go d 91 0 0 89 [.ref (ad 7 q), .int x, .int 1] [.int 0] (mm M (up2 (up2 (up2 f (ad 7 q) 6 0) (ad 7 q) 7 1) (ad 7 q) 4 (pBI p x)) g) R
                    refine go_zret rfl rfl (Or.inl rfl) ?_
                    have hpb := pBI_m1 c42
                    refine h0 _ ?_ (fun b k hn => by rw [up2_n _ _ (fun z => hn ⟨z.1, by omega, by omega⟩), up2_n _ _ (fun z => hn ⟨z.1, by omega, by omega⟩), up2_n _ _ (fun z => hn ⟨z.1, by omega, by omega⟩)])
                    clear h1 h0 hs4 hs5 hs6 hs7
                    simp only [tStep]
                    grind
                  · -- ¬ ((pBI p x) = (-1))
                    refine go_blk 2 [] (pc' := 82) (vs' := [.ref (ad 7 q), .int x]) (st' := [.int 1]) (M' := mm M (up2 (up2 (up2 f (ad 7 q) 6 0) (ad 7 q) 7 1) (ad 7 q) 4 (pBI p x)) g) (ps := []) rfl trivial ?_
                    refine go_zret rfl rfl (Or.inr rfl) ?_
                    refine ⟨ne_i, ?_⟩
                    show Go d 91 0 0 89 [.ref (ad 7 q), .int x, .int 1] [.int 1] (mm M (up2 (up2 (up2 f (ad 7 q) 6 0) (ad 7 q) 7 1) (ad 7 q) 4 (pBI p x)) g) R
                    refine go_zret rfl rfl (Or.inr rfl) ?_
                    obtain ⟨kk, hpb, hpc⟩ := pBI_k c42
                    refine h1 (kk, dp, 0, true) _ ?_ ⟨((up2_s _ _ _ _).trans hpc), (((up2_n _ _ (fun z => absurd z.2 (by decide))).trans ((up2_n _ _ (fun z => absurd z.2 (by decide))).trans ((up2_n _ _ (fun z => absurd z.2 (by decide))).trans (rfl)))).trans hs5), ((up2_n _ _ (fun z => absurd z.2 (by decide))).trans ((up2_n _ _ (fun z => absurd z.2 (by decide))).trans (up2_s _ _ _ _))), ((up2_n _ _ (fun z => absurd z.2 (by decide))).trans (up2_s _ _ _ _))⟩ (fun b k hn => by rw [up2_n _ _ (fun z => hn ⟨z.1, by omega, by omega⟩), up2_n _ _ (fun z => hn ⟨z.1, by omega, by omega⟩), up2_n _ _ (fun z => hn ⟨z.1, by omega, by omega⟩)])
                    clear h1 h0 hs4 hs5 hs6 hs7
                    simp only [tStep]
                    grind
            · -- ¬ ((nI dp) ≤ 0)
              have nc39 : 0 < dp := (nI_lts (a := 0) (b := dp) (by omega) (by omega)).mp (Int32.not_le.mp c39)
              refine go_blk 2 [] (pc' := 10) (vs' := [.ref (ad 7 q), .int x]) (st' := [.int 41, .int x]) (M' := mm M (up2 f (ad 7 q) 6 0) g) (ps := []) rfl trivial ?_
              refine go_icmp rfl (fun (c43 : ¬ x = 41) => ?_) (fun (c43 : ¬ (¬ x = 41)) => ?_)
              · -- ¬ x = 41
                refine go_blk 4 [] (pc' := 31) (vs' := [.ref (ad 7 q), .int x]) (st' := [.int x]) (M' := mm M (up2 (up2 f (ad 7 q) 6 0) (ad 7 q) 7 1) g) (ps := [ob (mm M (up2 f (ad 7 q) 6 0) g) (ad 7 q) 9, 1 = 0 ∨ 1 = 1]) rfl ⟨ho, (Or.inr rfl), trivial⟩ ?_
                refine go_callS rfl (by decide) rfl rfl (by omega) rfl (by decide) (by decide) ?_
                refine s_Tx_isPlusOrMinus (by omega) (fun c44 => ⟨ne_i, ?_⟩) (fun c44 => ⟨ne_i, ?_⟩)
                · -- 1
                  show Go (d - 1) 93 0 0 34 [.ref (ad 7 q), .int x] [.int 1] (mm M (up2 (up2 f (ad 7 q) 6 0) (ad 7 q) 7 1) g) _
                  refine go_if rfl (fun _ => ?_) (fun (z : ¬ (¬ (1 : Int32) = 0)) => absurd (show ¬ (1 : Int32) = 0 from (by decide)) z)
                  refine go_blk 1 [] (pc' := 45) (vs' := [.ref (ad 7 q), .int x]) (st' := [.int 1]) (M' := mm M (up2 (up2 f (ad 7 q) 6 0) (ad 7 q) 7 1) g) (ps := []) rfl trivial ?_
                  refine go_zret rfl rfl (Or.inr rfl) ?_
                  refine ⟨ne_i, ?_⟩
                  show Go d 91 0 0 89 [.ref (ad 7 q), .int x, .int 1] [.int 1] (mm M (up2 (up2 f (ad 7 q) 6 0) (ad 7 q) 7 1) g) R
                  refine go_zret rfl rfl (Or.inr rfl) ?_
                  refine h1 (p, dp, 0, true) _ ?_ ⟨(((up2_n _ _ (fun z => absurd z.2 (by decide))).trans ((up2_n _ _ (fun z => absurd z.2 (by decide))).trans (rfl))).trans hs4), (((up2_n _ _ (fun z => absurd z.2 (by decide))).trans ((up2_n _ _ (fun z => absurd z.2 (by decide))).trans (rfl))).trans hs5), ((up2_n _ _ (fun z => absurd z.2 (by decide))).trans (up2_s _ _ _ _)), (up2_s _ _ _ _)⟩ (fun b k hn => by rw [up2_n _ _ (fun z => hn ⟨z.1, by omega, by omega⟩), up2_n _ _ (fun z => hn ⟨z.1, by omega, by omega⟩)])
                  clear h1 h0 hs4 hs5 hs6 hs7
                  simp only [tStep]
                  grind
                · -- 0
                  show Go (d - 1) 93 0 0 34 [.ref (ad 7 q), .int x] [.int 0] (mm M (up2 (up2 f (ad 7 q) 6 0) (ad 7 q) 7 1) g) _
                  refine go_if rfl (fun (z : ¬ (0 : Int32) = 0) => absurd z (show ¬ (¬ (0 : Int32) = 0) from (by decide))) (fun _ => ?_)
                  refine go_blk 1 [] (pc' := 38) (vs' := [.ref (ad 7 q), .int x]) (st' := [.int x]) (M' := mm M (up2 (up2 f (ad 7 q) 6 0) (ad 7 q) 7 1) g) (ps := []) rfl trivial ?_
                  refine go_callS rfl (by decide) rfl rfl (by omega) rfl (by decide) (by decide) ?_
                  refine s_Tx_isTimesOrBy (by omega) (fun c45 => ⟨ne_i, ?_⟩) (fun c45 => ⟨ne_i, ?_⟩)
                  · -- 1
                    show Go (d - 1) 93 0 0 41 [.ref (ad 7 q), .int x] [.int 1] (mm M (up2 (up2 f (ad 7 q) 6 0) (ad 7 q) 7 1) g) _
                    refine go_if rfl (fun (z : (1 : Int32) = 0) => absurd z (show ¬ ((1 : Int32) = 0) from (by decide))) (fun _ => ?_)
                    refine go_blk 1 [] (pc' := 45) (vs' := [.ref (ad 7 q), .int x]) (st' := [.int 1]) (M' := mm M (up2 (up2 f (ad 7 q) 6 0) (ad 7 q) 7 1) g) (ps := []) rfl trivial ?_
                    refine go_zret rfl rfl (Or.inr rfl) ?_
                    refine ⟨ne_i, ?_⟩
                    show Go d 91 0 0 89 [.ref (ad 7 q), .int x, .int 1] [.int 1] (mm M (up2 (up2 f (ad 7 q) 6 0) (ad 7 q) 7 1) g) R
                    refine go_zret rfl rfl (Or.inr rfl) ?_
                    refine h1 (p, dp, 0, true) _ ?_ ⟨(((up2_n _ _ (fun z => absurd z.2 (by decide))).trans ((up2_n _ _ (fun z => absurd z.2 (by decide))).trans (rfl))).trans hs4), (((up2_n _ _ (fun z => absurd z.2 (by decide))).trans ((up2_n _ _ (fun z => absurd z.2 (by decide))).trans (rfl))).trans hs5), ((up2_n _ _ (fun z => absurd z.2 (by decide))).trans (up2_s _ _ _ _)), (up2_s _ _ _ _)⟩ (fun b k hn => by rw [up2_n _ _ (fun z => hn ⟨z.1, by omega, by omega⟩), up2_n _ _ (fun z => hn ⟨z.1, by omega, by omega⟩)])
                    clear h1 h0 hs4 hs5 hs6 hs7
                    simp only [tStep]
                    grind
                  · -- 0
                    show Go (d - 1) 93 0 0 41 [.ref (ad 7 q), .int x] [.int 0] (mm M (up2 (up2 f (ad 7 q) 6 0) (ad 7 q) 7 1) g) _
                    refine go_if rfl (fun _ => ?_) (fun (z : ¬ ((0 : Int32) = 0)) => absurd (show (0 : Int32) = 0 from (by decide)) z)
                    refine go_blk 3 [some (.int (nI dp))] (pc' := 51) (vs' := [.ref (ad 7 q), .int x]) (st' := [.int (nI dp), .ref (ad 7 q)]) (M' := mm M (up2 (up2 f (ad 7 q) 6 0) (ad 7 q) 7 1) g) (ps := [ob (mm M (up2 (up2 f (ad 7 q) 6 0) (ad 7 q) 7 1) g) (ad 7 q) 9, (Value.int ((up2 (up2 f (ad 7 q) 6 0) (ad 7 q) 7 1) (ad 7 q) 5)) = .int (nI dp)]) rfl ⟨ho, congrArg Value.int (((up2_n _ _ (fun z => absurd z.2 (by decide))).trans ((up2_n _ _ (fun z => absurd z.2 (by decide))).trans (rfl))).trans hs5), trivial⟩ ?_
                    refine go_if rfl (fun (z : (nI dp) ≤ 0) => absurd z (show ¬ ((nI dp) ≤ 0) from c39)) (fun _ => ?_)
                    refine go_blk 6 [some (.int (-1))] (pc' := 74) (vs' := [.ref (ad 7 q), .int x]) (st' := [.int (-1), .int (-1)]) (M' := mm M (up2 (up2 (up2 f (ad 7 q) 6 0) (ad 7 q) 7 1) (ad 7 q) 4 (-1)) g) (ps := [ob (mm M (up2 (up2 f (ad 7 q) 6 0) (ad 7 q) 7 1) g) (ad 7 q) 9, ob (mm M (up2 (up2 (up2 f (ad 7 q) 6 0) (ad 7 q) 7 1) (ad 7 q) 4 (-1)) g) (ad 7 q) 9, (Value.int ((up2 (up2 (up2 f (ad 7 q) 6 0) (ad 7 q) 7 1) (ad 7 q) 4 (-1)) (ad 7 q) 4)) = .int (-1)]) rfl ⟨ho, ho, congrArg Value.int (up2_s _ _ _ _), trivial⟩ ?_
                    refine go_icmp rfl (fun _ => ?_) (fun (z : ¬ (((-1) : Int32) = (-1))) => absurd (show ((-1) : Int32) = (-1) from (by decide)) z)
                    refine go_blk 1 [] (pc' := 82) (vs' := [.ref (ad 7 q), .int x]) (st' := [.int 0]) (M' := mm M (up2 (up2 (up2 f (ad 7 q) 6 0) (ad 7 q) 7 1) (ad 7 q) 4 (-1)) g) (ps := []) rfl trivial ?_
                    refine go_zret rfl rfl (Or.inl rfl) ?_
                    refine ⟨ne_i, ?_⟩
                    show Go d 91 0 0 89 [.ref (ad 7 q), .int x, .int 1] [.int 0] (mm M (up2 (up2 (up2 f (ad 7 q) 6 0) (ad 7 q) 7 1) (ad 7 q) 4 (-1)) g) R
                    refine go_zret rfl rfl (Or.inl rfl) ?_
                    refine h0 _ ?_ (fun b k hn => by rw [up2_n _ _ (fun z => hn ⟨z.1, by omega, by omega⟩), up2_n _ _ (fun z => hn ⟨z.1, by omega, by omega⟩), up2_n _ _ (fun z => hn ⟨z.1, by omega, by omega⟩)])
                    clear h1 h0 hs4 hs5 hs6 hs7
                    simp only [tStep]
                    grind
              · -- ¬ (¬ x = 41)
                refine go_blk 7 [some (.int (nI dp))] (pc' := 24) (vs' := [.ref (ad 7 q), .int x]) (st' := [.int 1]) (M' := mm M (up2 (up2 f (ad 7 q) 6 0) (ad 7 q) 5 ((nI dp) - 1)) g) (ps := [(.ref (ad 7 q) : Value).category = 1, ob (mm M (up2 f (ad 7 q) 6 0) g) (ad 7 q) 9, (Value.int ((up2 f (ad 7 q) 6 0) (ad 7 q) 5)) = .int (nI dp), ob (mm M (up2 f (ad 7 q) 6 0) g) (ad 7 q) 9]) rfl ⟨rfl, ho, congrArg Value.int (((up2_n _ _ (fun z => absurd z.2 (by decide))).trans (rfl)).trans hs5), ho, trivial⟩ ?_
                refine go_zret rfl rfl (Or.inr rfl) ?_
                refine ⟨ne_i, ?_⟩
                show Go d 91 0 0 89 [.ref (ad 7 q), .int x, .int 1] [.int 1] (mm M (up2 (up2 f (ad 7 q) 6 0) (ad 7 q) 5 ((nI dp) - 1)) g) R
                refine go_zret rfl rfl (Or.inr rfl) ?_
                refine h1 (p, dp - 1, 0, false) _ ?_ ⟨(((up2_n _ _ (fun z => absurd z.2 (by decide))).trans ((up2_n _ _ (fun z => absurd z.2 (by decide))).trans (rfl))).trans hs4), ((up2_s _ _ _ _).trans (pk_sub (a := dp) (b := 1) (by omega))), ((up2_n _ _ (fun z => absurd z.2 (by decide))).trans (up2_s _ _ _ _)), (((up2_n _ _ (fun z => absurd z.2 (by decide))).trans ((up2_n _ _ (fun z => absurd z.2 (by decide))).trans (rfl))).trans hs7)⟩ (fun b k hn => by rw [up2_n _ _ (fun z => hn ⟨z.1, by omega, by omega⟩), up2_n _ _ (fun z => hn ⟨z.1, by omega, by omega⟩)])
                clear h1 h0 hs4 hs5 hs6 hs7
                simp only [tStep]
                grind
          · -- ¬ (¬ x = 32)
            refine go_blk 1 [] (pc' := 68) (vs' := [.ref (ad 7 q), .int x, .int 1]) (st' := [.int 1]) (M' := mm M (up2 f (ad 7 q) 6 0) g) (ps := []) rfl trivial ?_
            refine go_zret rfl rfl (Or.inr rfl) ?_
            refine h1 (p, dp, 0, false) _ ?_ ⟨(((up2_n _ _ (fun z => absurd z.2 (by decide))).trans (rfl)).trans hs4), (((up2_n _ _ (fun z => absurd z.2 (by decide))).trans (rfl)).trans hs5), (up2_s _ _ _ _), (((up2_n _ _ (fun z => absurd z.2 (by decide))).trans (rfl)).trans hs7)⟩ (fun b k hn => by rw [up2_n _ _ (fun z => hn ⟨z.1, by omega, by omega⟩)])
            clear h1 h0 hs4 hs5 hs6 hs7
            simp only [tStep]
            grind
  · replace hx : letV x = 1 := hx
    replace hs7 : f (ad 7 q) 7 = 1 := hs7
    show Go d 91 0 0 0 [.ref (ad 7 q), .int x, .retAddr 0] [] (mm M f g) R
    refine go_blk 2 [some (.int (nI dg))] (pc' := 4) (vs' := [.ref (ad 7 q), .int x, .retAddr 0]) (st' := [.int (nI dg)]) (M' := mm M f g) (ps := [ob (mm M f g) (ad 7 q) 9, (Value.int (f (ad 7 q) 6)) = .int (nI dg)]) rfl ⟨ho, congrArg Value.int hs6, trivial⟩ ?_
    refine go_if rfl (fun (c1 : (nI dg) ≤ 0) => ?_) (fun (c1 : ¬ ((nI dg) ≤ 0)) => ?_)
    · -- (nI dg) ≤ 0
      have nc1 : dg ≤ 0 := (nI_les (a := dg) (b := 0) (by omega) (by omega)).mp c1
      refine go_blk 3 [] (pc' := 22) (vs' := [.ref (ad 7 q), .int x, .int 0]) (st' := [.int x]) (M' := mm M f g) (ps := []) rfl trivial ?_
      refine go_callS rfl (by decide) rfl rfl (by omega) rfl (by decide) (by decide) ?_
      refine s_Tx_isDigit (by omega) (fun c2 => ⟨ne_i, ?_⟩) (fun c2 => ⟨ne_i, ?_⟩)
      · -- 1
        show Go d 91 0 0 25 [.ref (ad 7 q), .int x, .int 0] [.int 1] (mm M f g) R
        refine go_if rfl (fun (z : (1 : Int32) = 0) => absurd z (show ¬ ((1 : Int32) = 0) from (by decide))) (fun _ => ?_)
        refine go_blk 2 [some (.int 1)] (pc' := 32) (vs' := [.ref (ad 7 q), .int x, .int 0]) (st' := [.int 1]) (M' := mm M f g) (ps := [ob (mm M f g) (ad 7 q) 9, (Value.int (f (ad 7 q) 7)) = .int 1]) rfl ⟨ho, congrArg Value.int hs7, trivial⟩ ?_
        refine go_if rfl (fun _ => ?_) (fun (z : ¬ (¬ (1 : Int32) = 0)) => absurd (show ¬ (1 : Int32) = 0 from (by decide)) z)
        refine go_blk 10 [some (.int (nI dg))] (pc' := 55) (vs' := [.ref (ad 7 q), .int x, .int 0]) (st' := [.int 1]) (M' := mm M (up2 (up2 f (ad 7 q) 6 ((nI dg) + 1)) (ad 7 q) 7 0) g) (ps := [(.ref (ad 7 q) : Value).category = 1, ob (mm M f g) (ad 7 q) 9, (Value.int (f (ad 7 q) 6)) = .int (nI dg), ob (mm M f g) (ad 7 q) 9, ob (mm M (up2 f (ad 7 q) 6 ((nI dg) + 1)) g) (ad 7 q) 9, 0 = 0 ∨ 0 = 1]) rfl ⟨rfl, ho, congrArg Value.int hs6, ho, ho, (Or.inl rfl), trivial⟩ ?_
        refine go_zret rfl rfl (Or.inr rfl) ?_
        refine h1 (p, dp, dg + 1, false) _ ?_ ⟨(((up2_n _ _ (fun z => absurd z.2 (by decide))).trans ((up2_n _ _ (fun z => absurd z.2 (by decide))).trans (rfl))).trans hs4), (((up2_n _ _ (fun z => absurd z.2 (by decide))).trans ((up2_n _ _ (fun z => absurd z.2 (by decide))).trans (rfl))).trans hs5), (((up2_n _ _ (fun z => absurd z.2 (by decide))).trans (up2_s _ _ _ _)).trans (nI_add dg 1)), (up2_s _ _ _ _)⟩ (fun b k hn => by rw [up2_n _ _ (fun z => hn ⟨z.1, by omega, by omega⟩), up2_n _ _ (fun z => hn ⟨z.1, by omega, by omega⟩)])
        clear h1 h0 hs4 hs5 hs6 hs7
        simp only [tStep]
        grind
      · -- 0
        show Go d 91 0 0 25 [.ref (ad 7 q), .int x, .int 0] [.int 0] (mm M f g) R
        refine go_if rfl (fun _ => ?_) (fun (z : ¬ ((0 : Int32) = 0)) => absurd (show (0 : Int32) = 0 from (by decide)) z)
        refine go_blk 5 [] (pc' := 64) (vs' := [.ref (ad 7 q), .int x, .int 0]) (st' := [.int 32, .int x]) (M' := mm M (up2 f (ad 7 q) 6 0) g) (ps := [ob (mm M f g) (ad 7 q) 9]) rfl ⟨ho, trivial⟩ ?_
        refine go_icmp rfl (fun (c3 : ¬ x = 32) => ?_) (fun (c3 : ¬ (¬ x = 32)) => ?_)
        · -- ¬ x = 32
          refine go_blk 2 [some (.int 1)] (pc' := 73) (vs' := [.ref (ad 7 q), .int x, .int 0]) (st' := [.int 1]) (M' := mm M (up2 f (ad 7 q) 6 0) g) (ps := [ob (mm M (up2 f (ad 7 q) 6 0) g) (ad 7 q) 9, (Value.int ((up2 f (ad 7 q) 6 0) (ad 7 q) 7)) = .int 1]) rfl ⟨ho, congrArg Value.int (((up2_n _ _ (fun z => absurd z.2 (by decide))).trans (rfl)).trans hs7), trivial⟩ ?_
          refine go_if rfl (fun (z : (1 : Int32) = 0) => absurd z (show ¬ ((1 : Int32) = 0) from (by decide))) (fun _ => ?_)
          refine go_blk 2 [] (pc' := 78) (vs' := [.ref (ad 7 q), .int x, .int 0]) (st' := [.int x, .ref (ad 7 q)]) (M' := mm M (up2 f (ad 7 q) 6 0) g) (ps := []) rfl trivial ?_
          refine go_callV rfl rfl rfl (by omega) rfl (by decide) (by decide) ho ?_
          show Go (d - 1) 92 0 0 0 [.ref (ad 7 q), .int x] [] (mm M (up2 f (ad 7 q) 6 0) g) _
          refine go_blk 2 [] (pc' := 3) (vs' := [.ref (ad 7 q), .int x]) (st' := [.int 40, .int x]) (M' := mm M (up2 f (ad 7 q) 6 0) g) (ps := []) rfl trivial ?_
          refine go_icmp rfl (fun (c4 : ¬ x = 40) => ?_) (fun (c4 : ¬ (¬ x = 40)) => ?_)
          · -- ¬ x = 40
            refine go_blk 4 [] (pc' := 33) (vs' := [.ref (ad 7 q), .int x]) (st' := [.int x]) (M' := mm M (up2 (up2 f (ad 7 q) 6 0) (ad 7 q) 7 0) g) (ps := [ob (mm M (up2 f (ad 7 q) 6 0) g) (ad 7 q) 9, 0 = 0 ∨ 0 = 1]) rfl ⟨ho, (Or.inl rfl), trivial⟩ ?_
            refine go_let rfl (by omega) (by decide) ?_
            rw [hx]
            show Go (d - 1) 92 0 0 36 [.ref (ad 7 q), .int x] [.int 1] (mm M (up2 (up2 f (ad 7 q) 6 0) (ad 7 q) 7 0) g) _
            refine go_zret rfl rfl (Or.inr rfl) ?_
            refine ⟨ne_i, ?_⟩
            show Go d 91 0 0 81 [.ref (ad 7 q), .int x, .int 0] [.int 1] (mm M (up2 (up2 f (ad 7 q) 6 0) (ad 7 q) 7 0) g) R
            refine go_blk 1 [] (pc' := 89) (vs' := [.ref (ad 7 q), .int x, .int 0]) (st' := [.int 1]) (M' := mm M (up2 (up2 f (ad 7 q) 6 0) (ad 7 q) 7 0) g) (ps := []) rfl trivial ?_
            refine go_zret rfl rfl (Or.inr rfl) ?_
            refine h1 (p, dp, 0, false) _ ?_ ⟨(((up2_n _ _ (fun z => absurd z.2 (by decide))).trans ((up2_n _ _ (fun z => absurd z.2 (by decide))).trans (rfl))).trans hs4), (((up2_n _ _ (fun z => absurd z.2 (by decide))).trans ((up2_n _ _ (fun z => absurd z.2 (by decide))).trans (rfl))).trans hs5), ((up2_n _ _ (fun z => absurd z.2 (by decide))).trans (up2_s _ _ _ _)), (up2_s _ _ _ _)⟩ (fun b k hn => by rw [up2_n _ _ (fun z => hn ⟨z.1, by omega, by omega⟩), up2_n _ _ (fun z => hn ⟨z.1, by omega, by omega⟩)])
            clear h1 h0 hs4 hs5 hs6 hs7
            simp only [tStep]
            grind
          · -- ¬ (¬ x = 40)
            refine go_blk 3 [some (.int (nI dp))] (pc' := 12) (vs' := [.ref (ad 7 q), .int x]) (st' := [.int 6, .int (nI dp)]) (M' := mm M (up2 f (ad 7 q) 6 0) g) (ps := [ob (mm M (up2 f (ad 7 q) 6 0) g) (ad 7 q) 9, (Value.int ((up2 f (ad 7 q) 6 0) (ad 7 q) 5)) = .int (nI dp)]) rfl ⟨ho, congrArg Value.int (((up2_n _ _ (fun z => absurd z.2 (by decide))).trans (rfl)).trans hs5), trivial⟩ ?_
            refine go_icmp rfl (fun (c5 : 6 ≤ (nI dp)) => ?_) (fun (c5 : ¬ (6 ≤ (nI dp))) => ?_)
            · -- 6 ≤ (nI dp)
              have nc5 : 6 ≤ dp := (nI_les (a := 6) (b := dp) (by omega) (by omega)).mp c5
              refine go_blk 4 [] (pc' := 33) (vs' := [.ref (ad 7 q), .int x]) (st' := [.int x]) (M' := mm M (up2 (up2 f (ad 7 q) 6 0) (ad 7 q) 7 0) g) (ps := [ob (mm M (up2 f (ad 7 q) 6 0) g) (ad 7 q) 9, 0 = 0 ∨ 0 = 1]) rfl ⟨ho, (Or.inl rfl), trivial⟩ ?_
              refine go_let rfl (by omega) (by decide) ?_
              rw [hx]
              show Go (d - 1) 92 0 0 36 [.ref (ad 7 q), .int x] [.int 1] (mm M (up2 (up2 f (ad 7 q) 6 0) (ad 7 q) 7 0) g) _
              refine go_zret rfl rfl (Or.inr rfl) ?_
              refine ⟨ne_i, ?_⟩
              show Go d 91 0 0 81 [.ref (ad 7 q), .int x, .int 0] [.int 1] (mm M (up2 (up2 f (ad 7 q) 6 0) (ad 7 q) 7 0) g) R
              refine go_blk 1 [] (pc' := 89) (vs' := [.ref (ad 7 q), .int x, .int 0]) (st' := [.int 1]) (M' := mm M (up2 (up2 f (ad 7 q) 6 0) (ad 7 q) 7 0) g) (ps := []) rfl trivial ?_
              refine go_zret rfl rfl (Or.inr rfl) ?_
              refine h1 (p, dp, 0, false) _ ?_ ⟨(((up2_n _ _ (fun z => absurd z.2 (by decide))).trans ((up2_n _ _ (fun z => absurd z.2 (by decide))).trans (rfl))).trans hs4), (((up2_n _ _ (fun z => absurd z.2 (by decide))).trans ((up2_n _ _ (fun z => absurd z.2 (by decide))).trans (rfl))).trans hs5), ((up2_n _ _ (fun z => absurd z.2 (by decide))).trans (up2_s _ _ _ _)), (up2_s _ _ _ _)⟩ (fun b k hn => by rw [up2_n _ _ (fun z => hn ⟨z.1, by omega, by omega⟩), up2_n _ _ (fun z => hn ⟨z.1, by omega, by omega⟩)])
              clear h1 h0 hs4 hs5 hs6 hs7
              simp only [tStep]
              grind
            · -- ¬ (6 ≤ (nI dp))
              have nc5 : dp < 6 := (nI_lts (a := dp) (b := 6) (by omega) (by omega)).mp (Int32.not_le.mp c5)
              refine go_blk 7 [some (.int (nI dp))] (pc' := 26) (vs' := [.ref (ad 7 q), .int x]) (st' := [.int 1]) (M' := mm M (up2 (up2 f (ad 7 q) 6 0) (ad 7 q) 5 ((nI dp) + 1)) g) (ps := [(.ref (ad 7 q) : Value).category = 1, ob (mm M (up2 f (ad 7 q) 6 0) g) (ad 7 q) 9, (Value.int ((up2 f (ad 7 q) 6 0) (ad 7 q) 5)) = .int (nI dp), ob (mm M (up2 f (ad 7 q) 6 0) g) (ad 7 q) 9]) rfl ⟨rfl, ho, congrArg Value.int (((up2_n _ _ (fun z => absurd z.2 (by decide))).trans (rfl)).trans hs5), ho, trivial⟩ ?_
              refine go_zret rfl rfl (Or.inr rfl) ?_
              refine ⟨ne_i, ?_⟩
              show Go d 91 0 0 81 [.ref (ad 7 q), .int x, .int 0] [.int 1] (mm M (up2 (up2 f (ad 7 q) 6 0) (ad 7 q) 5 ((nI dp) + 1)) g) R
              refine go_blk 1 [] (pc' := 89) (vs' := [.ref (ad 7 q), .int x, .int 0]) (st' := [.int 1]) (M' := mm M (up2 (up2 f (ad 7 q) 6 0) (ad 7 q) 5 ((nI dp) + 1)) g) (ps := []) rfl trivial ?_
              refine go_zret rfl rfl (Or.inr rfl) ?_
              refine h1 (p, dp + 1, 0, true) _ ?_ ⟨(((up2_n _ _ (fun z => absurd z.2 (by decide))).trans ((up2_n _ _ (fun z => absurd z.2 (by decide))).trans (rfl))).trans hs4), ((up2_s _ _ _ _).trans (nI_add dp 1)), ((up2_n _ _ (fun z => absurd z.2 (by decide))).trans (up2_s _ _ _ _)), (((up2_n _ _ (fun z => absurd z.2 (by decide))).trans ((up2_n _ _ (fun z => absurd z.2 (by decide))).trans (rfl))).trans hs7)⟩ (fun b k hn => by rw [up2_n _ _ (fun z => hn ⟨z.1, by omega, by omega⟩), up2_n _ _ (fun z => hn ⟨z.1, by omega, by omega⟩)])
              clear h1 h0 hs4 hs5 hs6 hs7
              simp only [tStep]
              grind
        · -- ¬ (¬ x = 32)
          refine go_blk 1 [] (pc' := 68) (vs' := [.ref (ad 7 q), .int x, .int 0]) (st' := [.int 1]) (M' := mm M (up2 f (ad 7 q) 6 0) g) (ps := []) rfl trivial ?_
          refine go_zret rfl rfl (Or.inr rfl) ?_
          refine h1 (p, dp, 0, true) _ ?_ ⟨(((up2_n _ _ (fun z => absurd z.2 (by decide))).trans (rfl)).trans hs4), (((up2_n _ _ (fun z => absurd z.2 (by decide))).trans (rfl)).trans hs5), (up2_s _ _ _ _), (((up2_n _ _ (fun z => absurd z.2 (by decide))).trans (rfl)).trans hs7)⟩ (fun b k hn => by rw [up2_n _ _ (fun z => hn ⟨z.1, by omega, by omega⟩)])
          clear h1 h0 hs4 hs5 hs6 hs7
          simp only [tStep]
          grind
    · -- ¬ ((nI dg) ≤ 0)
      have nc1 : 0 < dg := (nI_lts (a := 0) (b := dg) (by omega) (by omega)).mp (Int32.not_le.mp c1)
      refine go_blk 3 [some (.int (nI dg))] (pc' := 12) (vs' := [.ref (ad 7 q), .int x, .retAddr 0]) (st' := [.int 4, .int (nI dg)]) (M' := mm M f g) (ps := [ob (mm M f g) (ad 7 q) 9, (Value.int (f (ad 7 q) 6)) = .int (nI dg)]) rfl ⟨ho, congrArg Value.int hs6, trivial⟩ ?_
      refine go_icmp rfl (fun (c6 : 4 ≤ (nI dg)) => ?_) (fun (c6 : ¬ (4 ≤ (nI dg))) => ?_)
      · -- 4 ≤ (nI dg)
        have nc6 : 4 ≤ dg := (nI_les (a := 4) (b := dg) (by omega) (by omega)).mp c6
        refine go_blk 3 [] (pc' := 22) (vs' := [.ref (ad 7 q), .int x, .int 0]) (st' := [.int x]) (M' := mm M f g) (ps := []) rfl trivial ?_
        refine go_callS rfl (by decide) rfl rfl (by omega) rfl (by decide) (by decide) ?_
        refine s_Tx_isDigit (by omega) (fun c7 => ⟨ne_i, ?_⟩) (fun c7 => ⟨ne_i, ?_⟩)
        · -- 1
          show Go d 91 0 0 25 [.ref (ad 7 q), .int x, .int 0] [.int 1] (mm M f g) R
          refine go_if rfl (fun (z : (1 : Int32) = 0) => absurd z (show ¬ ((1 : Int32) = 0) from (by decide))) (fun _ => ?_)
          refine go_blk 2 [some (.int 1)] (pc' := 32) (vs' := [.ref (ad 7 q), .int x, .int 0]) (st' := [.int 1]) (M' := mm M f g) (ps := [ob (mm M f g) (ad 7 q) 9, (Value.int (f (ad 7 q) 7)) = .int 1]) rfl ⟨ho, congrArg Value.int hs7, trivial⟩ ?_
          refine go_if rfl (fun _ => ?_) (fun (z : ¬ (¬ (1 : Int32) = 0)) => absurd (show ¬ (1 : Int32) = 0 from (by decide)) z)
          refine go_blk 10 [some (.int (nI dg))] (pc' := 55) (vs' := [.ref (ad 7 q), .int x, .int 0]) (st' := [.int 1]) (M' := mm M (up2 (up2 f (ad 7 q) 6 ((nI dg) + 1)) (ad 7 q) 7 0) g) (ps := [(.ref (ad 7 q) : Value).category = 1, ob (mm M f g) (ad 7 q) 9, (Value.int (f (ad 7 q) 6)) = .int (nI dg), ob (mm M f g) (ad 7 q) 9, ob (mm M (up2 f (ad 7 q) 6 ((nI dg) + 1)) g) (ad 7 q) 9, 0 = 0 ∨ 0 = 1]) rfl ⟨rfl, ho, congrArg Value.int hs6, ho, ho, (Or.inl rfl), trivial⟩ ?_
          refine go_zret rfl rfl (Or.inr rfl) ?_
          refine h1 (p, dp, dg + 1, false) _ ?_ ⟨(((up2_n _ _ (fun z => absurd z.2 (by decide))).trans ((up2_n _ _ (fun z => absurd z.2 (by decide))).trans (rfl))).trans hs4), (((up2_n _ _ (fun z => absurd z.2 (by decide))).trans ((up2_n _ _ (fun z => absurd z.2 (by decide))).trans (rfl))).trans hs5), (((up2_n _ _ (fun z => absurd z.2 (by decide))).trans (up2_s _ _ _ _)).trans (nI_add dg 1)), (up2_s _ _ _ _)⟩ (fun b k hn => by rw [up2_n _ _ (fun z => hn ⟨z.1, by omega, by omega⟩), up2_n _ _ (fun z => hn ⟨z.1, by omega, by omega⟩)])
          clear h1 h0 hs4 hs5 hs6 hs7
          simp only [tStep]
          grind
        · -- 0
          show Go d 91 0 0 25 [.ref (ad 7 q), .int x, .int 0] [.int 0] (mm M f g) R
          refine go_if rfl (fun _ => ?_) (fun (z : ¬ ((0 : Int32) = 0)) => absurd (show (0 : Int32) = 0 from (by decide)) z)
          refine go_blk 5 [] (pc' := 64) (vs' := [.ref (ad 7 q), .int x, .int 0]) (st' := [.int 32, .int x]) (M' := mm M (up2 f (ad 7 q) 6 0) g) (ps := [ob (mm M f g) (ad 7 q) 9]) rfl ⟨ho, trivial⟩ ?_
          refine go_icmp rfl (fun (c8 : ¬ x = 32) => ?_) (fun (c8 : ¬ (¬ x = 32)) => ?_)
          · -- ¬ x = 32
            refine go_blk 2 [some (.int 1)] (pc' := 73) (vs' := [.ref (ad 7 q), .int x, .int 0]) (st' := [.int 1]) (M' := mm M (up2 f (ad 7 q) 6 0) g) (ps := [ob (mm M (up2 f (ad 7 q) 6 0) g) (ad 7 q) 9, (Value.int ((up2 f (ad 7 q) 6 0) (ad 7 q) 7)) = .int 1]) rfl ⟨ho, congrArg Value.int (((up2_n _ _ (fun z => absurd z.2 (by decide))).trans (rfl)).trans hs7), trivial⟩ ?_
            refine go_if rfl (fun (z : (1 : Int32) = 0) => absurd z (show ¬ ((1 : Int32) = 0) from (by decide))) (fun _ => ?_)
            refine go_blk 2 [] (pc' := 78) (vs' := [.ref (ad 7 q), .int x, .int 0]) (st' := [.int x, .ref (ad 7 q)]) (M' := mm M (up2 f (ad 7 q) 6 0) g) (ps := []) rfl trivial ?_
            refine go_callV rfl rfl rfl (by omega) rfl (by decide) (by decide) ho ?_
            show Go (d - 1) 92 0 0 0 [.ref (ad 7 q), .int x] [] (mm M (up2 f (ad 7 q) 6 0) g) _
            refine go_blk 2 [] (pc' := 3) (vs' := [.ref (ad 7 q), .int x]) (st' := [.int 40, .int x]) (M' := mm M (up2 f (ad 7 q) 6 0) g) (ps := []) rfl trivial ?_
            refine go_icmp rfl (fun (c9 : ¬ x = 40) => ?_) (fun (c9 : ¬ (¬ x = 40)) => ?_)
            · -- ¬ x = 40
              refine go_blk 4 [] (pc' := 33) (vs' := [.ref (ad 7 q), .int x]) (st' := [.int x]) (M' := mm M (up2 (up2 f (ad 7 q) 6 0) (ad 7 q) 7 0) g) (ps := [ob (mm M (up2 f (ad 7 q) 6 0) g) (ad 7 q) 9, 0 = 0 ∨ 0 = 1]) rfl ⟨ho, (Or.inl rfl), trivial⟩ ?_
              refine go_let rfl (by omega) (by decide) ?_
              rw [hx]
              show Go (d - 1) 92 0 0 36 [.ref (ad 7 q), .int x] [.int 1] (mm M (up2 (up2 f (ad 7 q) 6 0) (ad 7 q) 7 0) g) _
              refine go_zret rfl rfl (Or.inr rfl) ?_
              refine ⟨ne_i, ?_⟩
              show Go d 91 0 0 81 [.ref (ad 7 q), .int x, .int 0] [.int 1] (mm M (up2 (up2 f (ad 7 q) 6 0) (ad 7 q) 7 0) g) R
              refine go_blk 1 [] (pc' := 89) (vs' := [.ref (ad 7 q), .int x, .int 0]) (st' := [.int 1]) (M' := mm M (up2 (up2 f (ad 7 q) 6 0) (ad 7 q) 7 0) g) (ps := []) rfl trivial ?_
              refine go_zret rfl rfl (Or.inr rfl) ?_
              refine h1 (p, dp, 0, false) _ ?_ ⟨(((up2_n _ _ (fun z => absurd z.2 (by decide))).trans ((up2_n _ _ (fun z => absurd z.2 (by decide))).trans (rfl))).trans hs4), (((up2_n _ _ (fun z => absurd z.2 (by decide))).trans ((up2_n _ _ (fun z => absurd z.2 (by decide))).trans (rfl))).trans hs5), ((up2_n _ _ (fun z => absurd z.2 (by decide))).trans (up2_s _ _ _ _)), (up2_s _ _ _ _)⟩ (fun b k hn => by rw [up2_n _ _ (fun z => hn ⟨z.1, by omega, by omega⟩), up2_n _ _ (fun z => hn ⟨z.1, by omega, by omega⟩)])
              clear h1 h0 hs4 hs5 hs6 hs7
              simp only [tStep]
              grind
            · -- ¬ (¬ x = 40)
              refine go_blk 3 [some (.int (nI dp))] (pc' := 12) (vs' := [.ref (ad 7 q), .int x]) (st' := [.int 6, .int (nI dp)]) (M' := mm M (up2 f (ad 7 q) 6 0) g) (ps := [ob (mm M (up2 f (ad 7 q) 6 0) g) (ad 7 q) 9, (Value.int ((up2 f (ad 7 q) 6 0) (ad 7 q) 5)) = .int (nI dp)]) rfl ⟨ho, congrArg Value.int (((up2_n _ _ (fun z => absurd z.2 (by decide))).trans (rfl)).trans hs5), trivial⟩ ?_
              refine go_icmp rfl (fun (c10 : 6 ≤ (nI dp)) => ?_) (fun (c10 : ¬ (6 ≤ (nI dp))) => ?_)
              · -- 6 ≤ (nI dp)
                have nc10 : 6 ≤ dp := (nI_les (a := 6) (b := dp) (by omega) (by omega)).mp c10
                refine go_blk 4 [] (pc' := 33) (vs' := [.ref (ad 7 q), .int x]) (st' := [.int x]) (M' := mm M (up2 (up2 f (ad 7 q) 6 0) (ad 7 q) 7 0) g) (ps := [ob (mm M (up2 f (ad 7 q) 6 0) g) (ad 7 q) 9, 0 = 0 ∨ 0 = 1]) rfl ⟨ho, (Or.inl rfl), trivial⟩ ?_
                refine go_let rfl (by omega) (by decide) ?_
                rw [hx]
                show Go (d - 1) 92 0 0 36 [.ref (ad 7 q), .int x] [.int 1] (mm M (up2 (up2 f (ad 7 q) 6 0) (ad 7 q) 7 0) g) _
                refine go_zret rfl rfl (Or.inr rfl) ?_
                refine ⟨ne_i, ?_⟩
                show Go d 91 0 0 81 [.ref (ad 7 q), .int x, .int 0] [.int 1] (mm M (up2 (up2 f (ad 7 q) 6 0) (ad 7 q) 7 0) g) R
                refine go_blk 1 [] (pc' := 89) (vs' := [.ref (ad 7 q), .int x, .int 0]) (st' := [.int 1]) (M' := mm M (up2 (up2 f (ad 7 q) 6 0) (ad 7 q) 7 0) g) (ps := []) rfl trivial ?_
                refine go_zret rfl rfl (Or.inr rfl) ?_
                refine h1 (p, dp, 0, false) _ ?_ ⟨(((up2_n _ _ (fun z => absurd z.2 (by decide))).trans ((up2_n _ _ (fun z => absurd z.2 (by decide))).trans (rfl))).trans hs4), (((up2_n _ _ (fun z => absurd z.2 (by decide))).trans ((up2_n _ _ (fun z => absurd z.2 (by decide))).trans (rfl))).trans hs5), ((up2_n _ _ (fun z => absurd z.2 (by decide))).trans (up2_s _ _ _ _)), (up2_s _ _ _ _)⟩ (fun b k hn => by rw [up2_n _ _ (fun z => hn ⟨z.1, by omega, by omega⟩), up2_n _ _ (fun z => hn ⟨z.1, by omega, by omega⟩)])
                clear h1 h0 hs4 hs5 hs6 hs7
                simp only [tStep]
                grind
              · -- ¬ (6 ≤ (nI dp))
                have nc10 : dp < 6 := (nI_lts (a := dp) (b := 6) (by omega) (by omega)).mp (Int32.not_le.mp c10)
                refine go_blk 7 [some (.int (nI dp))] (pc' := 26) (vs' := [.ref (ad 7 q), .int x]) (st' := [.int 1]) (M' := mm M (up2 (up2 f (ad 7 q) 6 0) (ad 7 q) 5 ((nI dp) + 1)) g) (ps := [(.ref (ad 7 q) : Value).category = 1, ob (mm M (up2 f (ad 7 q) 6 0) g) (ad 7 q) 9, (Value.int ((up2 f (ad 7 q) 6 0) (ad 7 q) 5)) = .int (nI dp), ob (mm M (up2 f (ad 7 q) 6 0) g) (ad 7 q) 9]) rfl ⟨rfl, ho, congrArg Value.int (((up2_n _ _ (fun z => absurd z.2 (by decide))).trans (rfl)).trans hs5), ho, trivial⟩ ?_
                refine go_zret rfl rfl (Or.inr rfl) ?_
                refine ⟨ne_i, ?_⟩
                show Go d 91 0 0 81 [.ref (ad 7 q), .int x, .int 0] [.int 1] (mm M (up2 (up2 f (ad 7 q) 6 0) (ad 7 q) 5 ((nI dp) + 1)) g) R
                refine go_blk 1 [] (pc' := 89) (vs' := [.ref (ad 7 q), .int x, .int 0]) (st' := [.int 1]) (M' := mm M (up2 (up2 f (ad 7 q) 6 0) (ad 7 q) 5 ((nI dp) + 1)) g) (ps := []) rfl trivial ?_
                refine go_zret rfl rfl (Or.inr rfl) ?_
                refine h1 (p, dp + 1, 0, true) _ ?_ ⟨(((up2_n _ _ (fun z => absurd z.2 (by decide))).trans ((up2_n _ _ (fun z => absurd z.2 (by decide))).trans (rfl))).trans hs4), ((up2_s _ _ _ _).trans (nI_add dp 1)), ((up2_n _ _ (fun z => absurd z.2 (by decide))).trans (up2_s _ _ _ _)), (((up2_n _ _ (fun z => absurd z.2 (by decide))).trans ((up2_n _ _ (fun z => absurd z.2 (by decide))).trans (rfl))).trans hs7)⟩ (fun b k hn => by rw [up2_n _ _ (fun z => hn ⟨z.1, by omega, by omega⟩), up2_n _ _ (fun z => hn ⟨z.1, by omega, by omega⟩)])
                clear h1 h0 hs4 hs5 hs6 hs7
                simp only [tStep]
                grind
          · -- ¬ (¬ x = 32)
            refine go_blk 1 [] (pc' := 68) (vs' := [.ref (ad 7 q), .int x, .int 0]) (st' := [.int 1]) (M' := mm M (up2 f (ad 7 q) 6 0) g) (ps := []) rfl trivial ?_
            refine go_zret rfl rfl (Or.inr rfl) ?_
            refine h1 (p, dp, 0, true) _ ?_ ⟨(((up2_n _ _ (fun z => absurd z.2 (by decide))).trans (rfl)).trans hs4), (((up2_n _ _ (fun z => absurd z.2 (by decide))).trans (rfl)).trans hs5), (up2_s _ _ _ _), (((up2_n _ _ (fun z => absurd z.2 (by decide))).trans (rfl)).trans hs7)⟩ (fun b k hn => by rw [up2_n _ _ (fun z => hn ⟨z.1, by omega, by omega⟩)])
            clear h1 h0 hs4 hs5 hs6 hs7
            simp only [tStep]
            grind
      · -- ¬ (4 ≤ (nI dg))
        have nc6 : dg < 4 := (nI_lts (a := dg) (b := 4) (by omega) (by omega)).mp (Int32.not_le.mp c6)
        refine go_blk 4 [] (pc' := 22) (vs' := [.ref (ad 7 q), .int x, .int 1]) (st' := [.int x]) (M' := mm M f g) (ps := []) rfl trivial ?_
        refine go_callS rfl (by decide) rfl rfl (by omega) rfl (by decide) (by decide) ?_
        refine s_Tx_isDigit (by omega) (fun c11 => ⟨ne_i, ?_⟩) (fun c11 => ⟨ne_i, ?_⟩)
        · -- 1
          show Go d 91 0 0 25 [.ref (ad 7 q), .int x, .int 1] [.int 1] (mm M f g) R
          refine go_if rfl (fun (z : (1 : Int32) = 0) => absurd z (show ¬ ((1 : Int32) = 0) from (by decide))) (fun _ => ?_)
          refine go_blk 2 [some (.int 1)] (pc' := 32) (vs' := [.ref (ad 7 q), .int x, .int 1]) (st' := [.int 1]) (M' := mm M f g) (ps := [ob (mm M f g) (ad 7 q) 9, (Value.int (f (ad 7 q) 7)) = .int 1]) rfl ⟨ho, congrArg Value.int hs7, trivial⟩ ?_
          refine go_if rfl (fun _ => ?_) (fun (z : ¬ (¬ (1 : Int32) = 0)) => absurd (show ¬ (1 : Int32) = 0 from (by decide)) z)
          refine go_blk 10 [some (.int (nI dg))] (pc' := 55) (vs' := [.ref (ad 7 q), .int x, .int 1]) (st' := [.int 1]) (M' := mm M (up2 (up2 f (ad 7 q) 6 ((nI dg) + 1)) (ad 7 q) 7 0) g) (ps := [(.ref (ad 7 q) : Value).category = 1, ob (mm M f g) (ad 7 q) 9, (Value.int (f (ad 7 q) 6)) = .int (nI dg), ob (mm M f g) (ad 7 q) 9, ob (mm M (up2 f (ad 7 q) 6 ((nI dg) + 1)) g) (ad 7 q) 9, 0 = 0 ∨ 0 = 1]) rfl ⟨rfl, ho, congrArg Value.int hs6, ho, ho, (Or.inl rfl), trivial⟩ ?_
          refine go_zret rfl rfl (Or.inr rfl) ?_
          refine h1 (p, dp, dg + 1, false) _ ?_ ⟨(((up2_n _ _ (fun z => absurd z.2 (by decide))).trans ((up2_n _ _ (fun z => absurd z.2 (by decide))).trans (rfl))).trans hs4), (((up2_n _ _ (fun z => absurd z.2 (by decide))).trans ((up2_n _ _ (fun z => absurd z.2 (by decide))).trans (rfl))).trans hs5), (((up2_n _ _ (fun z => absurd z.2 (by decide))).trans (up2_s _ _ _ _)).trans (nI_add dg 1)), (up2_s _ _ _ _)⟩ (fun b k hn => by rw [up2_n _ _ (fun z => hn ⟨z.1, by omega, by omega⟩), up2_n _ _ (fun z => hn ⟨z.1, by omega, by omega⟩)])
          clear h1 h0 hs4 hs5 hs6 hs7
          simp only [tStep]
          grind
        · -- 0
          show Go d 91 0 0 25 [.ref (ad 7 q), .int x, .int 1] [.int 0] (mm M f g) R
          refine go_if rfl (fun _ => ?_) (fun (z : ¬ ((0 : Int32) = 0)) => absurd (show (0 : Int32) = 0 from (by decide)) z)
          refine go_blk 5 [] (pc' := 64) (vs' := [.ref (ad 7 q), .int x, .int 1]) (st' := [.int 32, .int x]) (M' := mm M (up2 f (ad 7 q) 6 0) g) (ps := [ob (mm M f g) (ad 7 q) 9]) rfl ⟨ho, trivial⟩ ?_
          refine go_icmp rfl (fun (c12 : ¬ x = 32) => ?_) (fun (c12 : ¬ (¬ x = 32)) => ?_)
          · -- ¬ x = 32
            refine go_blk 2 [some (.int 1)] (pc' := 73) (vs' := [.ref (ad 7 q), .int x, .int 1]) (st' := [.int 1]) (M' := mm M (up2 f (ad 7 q) 6 0) g) (ps := [ob (mm M (up2 f (ad 7 q) 6 0) g) (ad 7 q) 9, (Value.int ((up2 f (ad 7 q) 6 0) (ad 7 q) 7)) = .int 1]) rfl ⟨ho, congrArg Value.int (((up2_n _ _ (fun z => absurd z.2 (by decide))).trans (rfl)).trans hs7), trivial⟩ ?_
            refine go_if rfl (fun (z : (1 : Int32) = 0) => absurd z (show ¬ ((1 : Int32) = 0) from (by decide))) (fun _ => ?_)
            refine go_blk 2 [] (pc' := 78) (vs' := [.ref (ad 7 q), .int x, .int 1]) (st' := [.int x, .ref (ad 7 q)]) (M' := mm M (up2 f (ad 7 q) 6 0) g) (ps := []) rfl trivial ?_
            refine go_callV rfl rfl rfl (by omega) rfl (by decide) (by decide) ho ?_
            show Go (d - 1) 92 0 0 0 [.ref (ad 7 q), .int x] [] (mm M (up2 f (ad 7 q) 6 0) g) _
            refine go_blk 2 [] (pc' := 3) (vs' := [.ref (ad 7 q), .int x]) (st' := [.int 40, .int x]) (M' := mm M (up2 f (ad 7 q) 6 0) g) (ps := []) rfl trivial ?_
            refine go_icmp rfl (fun (c13 : ¬ x = 40) => ?_) (fun (c13 : ¬ (¬ x = 40)) => ?_)
            · -- ¬ x = 40
              refine go_blk 4 [] (pc' := 33) (vs' := [.ref (ad 7 q), .int x]) (st' := [.int x]) (M' := mm M (up2 (up2 f (ad 7 q) 6 0) (ad 7 q) 7 0) g) (ps := [ob (mm M (up2 f (ad 7 q) 6 0) g) (ad 7 q) 9, 0 = 0 ∨ 0 = 1]) rfl ⟨ho, (Or.inl rfl), trivial⟩ ?_
              refine go_let rfl (by omega) (by decide) ?_
              rw [hx]
              show Go (d - 1) 92 0 0 36 [.ref (ad 7 q), .int x] [.int 1] (mm M (up2 (up2 f (ad 7 q) 6 0) (ad 7 q) 7 0) g) _
              refine go_zret rfl rfl (Or.inr rfl) ?_
              refine ⟨ne_i, ?_⟩
              show Go d 91 0 0 81 [.ref (ad 7 q), .int x, .int 1] [.int 1] (mm M (up2 (up2 f (ad 7 q) 6 0) (ad 7 q) 7 0) g) R
              refine go_blk 1 [] (pc' := 89) (vs' := [.ref (ad 7 q), .int x, .int 1]) (st' := [.int 1]) (M' := mm M (up2 (up2 f (ad 7 q) 6 0) (ad 7 q) 7 0) g) (ps := []) rfl trivial ?_
              refine go_zret rfl rfl (Or.inr rfl) ?_
              refine h1 (p, dp, 0, false) _ ?_ ⟨(((up2_n _ _ (fun z => absurd z.2 (by decide))).trans ((up2_n _ _ (fun z => absurd z.2 (by decide))).trans (rfl))).trans hs4), (((up2_n _ _ (fun z => absurd z.2 (by decide))).trans ((up2_n _ _ (fun z => absurd z.2 (by decide))).trans (rfl))).trans hs5), ((up2_n _ _ (fun z => absurd z.2 (by decide))).trans (up2_s _ _ _ _)), (up2_s _ _ _ _)⟩ (fun b k hn => by rw [up2_n _ _ (fun z => hn ⟨z.1, by omega, by omega⟩), up2_n _ _ (fun z => hn ⟨z.1, by omega, by omega⟩)])
              clear h1 h0 hs4 hs5 hs6 hs7
              simp only [tStep]
              grind
            · -- ¬ (¬ x = 40)
              refine go_blk 3 [some (.int (nI dp))] (pc' := 12) (vs' := [.ref (ad 7 q), .int x]) (st' := [.int 6, .int (nI dp)]) (M' := mm M (up2 f (ad 7 q) 6 0) g) (ps := [ob (mm M (up2 f (ad 7 q) 6 0) g) (ad 7 q) 9, (Value.int ((up2 f (ad 7 q) 6 0) (ad 7 q) 5)) = .int (nI dp)]) rfl ⟨ho, congrArg Value.int (((up2_n _ _ (fun z => absurd z.2 (by decide))).trans (rfl)).trans hs5), trivial⟩ ?_
              refine go_icmp rfl (fun (c14 : 6 ≤ (nI dp)) => ?_) (fun (c14 : ¬ (6 ≤ (nI dp))) => ?_)
              · -- 6 ≤ (nI dp)
                have nc14 : 6 ≤ dp := (nI_les (a := 6) (b := dp) (by omega) (by omega)).mp c14
                refine go_blk 4 [] (pc' := 33) (vs' := [.ref (ad 7 q), .int x]) (st' := [.int x]) (M' := mm M (up2 (up2 f (ad 7 q) 6 0) (ad 7 q) 7 0) g) (ps := [ob (mm M (up2 f (ad 7 q) 6 0) g) (ad 7 q) 9, 0 = 0 ∨ 0 = 1]) rfl ⟨ho, (Or.inl rfl), trivial⟩ ?_
                refine go_let rfl (by omega) (by decide) ?_
                rw [hx]
                show Go (d - 1) 92 0 0 36 [.ref (ad 7 q), .int x] [.int 1] (mm M (up2 (up2 f (ad 7 q) 6 0) (ad 7 q) 7 0) g) _
                refine go_zret rfl rfl (Or.inr rfl) ?_
                refine ⟨ne_i, ?_⟩
                show Go d 91 0 0 81 [.ref (ad 7 q), .int x, .int 1] [.int 1] (mm M (up2 (up2 f (ad 7 q) 6 0) (ad 7 q) 7 0) g) R
                refine go_blk 1 [] (pc' := 89) (vs' := [.ref (ad 7 q), .int x, .int 1]) (st' := [.int 1]) (M' := mm M (up2 (up2 f (ad 7 q) 6 0) (ad 7 q) 7 0) g) (ps := []) rfl trivial ?_
                refine go_zret rfl rfl (Or.inr rfl) ?_
                refine h1 (p, dp, 0, false) _ ?_ ⟨(((up2_n _ _ (fun z => absurd z.2 (by decide))).trans ((up2_n _ _ (fun z => absurd z.2 (by decide))).trans (rfl))).trans hs4), (((up2_n _ _ (fun z => absurd z.2 (by decide))).trans ((up2_n _ _ (fun z => absurd z.2 (by decide))).trans (rfl))).trans hs5), ((up2_n _ _ (fun z => absurd z.2 (by decide))).trans (up2_s _ _ _ _)), (up2_s _ _ _ _)⟩ (fun b k hn => by rw [up2_n _ _ (fun z => hn ⟨z.1, by omega, by omega⟩), up2_n _ _ (fun z => hn ⟨z.1, by omega, by omega⟩)])
                clear h1 h0 hs4 hs5 hs6 hs7
                simp only [tStep]
                grind
              · -- ¬ (6 ≤ (nI dp))
                have nc14 : dp < 6 := (nI_lts (a := dp) (b := 6) (by omega) (by omega)).mp (Int32.not_le.mp c14)
                refine go_blk 7 [some (.int (nI dp))] (pc' := 26) (vs' := [.ref (ad 7 q), .int x]) (st' := [.int 1]) (M' := mm M (up2 (up2 f (ad 7 q) 6 0) (ad 7 q) 5 ((nI dp) + 1)) g) (ps := [(.ref (ad 7 q) : Value).category = 1, ob (mm M (up2 f (ad 7 q) 6 0) g) (ad 7 q) 9, (Value.int ((up2 f (ad 7 q) 6 0) (ad 7 q) 5)) = .int (nI dp), ob (mm M (up2 f (ad 7 q) 6 0) g) (ad 7 q) 9]) rfl ⟨rfl, ho, congrArg Value.int (((up2_n _ _ (fun z => absurd z.2 (by decide))).trans (rfl)).trans hs5), ho, trivial⟩ ?_
                refine go_zret rfl rfl (Or.inr rfl) ?_
                refine ⟨ne_i, ?_⟩
                show Go d 91 0 0 81 [.ref (ad 7 q), .int x, .int 1] [.int 1] (mm M (up2 (up2 f (ad 7 q) 6 0) (ad 7 q) 5 ((nI dp) + 1)) g) R
                refine go_blk 1 [] (pc' := 89) (vs' := [.ref (ad 7 q), .int x, .int 1]) (st' := [.int 1]) (M' := mm M (up2 (up2 f (ad 7 q) 6 0) (ad 7 q) 5 ((nI dp) + 1)) g) (ps := []) rfl trivial ?_
                refine go_zret rfl rfl (Or.inr rfl) ?_
                refine h1 (p, dp + 1, 0, true) _ ?_ ⟨(((up2_n _ _ (fun z => absurd z.2 (by decide))).trans ((up2_n _ _ (fun z => absurd z.2 (by decide))).trans (rfl))).trans hs4), ((up2_s _ _ _ _).trans (nI_add dp 1)), ((up2_n _ _ (fun z => absurd z.2 (by decide))).trans (up2_s _ _ _ _)), (((up2_n _ _ (fun z => absurd z.2 (by decide))).trans ((up2_n _ _ (fun z => absurd z.2 (by decide))).trans (rfl))).trans hs7)⟩ (fun b k hn => by rw [up2_n _ _ (fun z => hn ⟨z.1, by omega, by omega⟩), up2_n _ _ (fun z => hn ⟨z.1, by omega, by omega⟩)])
                clear h1 h0 hs4 hs5 hs6 hs7
                simp only [tStep]
                grind
          · -- ¬ (¬ x = 32)
            refine go_blk 1 [] (pc' := 68) (vs' := [.ref (ad 7 q), .int x, .int 1]) (st' := [.int 1]) (M' := mm M (up2 f (ad 7 q) 6 0) g) (ps := []) rfl trivial ?_
            refine go_zret rfl rfl (Or.inr rfl) ?_
            refine h1 (p, dp, 0, true) _ ?_ ⟨(((up2_n _ _ (fun z => absurd z.2 (by decide))).trans (rfl)).trans hs4), (((up2_n _ _ (fun z => absurd z.2 (by decide))).trans (rfl)).trans hs5), (up2_s _ _ _ _), (((up2_n _ _ (fun z => absurd z.2 (by decide))).trans (rfl)).trans hs7)⟩ (fun b k hn => by rw [up2_n _ _ (fun z => hn ⟨z.1, by omega, by omega⟩)])
            clear h1 h0 hs4 hs5 hs6 hs7
            simp only [tStep]
            grind

def fltI (o : Option Nat) : Int32 := match o with
  | some i => nI i
  | none => -1
/-- a text's cells -/
def Xq (M : Mem) (ad : Nat → Nat → Nat) (q : Nat) : Prop := ob M (ad 7 q) 9 ∧ mR M (ad 7 q) 0 = some (ad 8 q) ∧ ob M (ad 8 q) 15 ∧ mN M (ad 8 q) = 120

set_option maxRecDepth 100000 in
theorem lp_Tx_firstFault {d : Nat} {M : Mem} {f : Nat → Nat → Int32} {g : Nat → Nat → Int64} {ad : Nat → Nat → Nat} {R : Option Value → Mem → Prop} {q n : Nat} (hd : 33 ≤ d) (hX : Xq M ad q) (hi : Inj ad) (hn : n ≤ 120) (hf1 : f (ad 7 q) 1 = nI n) (hb : ∀ k, k < n → ∃ m, m < 256 ∧ f (ad 8 q) k = nI m) (hR : ∀ f', TK f f' (ad 7 q) → R (some (.int (fltI (flt (f (ad 8 q)) 0 n (0, 0, 0, true))))) (mm M f' g)) : ∀ (m i : Nat) (s : TSt) (f' : Nat → Nat → Int32), i + m = n → okS s → TS f' (ad 7 q) s → TK f f' (ad 7 q) → flt (f (ad 8 q)) i m s = flt (f (ad 8 q)) 0 n (0, 0, 0, true) → Go d 90 0 0 22 [.ref (ad 7 q), .int (nI i)] [] (mm M f' g) R := by
  intro m
  induction m with
  | zero =>
    intro i s f' him hok hs hk hfl
    obtain rfl : i = n := by omega
    obtain ⟨p, dp, dg, due⟩ := s
    obtain ⟨hs4, hs5, hs6, hs7⟩ := hs
    obtain ⟨k1, k2, k3, k4⟩ := hok
    simp only at hs4 hs5 hs6 hs7 k1 k2 k3 k4
    have hf1' : f' (ad 7 q) 1 = nI i := (hk _ _ (fun z => absurd z.2.1 (by decide))).trans hf1
    cases due
    · replace hs7 : f' (ad 7 q) 7 = 0 := hs7
      show Go d 90 0 0 22 [.ref (ad 7 q), .int (nI i)] [] (mm M f' g) R
      refine go_blk 3 [some (.int (nI i))] (pc' := 27) (vs' := [.ref (ad 7 q), .int (nI i)]) (st' := [.int (nI i), .int (nI i)]) (M' := mm M f' g) (ps := [ob (mm M f' g) (ad 7 q) 9, (Value.int (f' (ad 7 q) 1)) = .int (nI i)]) rfl ⟨hX.1, congrArg Value.int hf1', trivial⟩ ?_
      refine go_icmp rfl (fun _ => ?_) (fun (z : ¬ (nI i ≤ (nI i))) => absurd (show nI i ≤ (nI i) from Int32.le_refl _) z)
      refine go_blk 2 [some (.int 0)] (pc' := 55) (vs' := [.ref (ad 7 q), .int (nI i)]) (st' := [.int 0]) (M' := mm M f' g) (ps := [ob (mm M f' g) (ad 7 q) 9, (Value.int (f' (ad 7 q) 7)) = .int 0]) rfl ⟨hX.1, congrArg Value.int hs7, trivial⟩ ?_
      refine go_if rfl (fun (z : ¬ (0 : Int32) = 0) => absurd z (show ¬ (¬ (0 : Int32) = 0) from (by decide))) (fun _ => ?_)
      refine go_blk 2 [some (.int (nI dp))] (pc' := 62) (vs' := [.ref (ad 7 q), .int (nI i)]) (st' := [.int (nI dp)]) (M' := mm M f' g) (ps := [ob (mm M f' g) (ad 7 q) 9, (Value.int (f' (ad 7 q) 5)) = .int (nI dp)]) rfl ⟨hX.1, congrArg Value.int hs5, trivial⟩ ?_
      refine go_if rfl (fun (c1 : ¬ (nI dp) = 0) => ?_) (fun (c1 : ¬ (¬ (nI dp) = 0)) => ?_)
      · -- ¬ (nI dp) = 0
        have nc1 : ¬ dp = 0 := fun q => c1 ((nI_eqs (a := dp) (b := 0) (by omega) (by omega)).mpr q)
        refine go_blk 3 [] (pc' := 87) (vs' := [.ref (ad 7 q), .int 0]) (st' := [.int 0]) (M' := mm M f' g) (ps := []) rfl trivial ?_
        refine go_if rfl (fun _ => ?_) (fun (z : ¬ ((0 : Int32) = 0)) => absurd (show (0 : Int32) = 0 from (by decide)) z)
        refine go_blk 2 [some (.int (nI i))] (pc' := 98) (vs' := [.ref (ad 7 q), .int 0]) (st' := [.int (nI i)]) (M' := mm M f' g) (ps := [ob (mm M f' g) (ad 7 q) 9, (Value.int (f' (ad 7 q) 1)) = .int (nI i)]) rfl ⟨hX.1, congrArg Value.int hf1', trivial⟩ ?_
        refine go_iret rfl rfl ?_
        have z := hR f' hk
        rw [← hfl] at z
        have e : fltI (flt (f (ad 8 q)) i 0 (p, dp, dg, false)) = (nI i) := by
          clear z hR hfl
          simp only [flt, tEnd]
          grind [fltI]
        rw [e] at z; exact z
      · -- ¬ (¬ (nI dp) = 0)
        have nc1 : dp = 0 := (nI_eqs (a := dp) (b := 0) (by omega) (by omega)).mp (Classical.not_not.mp c1)
        refine go_blk 2 [some (.int (nI p))] (pc' := 69) (vs' := [.ref (ad 7 q), .int (nI i)]) (st' := [.int (nI p)]) (M' := mm M f' g) (ps := [ob (mm M f' g) (ad 7 q) 9, (Value.int (f' (ad 7 q) 4)) = .int (nI p)]) rfl ⟨hX.1, congrArg Value.int hs4, trivial⟩ ?_
        refine go_if rfl (fun (c2 : (nI p) = 0) => ?_) (fun (c2 : ¬ ((nI p) = 0)) => ?_)
        · -- (nI p) = 0
          have nc2 : p = 0 := (nI_eqs (a := p) (b := 0) (by omega) (by omega)).mp c2
          refine go_blk 4 [] (pc' := 87) (vs' := [.ref (ad 7 q), .int 1]) (st' := [.int 1]) (M' := mm M f' g) (ps := []) rfl trivial ?_
          refine go_if rfl (fun (z : (1 : Int32) = 0) => absurd z (show ¬ ((1 : Int32) = 0) from (by decide))) (fun _ => ?_)
          refine go_blk 2 [] (pc' := 98) (vs' := [.ref (ad 7 q), .int 1]) (st' := [.int (-1)]) (M' := mm M f' g) (ps := []) rfl trivial ?_
          refine go_iret rfl rfl ?_
          have z := hR f' hk
          rw [← hfl] at z
          have e : fltI (flt (f (ad 8 q)) i 0 (p, dp, dg, false)) = ((-1) : Int32) := by
            clear z hR hfl
            simp only [flt, tEnd]
            grind [fltI]
          rw [e] at z; exact z
        · -- ¬ ((nI p) = 0)
          have nc2 : ¬ p = 0 := fun q => c2 ((nI_eqs (a := p) (b := 0) (by omega) (by omega)).mpr q)
          refine go_blk 3 [some (.int (nI p))] (pc' := 77) (vs' := [.ref (ad 7 q), .int (nI i)]) (st' := [.int 3, .int (nI p)]) (M' := mm M f' g) (ps := [ob (mm M f' g) (ad 7 q) 9, (Value.int (f' (ad 7 q) 4)) = .int (nI p)]) rfl ⟨hX.1, congrArg Value.int hs4, trivial⟩ ?_
          refine go_icmp rfl (fun (c3 : ¬ (nI p) = 3) => ?_) (fun (c3 : ¬ (¬ (nI p) = 3)) => ?_)
          · -- ¬ (nI p) = 3
            have nc3 : ¬ p = 3 := fun q => c3 ((nI_eqs (a := p) (b := 3) (by omega) (by omega)).mpr q)
            refine go_blk 3 [] (pc' := 87) (vs' := [.ref (ad 7 q), .int 0]) (st' := [.int 0]) (M' := mm M f' g) (ps := []) rfl trivial ?_
            refine go_if rfl (fun _ => ?_) (fun (z : ¬ ((0 : Int32) = 0)) => absurd (show (0 : Int32) = 0 from (by decide)) z)
            refine go_blk 2 [some (.int (nI i))] (pc' := 98) (vs' := [.ref (ad 7 q), .int 0]) (st' := [.int (nI i)]) (M' := mm M f' g) (ps := [ob (mm M f' g) (ad 7 q) 9, (Value.int (f' (ad 7 q) 1)) = .int (nI i)]) rfl ⟨hX.1, congrArg Value.int hf1', trivial⟩ ?_
            refine go_iret rfl rfl ?_
            have z := hR f' hk
            rw [← hfl] at z
            have e : fltI (flt (f (ad 8 q)) i 0 (p, dp, dg, false)) = (nI i) := by
              clear z hR hfl
              simp only [flt, tEnd]
              grind [fltI]
            rw [e] at z; exact z
          · -- ¬ (¬ (nI p) = 3)
            have nc3 : p = 3 := (nI_eqs (a := p) (b := 3) (by omega) (by omega)).mp (Classical.not_not.mp c3)
            refine go_blk 4 [] (pc' := 87) (vs' := [.ref (ad 7 q), .int 1]) (st' := [.int 1]) (M' := mm M f' g) (ps := []) rfl trivial ?_
            refine go_if rfl (fun (z : (1 : Int32) = 0) => absurd z (show ¬ ((1 : Int32) = 0) from (by decide))) (fun _ => ?_)
            refine go_blk 2 [] (pc' := 98) (vs' := [.ref (ad 7 q), .int 1]) (st' := [.int (-1)]) (M' := mm M f' g) (ps := []) rfl trivial ?_
            refine go_iret rfl rfl ?_
            have z := hR f' hk
            rw [← hfl] at z
            have e : fltI (flt (f (ad 8 q)) i 0 (p, dp, dg, false)) = ((-1) : Int32) := by
              clear z hR hfl
              simp only [flt, tEnd]
              grind [fltI]
            rw [e] at z; exact z
    · replace hs7 : f' (ad 7 q) 7 = 1 := hs7
      show Go d 90 0 0 22 [.ref (ad 7 q), .int (nI i)] [] (mm M f' g) R
      refine go_blk 3 [some (.int (nI i))] (pc' := 27) (vs' := [.ref (ad 7 q), .int (nI i)]) (st' := [.int (nI i), .int (nI i)]) (M' := mm M f' g) (ps := [ob (mm M f' g) (ad 7 q) 9, (Value.int (f' (ad 7 q) 1)) = .int (nI i)]) rfl ⟨hX.1, congrArg Value.int hf1', trivial⟩ ?_
      refine go_icmp rfl (fun _ => ?_) (fun (z : ¬ (nI i ≤ (nI i))) => absurd (show nI i ≤ (nI i) from Int32.le_refl _) z)
      refine go_blk 2 [some (.int 1)] (pc' := 55) (vs' := [.ref (ad 7 q), .int (nI i)]) (st' := [.int 1]) (M' := mm M f' g) (ps := [ob (mm M f' g) (ad 7 q) 9, (Value.int (f' (ad 7 q) 7)) = .int 1]) rfl ⟨hX.1, congrArg Value.int hs7, trivial⟩ ?_
      refine go_if rfl (fun _ => ?_) (fun (z : ¬ (¬ (1 : Int32) = 0)) => absurd (show ¬ (1 : Int32) = 0 from (by decide)) z)
      refine go_blk 3 [] (pc' := 87) (vs' := [.ref (ad 7 q), .int 0]) (st' := [.int 0]) (M' := mm M f' g) (ps := []) rfl trivial ?_
      refine go_if rfl (fun _ => ?_) (fun (z : ¬ ((0 : Int32) = 0)) => absurd (show (0 : Int32) = 0 from (by decide)) z)
      refine go_blk 2 [some (.int (nI i))] (pc' := 98) (vs' := [.ref (ad 7 q), .int 0]) (st' := [.int (nI i)]) (M' := mm M f' g) (ps := [ob (mm M f' g) (ad 7 q) 9, (Value.int (f' (ad 7 q) 1)) = .int (nI i)]) rfl ⟨hX.1, congrArg Value.int hf1', trivial⟩ ?_
      refine go_iret rfl rfl ?_
      have z := hR f' hk
      rw [← hfl] at z
      have e : fltI (flt (f (ad 8 q)) i 0 (p, dp, dg, true)) = (nI i) := by
        clear z hR hfl
        simp only [flt, tEnd]
        grind [fltI]
      rw [e] at z; exact z
  | succ m ih =>
    intro i s f' him hok hs hk hfl
    have hf1' : f' (ad 7 q) 1 = nI n := (hk _ _ (fun z => absurd z.2.1 (by decide))).trans hf1
    have hf8 : f' (ad 8 q) i = f (ad 8 q) i := hk _ _ (fun z => absurd (hi _ _ _ _ z.1).1 (by decide))
    obtain ⟨by0, hb1, hb2⟩ := hb i (by omega)
    show Go d 90 0 0 22 [.ref (ad 7 q), .int (nI i)] [] (mm M f' g) R
    refine go_blk 3 [some (.int (nI n))] (pc' := 27) (vs' := [.ref (ad 7 q), .int (nI i)]) (st' := [.int (nI n), .int (nI i)]) (M' := mm M f' g) (ps := [ob (mm M f' g) (ad 7 q) 9, (Value.int (f' (ad 7 q) 1)) = .int (nI n)]) rfl ⟨hX.1, congrArg Value.int hf1', trivial⟩ ?_
    refine go_icmp rfl (fun (z : nI n ≤ (nI i)) => absurd z (show ¬ (nI n ≤ (nI i)) from (Int32.not_le.mpr ((nI_lts (a := i) (b := n) (by omega) (by omega)).mpr (by omega))))) (fun _ => ?_)
    refine go_blk 5 [some (.ref (ad 8 q)), some (.int (f (ad 8 q) i))] (pc' := 37) (vs' := [.ref (ad 7 q), .int (nI i)]) (st' := [.int (f (ad 8 q) i), .ref (ad 7 q)]) (M' := mm M f' g) (ps := [ob (mm M f' g) (ad 7 q) 9, mR (mm M f' g) (ad 7 q) 0 = some (ad 8 q), va_rf (some (ad 8 q)) = .ref (ad 8 q), ob (mm M f' g) (ad 8 q) 15, vp_in (nI i) (mN (mm M f' g) (ad 8 q)), (Value.int (f' (ad 8 q) ((nI i).toNatClampNeg))) = .int (f (ad 8 q) i)]) rfl ⟨hX.1, hX.2.1, rfl, hX.2.2.1, (vpi hX.2.2.2 (show i < 120 by omega)), congrArg Value.int ((congrArg (fun z => f' (ad 8 q) z) (nI_clamp (by omega))).trans hf8), trivial⟩ ?_
    refine go_callV rfl rfl rfl (by omega) rfl (by decide) (by decide) hX.1 ?_
    refine s_Tx_goesOnWith (f := f') (by omega) hX.1 hs hok (letV_lt hb1 hb2) (fun s2 f2 ht hs2 hk2 => ⟨ne_i, ?_⟩) (fun f2 ht hk2 => ⟨ne_i, ?_⟩)
    · -- ('i', '1')
      show Go d 90 0 0 40 [.ref (ad 7 q), .int (nI i)] [.int 1] (mm M f2 g) R
      refine go_if rfl (fun _ => ?_) (fun (z : ¬ (¬ (1 : Int32) = 0)) => absurd (show ¬ (1 : Int32) = 0 from (by decide)) z)
      refine go_blk 2 [] (pc' := 22) (vs' := [.ref (ad 7 q), .int ((nI i) + 1)]) (st' := []) (M' := mm M f2 g) (ps := []) rfl trivial ?_
      have e1 : nI i + 1 = nI (i + 1) := nI_add i 1
      rw [e1]
      refine ih (i + 1) s2 f2 (by omega) (tStep_ok hok ht) hs2 (hk.trans hk2) ?_
      rw [← hfl, flt, ht]
    · -- ('i', '0')
      show Go d 90 0 0 40 [.ref (ad 7 q), .int (nI i)] [.int 0] (mm M f2 g) R
      refine go_if rfl (fun (z : ¬ (0 : Int32) = 0) => absurd z (show ¬ (¬ (0 : Int32) = 0) from (by decide))) (fun _ => ?_)
      refine go_blk 1 [] (pc' := 44) (vs' := [.ref (ad 7 q), .int (nI i)]) (st' := [.int (nI i)]) (M' := mm M f2 g) (ps := []) rfl trivial ?_
      refine go_iret rfl rfl ?_
      have z := hR f2 (hk.trans hk2)
      rw [← hfl, flt, ht] at z
      exact z

set_option maxRecDepth 100000 in
theorem s_Tx_firstFault {d : Nat} {M : Mem} {f : Nat → Nat → Int32} {g : Nat → Nat → Int64} {ad : Nat → Nat → Nat} {R : Option Value → Mem → Prop} {q n : Nat} (hd : 33 ≤ d) (hX : Xq M ad q) (hi : Inj ad) (hn : n ≤ 120) (hf1 : f (ad 7 q) 1 = nI n) (hb : ∀ k, k < n → ∃ m, m < 256 ∧ f (ad 8 q) k = nI m) (hR : ∀ f', TK f f' (ad 7 q) → R (some (.int (fltI (flt (f (ad 8 q)) 0 n (0, 0, 0, true))))) (mm M f' g))  : Call d 90 [.ref (ad 7 q)] (mm M f g) R := by
  show Go d 90 0 0 0 [.ref (ad 7 q), .retAddr 0] [] (mm M f g) R
  refine go_blk 14 [] (pc' := 22) (vs' := [.ref (ad 7 q), .int 0]) (st' := []) (M' := mm M (up2 (up2 (up2 (up2 f (ad 7 q) 4 0) (ad 7 q) 5 0) (ad 7 q) 6 0) (ad 7 q) 7 1) g) (ps := [ob (mm M f g) (ad 7 q) 9, ob (mm M (up2 f (ad 7 q) 4 0) g) (ad 7 q) 9, ob (mm M (up2 (up2 f (ad 7 q) 4 0) (ad 7 q) 5 0) g) (ad 7 q) 9, ob (mm M (up2 (up2 (up2 f (ad 7 q) 4 0) (ad 7 q) 5 0) (ad 7 q) 6 0) g) (ad 7 q) 9, 1 = 0 ∨ 1 = 1]) rfl ⟨hX.1, hX.1, hX.1, hX.1, (Or.inr rfl), trivial⟩ ?_
  refine lp_Tx_firstFault (q := q) hd hX hi hn hf1 hb hR n 0 (0, 0, 0, true) _ (by omega) ⟨by decide, by decide, by decide, fun _ => rfl⟩ ⟨((up2_n _ _ (fun z => absurd z.2 (by decide))).trans ((up2_n _ _ (fun z => absurd z.2 (by decide))).trans ((up2_n _ _ (fun z => absurd z.2 (by decide))).trans (up2_s _ _ _ _)))), ((up2_n _ _ (fun z => absurd z.2 (by decide))).trans ((up2_n _ _ (fun z => absurd z.2 (by decide))).trans (up2_s _ _ _ _))), ((up2_n _ _ (fun z => absurd z.2 (by decide))).trans (up2_s _ _ _ _)), (up2_s _ _ _ _)⟩ (fun b k hz => by rw [up2_n _ _ (fun z => hz ⟨z.1, by omega, by omega⟩), up2_n _ _ (fun z => hz ⟨z.1, by omega, by omega⟩), up2_n _ _ (fun z => hz ⟨z.1, by omega, by omega⟩), up2_n _ _ (fun z => hz ⟨z.1, by omega, by omega⟩)]) rfl

