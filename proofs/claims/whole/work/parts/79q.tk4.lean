/-! tick: the model, minute after minute -/
set_option maxRecDepth 100000 in
theorem lp_Mo_while {M : Mem} {F : Nat → Nat → Int32} {g : Nat → Nat → Int64} {ad : Nat → Nat → Nat} {nt nc wk : Nat} {rs : Int32} {n t d : Nat} {u1 u2 : Value} {lo : Nat → Nat} {R : Option Value → Mem → Prop} (hd : 4 ≤ d) (hM : Mx M ad) (hi : Inj ad) (hnt : nt ≤ 3) (hnc : nc ≤ 7) (hwk : wk < 52) (F19 : F (ad 10 0) 19 = nI wk) (F31 : F (ad 10 0) 31 = rs) (F30 : F (ad 10 0) 30 = nI nt) (hn : n ≤ 1440) (ht : t < nt) (hlo : lo t = n) : ∀ (m : Nat) (D : DS) (f : Nat → Nat → Int32), DW D nt nc wk rs lo → muD D n t < m → RM ad F f D n → (∀ f', RM ad F f' (fnD rs wk n t m D) n → Go d 226 0 0 82 [.ref (ad 10 0), u1, u2, .int (nI t), .int 0] [] (mm M f' g) R) → Go d 226 0 0 67 [.ref (ad 10 0), u1, u2, .int (nI t), .int 1] [] (mm M f g) R := by
  intro m
  induction m with
  | zero => intro D f _ h; exact absurd h (Nat.not_lt_zero _)
  | succ m ih =>
    intro D f hW hmu hr hR
    rw [fnD] at hR
    show Go d 226 0 0 67 [.ref (ad 10 0), u1, u2, .int (nI t), .int 1] [] (mm M f g) R
    refine go_blk 1 [] (pc' := 69) (vs' := [.ref (ad 10 0), u1, u2, .int (nI t), .int 1]) (st' := [.int 1]) (M' := mm M f g) (ps := []) rfl trivial ?_
    refine go_if rfl (fun (z : (1 : Int32) = 0) => absurd z (show ¬ ((1 : Int32) = 0) from (by decide))) (fun _ => ?_)
    refine go_blk 2 [] (pc' := 74) (vs' := [.ref (ad 10 0), u1, u2, .int (nI t), .int 1]) (st' := [.int (nI t), .ref (ad 10 0)]) (M' := mm M f g) (ps := []) rfl trivial ?_
    refine go_callV rfl rfl rfl (by omega) rfl (by decide) (by decide) hM.1 ?_
    refine s_Mo_goesOn (D := D) (rs := rs) (lo := lo) (nc := nc) (by omega) hM hi hr hW ht hnt hnc hwk hn F19 F31 (fun D' hs f' hr' => ⟨ne_i, ?_⟩) (fun hs => ⟨ne_i, ?_⟩)
    · -- ('i', '1')
      rw [hs] at hR
      obtain ⟨w1, w2, -⟩ := stD_ok hW ht hlo hn hnc hnt hs
      show Go d 226 0 0 77 [.ref (ad 10 0), u1, u2, .int (nI t), .int 1] [.int 1] (mm M f' g) R
      refine go_blk 2 [] (pc' := 67) (vs' := [.ref (ad 10 0), u1, u2, .int (nI t), .int 1]) (st' := []) (M' := mm M f' g) (ps := []) rfl trivial ?_
      exact ih D' f' w1 (by omega) hr' hR
    · -- ('i', '0')
      rw [hs] at hR
      show Go d 226 0 0 77 [.ref (ad 10 0), u1, u2, .int (nI t), .int 1] [.int 0] (mm M f g) R
      refine go_blk 2 [] (pc' := 67) (vs' := [.ref (ad 10 0), u1, u2, .int (nI t), .int 0]) (st' := []) (M' := mm M f g) (ps := []) rfl trivial ?_
      refine go_blk 1 [] (pc' := 69) (vs' := [.ref (ad 10 0), u1, u2, .int (nI t), .int 0]) (st' := [.int 0]) (M' := mm M f g) (ps := []) rfl trivial ?_
      refine go_if rfl (fun _ => ?_) (fun (z : ¬ ((0 : Int32) = 0)) => absurd rfl z)
      exact hR f hr

set_option maxRecDepth 100000 in
theorem lp_Mo_teams {M : Mem} {F : Nat → Nat → Int32} {g : Nat → Nat → Int64} {ad : Nat → Nat → Nat} {nt nc wk : Nat} {rs : Int32} {n d : Nat} {u1 u2 : Value} {R : Option Value → Mem → Prop} {D : DS} (hd : 4 ≤ d) (hM : Mx M ad) (hi : Inj ad) (hnt : nt ≤ 3) (hnc : nc ≤ 7) (hwk : wk < 52) (F19 : F (ad 10 0) 19 = nI wk) (F31 : F (ad 10 0) 31 = rs) (F30 : F (ad 10 0) 30 = nI nt) (hn : n ≤ 1440) (hW : DW D nt nc wk rs (loM n 0)) (hR : ∀ f' u4, RM ad F f' (miD rs wk nt n D) n → Go d 226 0 0 88 [.ref (ad 10 0), u1, u2, .int (nI nt), u4] [] (mm M f' g) R) : ∀ t, t ≤ nt → ∀ (f : Nat → Nat → Int32) (u4 : Value), RM ad F f (fldN (fun t D => fnD rs wk n t 6 D) t D) n → Go d 226 0 0 56 [.ref (ad 10 0), u1, u2, .int (nI t), u4] [] (mm M f g) R := by
  refine up_ind (P := fun t => ∀ (f : Nat → Nat → Int32) (u4 : Value), RM ad F f (fldN (fun t D => fnD rs wk n t 6 D) t D) n → Go d 226 0 0 56 [.ref (ad 10 0), u1, u2, .int (nI t), u4] [] (mm M f g) R) nt (fun f u4 hr => ?_) (fun t ht ih f u4 hr => ?_)
  ·
    show Go d 226 0 0 56 [.ref (ad 10 0), u1, u2, .int (nI nt), u4] [] (mm M f g) R
    refine go_blk 3 [some (.int (nI nt))] (pc' := 61) (vs' := [.ref (ad 10 0), u1, u2, .int (nI nt), u4]) (st' := [.int (nI nt), .int (nI nt)]) (M' := mm M f g) (ps := [ob (mm M f g) (ad 10 0) 12, (Value.int (f (ad 10 0) 30)) = .int (nI nt)]) rfl ⟨hM.1, congrArg Value.int ((hr.2.1 _ _ (fun i _ _ z => absurd (hi _ _ _ _ z).1 (by decide)) (fun z => absurd z.2 (by decide))).trans F30), trivial⟩ ?_
    refine go_icmp rfl (fun _ => ?_) (fun (z : ¬ (nI nt ≤ (nI nt))) => absurd (show nI nt ≤ (nI nt) from Int32.le_refl _) z)
    exact hR f u4 hr
  ·
    show Go d 226 0 0 56 [.ref (ad 10 0), u1, u2, .int (nI t), u4] [] (mm M f g) R
    refine go_blk 3 [some (.int (nI nt))] (pc' := 61) (vs' := [.ref (ad 10 0), u1, u2, .int (nI t), u4]) (st' := [.int (nI nt), .int (nI t)]) (M' := mm M f g) (ps := [ob (mm M f g) (ad 10 0) 12, (Value.int (f (ad 10 0) 30)) = .int (nI nt)]) rfl ⟨hM.1, congrArg Value.int ((hr.2.1 _ _ (fun i _ _ z => absurd (hi _ _ _ _ z).1 (by decide)) (fun z => absurd z.2 (by decide))).trans F30), trivial⟩ ?_
    refine go_icmp rfl (fun (z : nI nt ≤ (nI t)) => absurd z (show ¬ (nI nt ≤ (nI t)) from (Int32.not_le.mpr ((nI_lts (a := t) (b := nt) (by omega) (by omega)).mpr ht)))) (fun _ => ?_)
    refine go_blk 2 [] (pc' := 67) (vs' := [.ref (ad 10 0), u1, u2, .int (nI t), .int 1]) (st' := []) (M' := mm M f g) (ps := []) rfl trivial ?_
    refine lp_Mo_while (lo := loM n t) (by omega) hM hi hnt hnc hwk F19 F31 F30 hn ht (by unfold loM; rw [if_neg (by omega)]) 6 _ f (miD_ok hn hnc hnt hW t (by omega)).1 (by have := muD_le (fldN (fun t D => fnD rs wk n t 6 D) t D) n t; omega) hr (fun f' hr' => ?_)
    refine go_blk 2 [] (pc' := 56) (vs' := [.ref (ad 10 0), u1, u2, .int (nI t + 1), .int 0]) (st' := []) (M' := mm M f' g) (ps := []) rfl trivial ?_
    rw [show nI t + 1 = nI (t + 1) from nI_add t 1]
    exact ih f' _ hr'

set_option maxRecDepth 100000 in
theorem lp_Mo_tick {M : Mem} {F : Nat → Nat → Int32} {g : Nat → Nat → Int64} {ad : Nat → Nat → Nat} {nt nc wk : Nat} {rs : Int32} {n q d : Nat} {R : Option Value → Mem → Prop} {D : DS} (hd : 4 ≤ d) (hM : Mx M ad) (hi : Inj ad) (hnt : nt ≤ 3) (hnc : nc ≤ 7) (hwk : wk < 52) (F19 : F (ad 10 0) 19 = nI wk) (F31 : F (ad 10 0) 31 = rs) (F30 : F (ad 10 0) 30 = nI nt) (hn : n + q ≤ 1440) (hW : DW D nt nc wk rs (loM (n + 1) 0)) (hR : ∀ f' u3 u4, RM ad F f' (tkD rs wk nt n q D) (n + q) → Go d 226 0 0 94 [.ref (ad 10 0), .int (nI q), .int (nI q), u3, u4] [] (mm M f' g) R) : ∀ i, i ≤ q → ∀ (f : Nat → Nat → Int32) (u3 u4 : Value), RM ad F f (tkD rs wk nt n i D) (n + i) → Go d 226 0 0 39 [.ref (ad 10 0), .int (nI q), .int (nI i), u3, u4] [] (mm M f g) R := by
  refine up_ind (P := fun i => ∀ (f : Nat → Nat → Int32) (u3 u4 : Value), RM ad F f (tkD rs wk nt n i D) (n + i) → Go d 226 0 0 39 [.ref (ad 10 0), .int (nI q), .int (nI i), u3, u4] [] (mm M f g) R) q (fun f u3 u4 hr => ?_) (fun i hlt ih f u3 u4 hr => ?_)
  ·
    show Go d 226 0 0 39 [.ref (ad 10 0), .int (nI q), .int (nI q), u3, u4] [] (mm M f g) R
    refine go_blk 2 [] (pc' := 41) (vs' := [.ref (ad 10 0), .int (nI q), .int (nI q), u3, u4]) (st' := [.int (nI q), .int (nI q)]) (M' := mm M f g) (ps := []) rfl trivial ?_
    refine go_icmp rfl (fun _ => ?_) (fun (z : ¬ (nI q ≤ (nI q))) => absurd (show nI q ≤ (nI q) from Int32.le_refl _) z)
    exact hR f u3 u4 hr
  ·
    show Go d 226 0 0 39 [.ref (ad 10 0), .int (nI q), .int (nI i), u3, u4] [] (mm M f g) R
    refine go_blk 2 [] (pc' := 41) (vs' := [.ref (ad 10 0), .int (nI q), .int (nI i), u3, u4]) (st' := [.int (nI q), .int (nI i)]) (M' := mm M f g) (ps := []) rfl trivial ?_
    refine go_icmp rfl (fun (z : nI q ≤ (nI i)) => absurd z (show ¬ (nI q ≤ (nI i)) from (Int32.not_le.mpr ((nI_lts (a := i) (b := q) (by omega) (by omega)).mpr hlt)))) (fun _ => ?_)
    refine go_blk 8 [some (.int (nI (n + i)))] (pc' := 56) (vs' := [.ref (ad 10 0), .int (nI q), .int (nI i), .int 0, u4]) (st' := []) (M' := mm M (up2 f (ad 10 0) 20 ((nI (n + i)) + 1)) g) (ps := [(.ref (ad 10 0) : Value).category = 1, ob (mm M f g) (ad 10 0) 12, (Value.int (f (ad 10 0) 20)) = .int (nI (n + i)), ob (mm M f g) (ad 10 0) 12]) rfl ⟨rfl, hM.1, congrArg Value.int hr.2.2, hM.1, trivial⟩ ?_
    rw [show nI (n + i) + 1 = nI (n + i + 1) from nI_add (n + i) 1]
    refine lp_Mo_teams (D := tkD rs wk nt n i D) (by omega) hM hi hnt hnc hwk F19 F31 F30 (n := n + i + 1) (by omega) (tkD_ok hnc hnt hW i (by omega)).1 (fun f' u4 hr' => ?_) 0 (Nat.zero_le _) _ u4 ⟨fun j k z1 z2 => (up2_n _ _ (fun z => absurd (hi _ _ _ _ z.1).1 (by decide))).trans (hr.1 j k z1 z2), fun x k z1 z2 => (up2_n _ _ (fun z => z2 ⟨z.1, Or.inr z.2⟩)).trans (hr.2.1 x k z1 z2), up2_s _ _ _ _⟩
    refine go_blk 2 [] (pc' := 39) (vs' := [.ref (ad 10 0), .int (nI q), .int (nI i + 1), .int (nI nt), u4]) (st' := []) (M' := mm M f' g) (ps := []) rfl trivial ?_
    rw [show nI i + 1 = nI (i + 1) from nI_add i 1]
    exact ih f' _ _ hr'

