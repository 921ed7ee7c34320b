/-! tick: the class, minute after minute -/
theorem RC.now {ad : Nat → Nat → Nat} {jb : Nat → Nat} {nt nc wk : Nat} {F f : Nat → Nat → Int32} {D : DS} {v : Int32} (hi : Inj ad) (h : RC ad jb nt nc wk F f D) : RC ad jb nt nc wk (up2 F (ad 0 0) 9 v) (up2 f (ad 0 0) 9 v) D := by
  have n0 : ∀ t i k, ¬ t = 0 → up2 f (ad 0 0) 9 v (ad t i) k = f (ad t i) k := fun t i k z => up2_n _ _ (fun y => z (hi _ _ _ _ y.1).1)
  obtain ⟨h1, h2, h3, h4⟩ := h
  refine ⟨fun t ht => ?_, fun t i n ht z1 z2 z3 => ?_, fun c hc z => ?_, fun x k z1 z2 => ?_⟩
  · rw [n0 3 t 0 (by decide), n0 3 t 1 (by decide), n0 3 t 4 (by decide), n0 3 t 5 (by decide), n0 3 t 6 (by decide), n0 3 t 7 (by decide), n0 3 t 8 (by decide), n0 3 t 9 (by decide), n0 3 t 10 (by decide)]; exact h1 t ht
  · rw [n0 5 t i (by decide)]; exact h2 t i n ht z1 z2 z3
  · rw [n0 6 _ 1 (by decide), n0 6 _ 3 (by decide), n0 6 _ 4 (by decide), n0 6 _ 5 (by decide), n0 6 _ 6 (by decide), n0 6 _ 7 (by decide), n0 6 _ 8 (by decide), n0 6 _ 9 (by decide), n0 6 _ 10 (by decide)]; exact h3 c hc z
  · by_cases q : x = ad 0 0 ∧ k = 9
    · rw [q.1, q.2, up2_s, up2_s]
    · rw [up2_n _ _ q, up2_n _ _ q]; exact h4 x k z1 z2
theorem EC.now {M : Mem} {ad : Nat → Nat → Nat} {jb : Nat → Nat} {nt nc wk : Nat} {F : Nat → Nat → Int32} {D : DS} {rs v : Int32} (h : EC M ad jb nt nc wk F D rs) : EC M ad jb nt nc wk (up2 F (ad 0 0) 9 v) D rs := by
  obtain ⟨h1, h2, h3, h4, h5⟩ := h
  have hi := h1.1
  exact ⟨h1, h2, h3, fun a b ha hb => (up2_n _ _ (fun z => absurd (hi _ _ _ _ z.1).2 (by decide))).trans (h4 a b ha hb), (up2_n _ _ (fun z => absurd (hi _ _ _ _ z.1).2 (by decide))).trans h5⟩
theorem RC.c0 {ad : Nat → Nat → Nat} {jb : Nat → Nat} {nt nc wk : Nat} {F f : Nat → Nat → Int32} {D : DS} (hi : Inj ad) (h : RC ad jb nt nc wk F f D) (k : Nat) : f (ad 0 0) k = F (ad 0 0) k := h.2.2.2 _ _ (fun t _ => ⟨fun z => absurd (hi _ _ _ _ z.1).1 (by decide), fun z => absurd (hi _ _ _ _ z).1 (by decide)⟩) (fun c _ _ z => absurd (hi _ _ _ _ z.1).1 (by decide))

set_option maxRecDepth 100000 in
theorem lp_Te_pass {d : Nat} {M : Mem} {F : Nat → Nat → Int32} {g : Nat → Nat → Int64} {ad : Nat → Nat → Nat} {R : Option Value → Mem → Prop} {jb : Nat → Nat} {nt nc wk n t : Nat} {rs : Int32} {lo : Nat → Nat} (hd : 3 ≤ d) (ht : t < nt) (hn : n ≤ 1440) (hlo : lo t = n) : ∀ (m : Nat) (D : DS) (f : Nat → Nat → Int32) (i : Nat), EC M ad jb nt nc wk F D rs → DW D nt nc wk rs lo → muD D n t < m → RC ad jb nt nc wk F f D → i + m ≤ 99 → (∀ f', RC ad jb nt nc wk F f' (fnD rs wk n t m D) → R none (mm M f' g)) → Go d 77 0 0 6 [.ref (ad 3 t), .ref (ad 0 5), .ref (ad 0 16), .int (nI n), .int 1, .int (nI i)] [] (mm M f g) R := by
  intro m
  induction m with
  | zero => intro D f i _ _ h; exact absurd h (Nat.not_lt_zero _)
  | succ m ih =>
    intro D f i he hW hmu hr him hR
    obtain ⟨⟨hi, hF, hT, hnt, hnc, hwk⟩, hjm, hji, hro, hrs⟩ := id he
    rw [fnD] at hR
    show Go d 77 0 0 6 [.ref (ad 3 t), .ref (ad 0 5), .ref (ad 0 16), .int (nI n), .int 1, .int (nI i)] [] (mm M f g) R
    refine go_blk 2 [] (pc' := 10) (vs' := [.ref (ad 3 t), .ref (ad 0 5), .ref (ad 0 16), .int (nI n), .int 1, .int (nI i)]) (st' := [.int 100, .int (nI i)]) (M' := mm M f g) (ps := []) rfl trivial ?_
    refine go_icmp rfl (fun (z : 100 ≤ (nI i)) => absurd z (show ¬ (100 ≤ (nI i)) from (Int32.not_le.mpr ((nI_lts (a := i) (b := 100) (by omega) (by decide)).mpr (by omega))))) (fun _ => ?_)
    refine go_blk 1 [] (pc' := 15) (vs' := [.ref (ad 3 t), .ref (ad 0 5), .ref (ad 0 16), .int (nI n), .int 1, .int (nI i)]) (st' := [.int 1]) (M' := mm M f g) (ps := []) rfl trivial ?_
    refine go_if rfl (fun (z : (1 : Int32) = 0) => absurd z (show ¬ ((1 : Int32) = 0) from (by decide))) (fun _ => ?_)
    refine go_blk 4 [] (pc' := 22) (vs' := [.ref (ad 3 t), .ref (ad 0 5), .ref (ad 0 16), .int (nI n), .int 1, .int (nI i)]) (st' := [.int (nI n), .ref (ad 0 16), .ref (ad 0 5), .ref (ad 3 t)]) (M' := mm M f g) (ps := []) rfl trivial ?_
    refine go_callV rfl rfl rfl (by omega) rfl (by decide) (by decide) (hT t ht).2.1 ?_
    refine s_Te_step (by omega) he hr hW ht hn hlo (fun D' hs f' hr' => ⟨ne_i, ?_⟩) (fun hs => ⟨ne_i, ?_⟩)
    · -- ('i', '1')
      rw [hs] at hR
      obtain ⟨w1, w2, w3⟩ := stD_ok hW ht hlo hn hnc hnt hs
      show Go d 77 0 0 25 [.ref (ad 3 t), .ref (ad 0 5), .ref (ad 0 16), .int (nI n), .int 1, .int (nI i)] [.int 1] (mm M f' g) R
      refine go_blk 3 [] (pc' := 6) (vs' := [.ref (ad 3 t), .ref (ad 0 5), .ref (ad 0 16), .int (nI n), .int 1, .int ((nI i) + 1)]) (st' := []) (M' := mm M f' g) (ps := []) rfl trivial ?_
      rw [show nI i + 1 = nI (i + 1) from nI_add i 1]
      exact ih D' f' (i + 1) (he.congr w3) w1 (by omega) hr' (by omega) hR
    · -- ('i', '0')
      rw [hs] at hR
      show Go d 77 0 0 25 [.ref (ad 3 t), .ref (ad 0 5), .ref (ad 0 16), .int (nI n), .int 1, .int (nI i)] [.int 0] (mm M f g) R
      refine go_blk 3 [] (pc' := 6) (vs' := [.ref (ad 3 t), .ref (ad 0 5), .ref (ad 0 16), .int (nI n), .int 0, .int ((nI i) + 1)]) (st' := []) (M' := mm M f g) (ps := []) rfl trivial ?_
      rw [show nI i + 1 = nI (i + 1) from nI_add i 1]
      show Go d 77 0 0 6 [.ref (ad 3 t), .ref (ad 0 5), .ref (ad 0 16), .int (nI n), .int 0, .int (nI (i + 1))] [] (mm M f g) R
      refine go_blk 2 [] (pc' := 10) (vs' := [.ref (ad 3 t), .ref (ad 0 5), .ref (ad 0 16), .int (nI n), .int 0, .int (nI (i + 1))]) (st' := [.int 100, .int (nI (i + 1))]) (M' := mm M f g) (ps := []) rfl trivial ?_
      refine go_icmp rfl (fun (z : 100 ≤ (nI (i + 1))) => absurd z (show ¬ (100 ≤ (nI (i + 1))) from (Int32.not_le.mpr ((nI_lts (a := i + 1) (b := 100) (by omega) (by decide)).mpr (by omega))))) (fun _ => ?_)
      refine go_blk 1 [] (pc' := 15) (vs' := [.ref (ad 3 t), .ref (ad 0 5), .ref (ad 0 16), .int (nI n), .int 0, .int (nI (i + 1))]) (st' := [.int 0]) (M' := mm M f g) (ps := []) rfl trivial ?_
      refine go_if rfl (fun _ => ?_) (fun (z : ¬ ((0 : Int32) = 0)) => absurd (show (0 : Int32) = 0 from (by decide)) z)
      refine go_vret rfl rfl ?_
      exact hR f hr

set_option maxRecDepth 100000 in
theorem s_Te_pass {d : Nat} {M : Mem} {F f : Nat → Nat → Int32} {g : Nat → Nat → Int64} {ad : Nat → Nat → Nat} {R : Option Value → Mem → Prop} {jb : Nat → Nat} {D : DS} {nt nc wk n t : Nat} {rs : Int32} {lo : Nat → Nat} (hd : 3 ≤ d) (he : EC M ad jb nt nc wk F D rs) (hr : RC ad jb nt nc wk F f D) (hW : DW D nt nc wk rs lo) (ht : t < nt) (hn : n ≤ 1440) (hlo : lo t = n) (hR : ∀ f', RC ad jb nt nc wk F f' (fnD rs wk n t 6 D) → R none (mm M f' g)) : Call d 77 [.ref (ad 3 t), .ref (ad 0 5), .ref (ad 0 16), .int (nI n)] (mm M f g) R := by
  show Go d 77 0 0 0 [.ref (ad 3 t), .ref (ad 0 5), .ref (ad 0 16), .int (nI n), .retAddr 0, .retAddr 0] [] (mm M f g) R
  refine go_blk 4 [] (pc' := 6) (vs' := [.ref (ad 3 t), .ref (ad 0 5), .ref (ad 0 16), .int (nI n), .int 1, .int 0]) (st' := []) (M' := mm M f g) (ps := []) rfl trivial ?_
  exact lp_Te_pass hd ht hn hlo 6 D f 0 he hW (by have := muD_le D n t; omega) hr (by omega) hR

set_option maxRecDepth 100000 in
theorem lp_CY_teams {d : Nat} {M : Mem} {F : Nat → Nat → Int32} {g : Nat → Nat → Int64} {ad : Nat → Nat → Nat} {R : Option Value → Mem → Prop} {jb : Nat → Nat} {D : DS} {nt nc wk n : Nat} {rs : Int32} {u1 u2 : Value} (hd : 4 ≤ d) (he : EC M ad jb nt nc wk F D rs) (hn : n ≤ 1440) (hW : DW D nt nc wk rs (loM n 0)) (F5 : F (ad 0 0) 5 = nI nt) (F9 : F (ad 0 0) 9 = nI n) (hR : ∀ f', RC ad jb nt nc wk F f' (miD rs wk nt n D) → Go d 136 0 0 89 [.ref (ad 0 0), u1, u2, .int (nI nt)] [] (mm M f' g) R) : ∀ t, t ≤ nt → ∀ f, RC ad jb nt nc wk F f (fldN (fun t D => fnD rs wk n t 6 D) t D) → Go d 136 0 0 51 [.ref (ad 0 0), u1, u2, .int (nI t)] [] (mm M f g) R := by
  obtain ⟨⟨hi, hF, hT, hnt, hnc, hwk⟩, hjm, hji, hro, hrs⟩ := id he
  refine up_ind (P := fun t => ∀ f, RC ad jb nt nc wk F f (fldN (fun t D => fnD rs wk n t 6 D) t D) → Go d 136 0 0 51 [.ref (ad 0 0), u1, u2, .int (nI t)] [] (mm M f g) R) nt (fun f hr => ?_) (fun t ht ih f hr => ?_)
  ·
    show Go d 136 0 0 51 [.ref (ad 0 0), u1, u2, .int (nI nt)] [] (mm M f g) R
    refine go_blk 3 [some (.int (nI nt))] (pc' := 56) (vs' := [.ref (ad 0 0), u1, u2, .int (nI nt)]) (st' := [.int (nI nt), .int (nI nt)]) (M' := mm M f g) (ps := [ob (mm M f g) (ad 0 0) 11, (Value.int (f (ad 0 0) 5)) = .int (nI nt)]) rfl ⟨(hF.o 0), congrArg Value.int ((hr.c0 hi 5).trans F5), trivial⟩ ?_
    refine go_icmp rfl (fun _ => ?_) (fun (z : ¬ (nI nt ≤ (nI nt))) => absurd (show nI nt ≤ (nI nt) from Int32.le_refl _) z)
    exact hR f hr
  ·
    show Go d 136 0 0 51 [.ref (ad 0 0), u1, u2, .int (nI t)] [] (mm M f g) R
    refine go_blk 3 [some (.int (nI nt))] (pc' := 56) (vs' := [.ref (ad 0 0), u1, u2, .int (nI t)]) (st' := [.int (nI nt), .int (nI t)]) (M' := mm M f g) (ps := [ob (mm M f g) (ad 0 0) 11, (Value.int (f (ad 0 0) 5)) = .int (nI nt)]) rfl ⟨(hF.o 0), congrArg Value.int ((hr.c0 hi 5).trans F5), trivial⟩ ?_
    refine go_icmp rfl (fun (z : nI nt ≤ (nI t)) => absurd z (show ¬ (nI nt ≤ (nI t)) from (Int32.not_le.mpr ((nI_lts (a := t) (b := nt) (by omega) (by omega)).mpr ht)))) (fun _ => ?_)
    refine go_blk 11 [some (.ref (ad 0 3)), some (.ref (ad 3 t)), some (.ref (ad 0 5)), some (.ref (ad 0 7)), some (.ref (ad 0 16)), some (.int (nI n))] (pc' := 80) (vs' := [.ref (ad 0 0), u1, u2, .int (nI t)]) (st' := [.int (nI n), .ref (ad 0 16), .ref (ad 0 5), .ref (ad 3 t)]) (M' := mm M f g) (ps := [ob (mm M f g) (ad 0 0) 11, mR (mm M f g) (ad 0 0) 4 = some (ad 0 3), va_rf (some (ad 0 3)) = .ref (ad 0 3), ob (mm M f g) (ad 0 3) 20, 17 ≤ 20 ∧ 20 < 22, vp_in (nI t) (mN (mm M f g) (ad 0 3)), mR (mm M f g) (ad 0 3) ((nI t).toNatClampNeg) = some (ad 3 t), va_rf (some (ad 3 t)) = .ref (ad 3 t), ob (mm M f g) (ad 0 0) 11, mR (mm M f g) (ad 0 0) 11 = some (ad 0 5), va_rf (some (ad 0 5)) = .ref (ad 0 5), ob (mm M f g) (ad 0 0) 11, mR (mm M f g) (ad 0 0) 14 = some (ad 0 7), va_rf (some (ad 0 7)) = .ref (ad 0 7), ob (mm M f g) (ad 0 7) 6, mR (mm M f g) (ad 0 7) 0 = some (ad 0 16), va_rf (some (ad 0 16)) = .ref (ad 0 16), ob (mm M f g) (ad 0 0) 11, (Value.int (f (ad 0 0) 9)) = .int (nI n)]) rfl ⟨(hF.o 0), (hF.r 0 4 3), rfl, (hF.o 3), (by decide), (vpi (hF.n 3) (show _ < 3 by omega)), (cl_rf rfl (by omega) (hT t (by assumption)).1), rfl, (hF.o 0), (hF.r 0 11 5), rfl, (hF.o 0), (hF.r 0 14 7), rfl, (hF.o 7), (hF.r 7 0 16), rfl, (hF.o 0), congrArg Value.int ((hr.c0 hi 9).trans F9), trivial⟩ ?_
    refine go_callV rfl rfl rfl (by omega) rfl (by decide) (by decide) (hT t (by assumption)).2.1 ?_
    refine s_Te_pass (lo := loM n t) (by omega) (he.congr (miD_ok hn hnc hnt hW t (by omega)).2) hr (miD_ok hn hnc hnt hW t (by omega)).1 ht hn (by unfold loM; rw [if_neg (by omega)]) (fun f' hr' => ⟨ne_v, ?_⟩)
    · -- ('v',)
      show Go d 136 0 0 83 [.ref (ad 0 0), u1, u2, .int (nI t)] [] (mm M f' g) R
      refine go_blk 2 [] (pc' := 51) (vs' := [.ref (ad 0 0), u1, u2, .int ((nI t) + 1)]) (st' := []) (M' := mm M f' g) (ps := []) rfl trivial ?_
      rw [show nI t + 1 = nI (t + 1) from nI_add t 1]
      exact ih f' hr'

set_option maxRecDepth 100000 in
theorem lp_CY_tick {d : Nat} {M : Mem} {F : Nat → Nat → Int32} {g : Nat → Nat → Int64} {ad : Nat → Nat → Nat} {R : Option Value → Mem → Prop} {jb : Nat → Nat} {D : DS} {nt nc wk n : Nat} {rs : Int32} {q : Nat} (hd : 4 ≤ d) (he : EC M ad jb nt nc wk F D rs) (hn : n + q ≤ 1440) (hW : DW D nt nc wk rs (loM (n + 1) 0)) (F5 : F (ad 0 0) 5 = nI nt) (hR : ∀ f' u3, RC ad jb nt nc wk (up2 F (ad 0 0) 9 (nI (n + q))) f' (tkD rs wk nt n q D) → Go d 136 0 0 95 [.ref (ad 0 0), .int (nI q), .int (nI q), u3] [] (mm M f' g) R) : ∀ i, i ≤ q → ∀ f u3, RC ad jb nt nc wk (up2 F (ad 0 0) 9 (nI (n + i))) f (tkD rs wk nt n i D) → Go d 136 0 0 34 [.ref (ad 0 0), .int (nI q), .int (nI i), u3] [] (mm M f g) R := by
  obtain ⟨⟨hi, hF, hT, hnt, hnc, hwk⟩, hjm, hji, hro, hrs⟩ := id he
  refine up_ind (P := fun i => ∀ f u3, RC ad jb nt nc wk (up2 F (ad 0 0) 9 (nI (n + i))) f (tkD rs wk nt n i D) → Go d 136 0 0 34 [.ref (ad 0 0), .int (nI q), .int (nI i), u3] [] (mm M f g) R) q (fun f u3 hr => ?_) (fun i hlt ih f u3 hr => ?_)
  ·
    show Go d 136 0 0 34 [.ref (ad 0 0), .int (nI q), .int (nI q), u3] [] (mm M f g) R
    refine go_blk 2 [] (pc' := 36) (vs' := [.ref (ad 0 0), .int (nI q), .int (nI q), u3]) (st' := [.int (nI q), .int (nI q)]) (M' := mm M f g) (ps := []) rfl trivial ?_
    refine go_icmp rfl (fun _ => ?_) (fun (z : ¬ (nI q ≤ (nI q))) => absurd (show nI q ≤ (nI q) from Int32.le_refl _) z)
    exact hR f u3 hr
  ·
    show Go d 136 0 0 34 [.ref (ad 0 0), .int (nI q), .int (nI i), u3] [] (mm M f g) R
    refine go_blk 2 [] (pc' := 36) (vs' := [.ref (ad 0 0), .int (nI q), .int (nI i), u3]) (st' := [.int (nI q), .int (nI i)]) (M' := mm M f g) (ps := []) rfl trivial ?_
    refine go_icmp rfl (fun (z : nI q ≤ (nI i)) => absurd z (show ¬ (nI q ≤ (nI i)) from (Int32.not_le.mpr ((nI_lts (a := i) (b := q) (by omega) (by omega)).mpr hlt)))) (fun _ => ?_)
    refine go_blk 8 [some (.int (nI (n + i)))] (pc' := 51) (vs' := [.ref (ad 0 0), .int (nI q), .int (nI i), .int 0]) (st' := []) (M' := mm M (up2 f (ad 0 0) 9 ((nI (n + i)) + 1)) g) (ps := [(.ref (ad 0 0) : Value).category = 1, ob (mm M f g) (ad 0 0) 11, (Value.int (f (ad 0 0) 9)) = .int (nI (n + i)), ob (mm M f g) (ad 0 0) 11]) rfl ⟨rfl, (hF.o 0), congrArg Value.int ((hr.c0 hi 9).trans (up2_s _ _ _ _)), (hF.o 0), trivial⟩ ?_
    rw [show nI (n + i) + 1 = nI (n + i + 1) from nI_add (n + i) 1]
    have hr2 := RC.now (v := nI (n + i + 1)) hi hr
    rw [up2_up2] at hr2
    have hk := tkD_ok hnc hnt hW i (by omega)
    refine lp_CY_teams (D := tkD rs wk nt n i D) (n := n + i + 1) (by omega) (EC.now (he.congr hk.2)) (by omega) hk.1 ((up2_n _ _ (fun z => absurd z.2 (by decide))).trans F5) (up2_s _ _ _ _) (fun f' hr' => ?_) 0 (Nat.zero_le _) _ hr2
    refine go_blk 2 [] (pc' := 34) (vs' := [.ref (ad 0 0), .int (nI q), .int (nI i + 1), .int (nI nt)]) (st' := []) (M' := mm M f' g) (ps := []) rfl trivial ?_
    rw [show nI i + 1 = nI (i + 1) from nI_add i 1]
    exact ih f' _ hr'

