/-! openDay: the model's loop, its pieces -/
def qv (o : Option Nat) : Int32 := match o with | none => -1 | some b => nI b

set_option maxHeartbeats 4000000 in
set_option maxRecDepth 100000 in
theorem mo_pA {d : Nat} {M : Mem} {f : Nat → Nat → Int32} {g : Nat → Nat → Int64} {ad : Nat → Nat → Nat} {R : Option Value → Mem → Prop} {nb wk c : Nat} {u1 u2 u3 u5 u6 u7 : Value} (hd : 1 ≤ d) (hM : Mx M ad) (h18 : f (ad 10 0) 18 = nI nb) (nb3 : nb ≤ 60) (h19 : f (ad 10 0) 19 = nI wk) (hwk : wk < 52) (hc : c < 7) (hu : ∀ a b, a < nb → b < nb → ¬ f (ad 9 15) a = 0 → ¬ f (ad 9 15) b = 0 → f (ad 9 6) a = f (ad 9 6) b → f (ad 9 7) a = f (ad 9 7) b → a = b) (hk : Go d 209 0 0 121 [.ref (ad 10 0), u1, u2, u3, .int (nI c), .int (qv (cmO (fun i k => f (ad 9 i) k) nb wk c)), u6, u7] [] (mm M f g) R) : Go d 209 0 0 86 [.ref (ad 10 0), u1, u2, u3, .int (nI c), u5, u6, u7] [] (mm M f g) R := by
  show Go d 209 0 0 86 [.ref (ad 10 0), u1, u2, u3, .int (nI c), u5, u6, u7] [] (mm M f g) R
  refine go_blk 4 [some (.int (nI wk))] (pc' := 93) (vs' := [.ref (ad 10 0), u1, u2, u3, .int (nI c), u5, u6, u7]) (st' := [.int (nI wk), .int (nI c), .ref (ad 10 0)]) (M' := mm M f g) (ps := [ob (mm M f g) (ad 10 0) 12, (Value.int (f (ad 10 0) 19)) = .int (nI wk)]) rfl ⟨hM.1, congrArg Value.int h19, trivial⟩ ?_
  refine go_callV rfl rfl rfl (by omega) rfl (by decide) (by decide) hM.1 ?_
  refine s_Mo_inForce (by omega) hM h18 nb3 (fun b hb hp hx => ⟨ne_i, ?_⟩) (fun hn => ⟨ne_i, ?_⟩)
  · -- ('i', 'nI b')
    show Go d 209 0 0 96 [.ref (ad 10 0), u1, u2, u3, .int (nI c), u5, u6, u7] [.int (nI b)] (mm M f g) R
    refine go_blk 3 [] (pc' := 101) (vs' := [.ref (ad 10 0), u1, u2, u3, .int (nI c), .int (nI b), u6, u7]) (st' := [.int (-1), .int (nI b)]) (M' := mm M f g) (ps := []) rfl trivial ?_
    refine go_icmp rfl (fun (z : (nI b) = (-1)) => absurd z (show ¬ ((nI b) = (-1)) from (nI_m1 (by omega)))) (fun _ => ?_)
    refine go_blk 4 [some (.ref (ad 9 5))] (pc' := 111) (vs' := [.ref (ad 10 0), u1, u2, u3, .int (nI c), .int (nI b), u6, u7]) (st' := [.int (nI c), .ref (ad 10 0), .ref (ad 9 5)]) (M' := mm M f g) (ps := [ob (mm M f g) (ad 10 0) 12, mR (mm M f g) (ad 10 0) 5 = some (ad 9 5), va_rf (some (ad 9 5)) = .ref (ad 9 5)]) rfl ⟨hM.1, (hM.r 5 13 364), rfl, trivial⟩ ?_
    refine go_callV rfl rfl rfl (by omega) rfl (by decide) (by decide) hM.1 ?_
    show Go (d - 1) 207 0 0 0 [.ref (ad 10 0), .int (nI c)] [] (mm M f g) _
    refine go_blk 6 [some (.int (nI wk))] (pc' := 9) (vs' := [.ref (ad 10 0), .int (nI c)]) (st' := [.int ((7 * (nI wk)) + (nI c))]) (M' := mm M f g) (ps := [ob (mm M f g) (ad 10 0) 12, (Value.int (f (ad 10 0) 19)) = .int (nI wk)]) rfl ⟨hM.1, congrArg Value.int h19, trivial⟩ ?_
    refine go_iret rfl rfl ?_
    refine ⟨ne_i, ?_⟩
    show Go d 209 0 0 114 [.ref (ad 10 0), u1, u2, u3, .int (nI c), .int (nI b), u6, u7] [.int ((7 * (nI wk)) + (nI c)), .ref (ad 9 5)] (mm M f g) R
    refine go_blk 1 [some (.int (f (ad 9 5) (7 * wk + c)))] (pc' := 115) (vs' := [.ref (ad 10 0), u1, u2, u3, .int (nI c), .int (nI b), u6, u7]) (st' := [.int (f (ad 9 5) (7 * wk + c))]) (M' := mm M f g) (ps := [ob (mm M f g) (ad 9 5) 13, 13 = 13 ∨ 13 = 14, vp_in ((7 * (nI wk)) + (nI c)) (mN (mm M f g) (ad 9 5)), (Value.int (f (ad 9 5) (((7 * (nI wk)) + (nI c)).toNatClampNeg))) = .int (f (ad 9 5) (7 * wk + c))]) rfl ⟨(hM.o 5 13 364), (by decide), (vp_eq (eq_add (eq_mul (show (7 : Int32) = nI 7 from rfl) rfl) rfl) (vpi (hM.n 5 13 364) (by omega))), congrArg Value.int ((congrArg (fun z => f (ad 9 5) z) (cl_of (eq_add (eq_mul (show (7 : Int32) = nI 7 from rfl) rfl) rfl) (by omega)))), trivial⟩ ?_
    refine go_if rfl (fun (c21 : (f (ad 9 5) (7 * wk + c)) = 0) => ?_) (fun (c21 : ¬ ((f (ad 9 5) (7 * wk + c)) = 0)) => ?_)
    · -- (f (ad 9 5) (7 * wk + c)) = 0
      have e : (cmO (fun i k => f (ad 9 i) k) nb wk c) = some b := cmO_is hu hb (cmP_of.mpr ⟨hp.1, hp.2.1, hp.2.2, c21⟩)
      rw [e] at hk
      exact hk
    · -- ¬ ((f (ad 9 5) (7 * wk + c)) = 0)
      refine go_blk 2 [] (pc' := 121) (vs' := [.ref (ad 10 0), u1, u2, u3, .int (nI c), .int (-1), u6, u7]) (st' := []) (M' := mm M f g) (ps := []) rfl trivial ?_
      have e : (cmO (fun i k => f (ad 9 i) k) nb wk c) = none := List.find?_eq_none.mpr (fun x _ z => c21 (cmP_of.mp z).2.2.2)
      rw [e] at hk
      exact hk
  · -- ('i', '(-1)')
    show Go d 209 0 0 96 [.ref (ad 10 0), u1, u2, u3, .int (nI c), u5, u6, u7] [.int (-1)] (mm M f g) R
    refine go_blk 3 [] (pc' := 101) (vs' := [.ref (ad 10 0), u1, u2, u3, .int (nI c), .int (-1), u6, u7]) (st' := [.int (-1), .int (-1)]) (M' := mm M f g) (ps := []) rfl trivial ?_
    refine go_icmp rfl (fun _ => ?_) (fun (z : ¬ (((-1) : Int32) = (-1))) => absurd (show ((-1) : Int32) = (-1) from (by decide)) z)
    have e : (cmO (fun i k => f (ad 9 i) k) nb wk c) = none := List.find?_eq_none.mpr (fun x hx z => hn x (List.mem_range.mp hx) ⟨(cmP_of.mp z).1, (cmP_of.mp z).2.1, (cmP_of.mp z).2.2.1⟩)
    rw [e] at hk
    exact hk

set_option maxHeartbeats 4000000 in
set_option maxRecDepth 100000 in
theorem mo_pB {d : Nat} {M : Mem} {f : Nat → Nat → Int32} {g : Nat → Nat → Int64} {ad : Nat → Nat → Nat} {R : Option Value → Mem → Prop} {nb wk c : Nat} {o : Option Nat} {u1 u2 u3 u5 u6 u7 : Value} (hd : 1 ≤ d) (hM : Mx M ad) (h18 : f (ad 10 0) 18 = nI nb) (nb3 : nb ≤ 60) (h19 : f (ad 10 0) 19 = nI wk) (hwk : wk < 52) (h0 : wk = 0 → o = none) (hs : ∀ b, o = some b → b < nb ∧ f (ad 9 16) b = 1 ∧ f (ad 9 6) b = nI c ∧ f (ad 9 7) b + 1 = nI wk) (hn : o = none → ∀ b, b < nb → ¬ f (ad 9 16) b = 0 → f (ad 9 6) b = nI c → ¬ f (ad 9 7) b + 1 = nI wk) (hu : ∀ a b, a < nb → b < nb → ¬ f (ad 9 16) a = 0 → ¬ f (ad 9 16) b = 0 → f (ad 9 6) a = f (ad 9 6) b → f (ad 9 7) a = f (ad 9 7) b → a = b) (hk : Go d 209 0 0 146 [.ref (ad 10 0), u1, u2, u3, .int (nI c), u5, .int (qv o), u7] [] (mm M f g) R) : Go d 209 0 0 121 [.ref (ad 10 0), u1, u2, u3, .int (nI c), u5, u6, u7] [] (mm M f g) R := by
  have e1 : ∀ x : Int32, ∀ w : Nat, x + 1 = nI (w + 1) → x = nI w := fun x w z => by
    have y : x + 1 - 1 = nI (w + 1) - 1 := by rw [z]
    rw [nI_s1, Int32.add_sub_cancel] at y
    exact y
  rcases wk with _ | w
  · rw [h0 rfl] at hk
    show Go d 209 0 0 121 [.ref (ad 10 0), u1, u2, u3, .int (nI c), u5, u6, u7] [] (mm M f g) R
    refine go_blk 2 [some (.int (nI 0))] (pc' := 125) (vs' := [.ref (ad 10 0), u1, u2, u3, .int (nI c), u5, u6, u7]) (st' := [.int (nI 0)]) (M' := mm M f g) (ps := [ob (mm M f g) (ad 10 0) 12, (Value.int (f (ad 10 0) 19)) = .int (nI 0)]) rfl ⟨hM.1, congrArg Value.int h19, trivial⟩ ?_
    refine go_if rfl (fun (z : ¬ (nI 0) = 0) => absurd z (show ¬ (¬ (nI 0) = 0) from (fun z => z rfl))) (fun _ => ?_)
    refine go_blk 3 [] (pc' := 146) (vs' := [.ref (ad 10 0), u1, u2, u3, .int (nI c), u5, .int (-1), u7]) (st' := []) (M' := mm M f g) (ps := []) rfl trivial ?_
    exact hk
  · cases o with
    | none =>
      show Go d 209 0 0 121 [.ref (ad 10 0), u1, u2, u3, .int (nI c), u5, u6, u7] [] (mm M f g) R
      refine go_blk 2 [some (.int (nI (w + 1)))] (pc' := 125) (vs' := [.ref (ad 10 0), u1, u2, u3, .int (nI c), u5, u6, u7]) (st' := [.int (nI (w + 1))]) (M' := mm M f g) (ps := [ob (mm M f g) (ad 10 0) 12, (Value.int (f (ad 10 0) 19)) = .int (nI (w + 1))]) rfl ⟨hM.1, congrArg Value.int h19, trivial⟩ ?_
      refine go_if rfl (fun _ => ?_) (fun (z : ¬ (¬ (nI (w + 1)) = 0)) => absurd (show ¬ (nI (w + 1)) = 0 from (nI_ne0 (n := w + 1) (by omega) (by omega))) z)
      refine go_blk 6 [some (.int (nI (w + 1)))] (pc' := 141) (vs' := [.ref (ad 10 0), u1, u2, u3, .int (nI c), u5, u6, u7]) (st' := [.int ((nI (w + 1)) - 1), .int (nI c), .ref (ad 10 0)]) (M' := mm M f g) (ps := [ob (mm M f g) (ad 10 0) 12, (Value.int (f (ad 10 0) 19)) = .int (nI (w + 1))]) rfl ⟨hM.1, congrArg Value.int h19, trivial⟩ ?_
      rw [nI_s1]
      refine go_callV rfl rfl rfl (by omega) rfl (by decide) (by decide) hM.1 ?_
      refine s_Mo_stayN (by omega) hM h18 nb3 (fun a ha z1 z2 z3 => hn rfl a ha z1 z2 (by rw [z3]; exact nI_add w 1)) ⟨ne_i, ?_⟩
      show Go d 209 0 0 144 [.ref (ad 10 0), u1, u2, u3, .int (nI c), u5, u6, u7] [.int (-1)] (mm M f g) R
      refine go_blk 1 [] (pc' := 146) (vs' := [.ref (ad 10 0), u1, u2, u3, .int (nI c), u5, .int (-1), u7]) (st' := []) (M' := mm M f g) (ps := []) rfl trivial ?_
      exact hk
    | some b =>
      obtain ⟨b1, b2, b3, b4⟩ := hs b rfl
      show Go d 209 0 0 121 [.ref (ad 10 0), u1, u2, u3, .int (nI c), u5, u6, u7] [] (mm M f g) R
      refine go_blk 2 [some (.int (nI (w + 1)))] (pc' := 125) (vs' := [.ref (ad 10 0), u1, u2, u3, .int (nI c), u5, u6, u7]) (st' := [.int (nI (w + 1))]) (M' := mm M f g) (ps := [ob (mm M f g) (ad 10 0) 12, (Value.int (f (ad 10 0) 19)) = .int (nI (w + 1))]) rfl ⟨hM.1, congrArg Value.int h19, trivial⟩ ?_
      refine go_if rfl (fun _ => ?_) (fun (z : ¬ (¬ (nI (w + 1)) = 0)) => absurd (show ¬ (nI (w + 1)) = 0 from (nI_ne0 (n := w + 1) (by omega) (by omega))) z)
      refine go_blk 6 [some (.int (nI (w + 1)))] (pc' := 141) (vs' := [.ref (ad 10 0), u1, u2, u3, .int (nI c), u5, u6, u7]) (st' := [.int ((nI (w + 1)) - 1), .int (nI c), .ref (ad 10 0)]) (M' := mm M f g) (ps := [ob (mm M f g) (ad 10 0) 12, (Value.int (f (ad 10 0) 19)) = .int (nI (w + 1))]) rfl ⟨hM.1, congrArg Value.int h19, trivial⟩ ?_
      rw [nI_s1]
      refine go_callV rfl rfl rfl (by omega) rfl (by decide) (by decide) hM.1 ?_
      refine s_Mo_stayY (by omega) hM h18 nb3 b1 ⟨b2, b3, e1 _ _ b4⟩ (fun a ha z1 z2 z3 => hu a b ha b1 z1 (by rw [b2]; decide) (z2.trans b3.symm) (z3.trans (e1 _ _ b4).symm)) ⟨ne_i, ?_⟩
      show Go d 209 0 0 144 [.ref (ad 10 0), u1, u2, u3, .int (nI c), u5, u6, u7] [.int (nI b)] (mm M f g) R
      refine go_blk 1 [] (pc' := 146) (vs' := [.ref (ad 10 0), u1, u2, u3, .int (nI c), u5, .int (nI b), u7]) (st' := []) (M' := mm M f g) (ps := []) rfl trivial ?_
      exact hk

