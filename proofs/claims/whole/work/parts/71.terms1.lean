/-! call: terms, the model and both -/
/-- the tape's bytes copied to the terms' -/
def Cp (ad : Nat → Nat → Nat) (nx : Nat) (f F : Nat → Nat → Int32) (k : Nat) : Prop := (∀ i, i < k → F (ad 9 76) (120 * nx + i) = f (ad 9 75) i) ∧ ∀ b q, ¬ (b = ad 9 76 ∧ 120 * nx ≤ q ∧ q < 120 * nx + k) → F b q = f b q

set_option maxRecDepth 100000 in
theorem lp_Mo_terms {d : Nat} {M : Mem} {f : Nat → Nat → Int32} {g : Nat → Nat → Int64} {ad : Nat → Nat → Nat} {R : Option Value → Mem → Prop} {nx n : Nat} {x : Int32} (hM : Mx M ad) (hi : Inj ad) (hnx : nx < 20) (hn : n ≤ 120) (h81 : f (ad 10 0) 81 = nI nx) (h80 : f (ad 10 0) 80 = nI n) (hb : ∀ k, k < n → (f (ad 9 75) k).toInt8.toInt32 = f (ad 9 75) k) (hx : ∀ F, Cp ad nx f F n → Go d 254 0 0 93 [.ref (ad 10 0), .int x, .int (nI n)] [] (mm M F g) R) : ∀ (m k : Nat) (F : Nat → Nat → Int32), k + m = n → Cp ad nx f F k → Go d 254 0 0 59 [.ref (ad 10 0), .int x, .int (nI k)] [] (mm M F g) R := by
  intro m
  induction m with
  | zero =>
    intro k F hk hC
    obtain rfl : k = n := by omega
    have e80 : F (ad 10 0) 80 = nI k := (hC.2 _ _ (fun z => absurd (hi _ _ _ _ z.1).1 (by decide))).trans h80
    show Go d 254 0 0 59 [.ref (ad 10 0), .int x, .int (nI k)] [] (mm M F g) R
    refine go_blk 3 [some (.int (nI k))] (pc' := 64) (vs' := [.ref (ad 10 0), .int x, .int (nI k)]) (st' := [.int (nI k), .int (nI k)]) (M' := mm M F g) (ps := [ob (mm M F g) (ad 10 0) 12, (Value.int (F (ad 10 0) 80)) = .int (nI k)]) rfl ⟨hM.1, congrArg Value.int e80, trivial⟩ ?_
    refine go_icmp rfl (fun _ => ?_) (fun (z : ¬ (nI k ≤ (nI k))) => absurd (show nI k ≤ (nI k) from Int32.le_refl _) z)
    exact hx F hC
  | succ m ih =>
    intro k F hk hC
    have e80 : F (ad 10 0) 80 = nI n := (hC.2 _ _ (fun z => absurd (hi _ _ _ _ z.1).1 (by decide))).trans h80
    have e81 : F (ad 10 0) 81 = nI nx := (hC.2 _ _ (fun z => absurd (hi _ _ _ _ z.1).1 (by decide))).trans h81
    have e75 : ∀ q, F (ad 9 75) q = f (ad 9 75) q := fun q => hC.2 _ _ (fun z => absurd (hi _ _ _ _ z.1).2 (by decide))
    show Go d 254 0 0 59 [.ref (ad 10 0), .int x, .int (nI k)] [] (mm M F g) R
    refine go_blk 3 [some (.int (nI n))] (pc' := 64) (vs' := [.ref (ad 10 0), .int x, .int (nI k)]) (st' := [.int (nI n), .int (nI k)]) (M' := mm M F g) (ps := [ob (mm M F g) (ad 10 0) 12, (Value.int (F (ad 10 0) 80)) = .int (nI n)]) rfl ⟨hM.1, congrArg Value.int e80, trivial⟩ ?_
    refine go_icmp rfl (fun (z : nI n ≤ (nI k)) => absurd z (show ¬ (nI n ≤ (nI k)) from (Int32.not_le.mpr ((nI_lts (a := k) (b := n) (by omega) (by omega)).mpr (by omega))))) (fun _ => ?_)
    refine go_blk 15 [some (.ref (ad 9 76)), some (.int (nI nx)), some (.ref (ad 9 75)), some (.int (f (ad 9 75) k))] (pc' := 59) (vs' := [.ref (ad 10 0), .int x, .int ((nI k) + 1)]) (st' := []) (M' := mm M (up2 F (ad 9 76) (((120 * (nI nx)) + (nI k)).toNatClampNeg) (vp_nar .byte (f (ad 9 75) k))) g) (ps := [ob (mm M F g) (ad 10 0) 12, mR (mm M F g) (ad 10 0) 76 = some (ad 9 76), va_rf (some (ad 9 76)) = .ref (ad 9 76), ob (mm M F g) (ad 10 0) 12, (Value.int (F (ad 10 0) 81)) = .int (nI nx), ob (mm M F g) (ad 10 0) 12, mR (mm M F g) (ad 10 0) 75 = some (ad 9 75), va_rf (some (ad 9 75)) = .ref (ad 9 75), ob (mm M F g) (ad 9 75) 14, 14 = 13 ∨ 14 = 14, vp_in (nI k) (mN (mm M F g) (ad 9 75)), (Value.int (F (ad 9 75) ((nI k).toNatClampNeg))) = .int (f (ad 9 75) k), ob (mm M F g) (ad 9 76) 14, vp_in ((120 * (nI nx)) + (nI k)) (mN (mm M F g) (ad 9 76))]) rfl ⟨hM.1, (hM.r 76 14 2400), rfl, hM.1, congrArg Value.int e81, hM.1, (hM.r 75 14 120), rfl, (hM.o 75 14 120), (by decide), (vpi (hM.n 75 14 120) (by omega)), congrArg Value.int ((congrArg (fun z => F (ad 9 75) z) (nI_clamp (by omega))).trans (e75 k)), (hM.o 76 14 2400), (vp_eq (eq_add (eq_mul (show (120 : Int32) = nI 120 from rfl) rfl) rfl) (vpi (hM.n 76 14 2400) (by omega))), trivial⟩ ?_
    rw [cl_of (x := (120 * nx + k)) (eq_add (eq_mul (show (120 : Int32) = nI 120 from rfl) rfl) rfl) (by omega)]
    rw [show nI k + 1 = nI (k + 1) from nI_add k 1, show vp_nar .byte (f (ad 9 75) k) = f (ad 9 75) k from hb k (by omega)]
    refine ih (k + 1) _ (by omega) ⟨fun i hik => ?_, fun b q hz => ?_⟩
    · by_cases c : i = k
      · subst c; exact up2_s _ _ _ _
      · rw [up2_n _ _ (fun z => c (by omega))]; exact hC.1 i (by omega)
    · rw [up2_n _ _ (fun z => hz ⟨z.1, by omega, by omega⟩)]; exact hC.2 b q (fun z => hz ⟨z.1, by omega, by omega⟩)

def TM (ad : Nat → Nat → Nat) (nx n : Nat) (x y : Int32) (f F : Nat → Nat → Int32) : Prop := (F (ad 10 0) 81 = nI (nx + 1) ∧ F (ad 10 0) 80 = 0 ∧ F (ad 9 77) nx = nI n ∧ F (ad 9 78) nx = x ∧ F (ad 9 79) nx = y ∧ ∀ i, i < n → F (ad 9 76) (120 * nx + i) = f (ad 9 75) i) ∧ ∀ b q, ¬ (b = ad 10 0 ∧ (q = 0 ∨ q = 80 ∨ q = 81 ∨ (83 ≤ q ∧ q ≤ 89))) → ¬ (b = ad 9 76 ∧ 120 * nx ≤ q) → ¬ ((b = ad 9 77 ∨ b = ad 9 78 ∨ b = ad 9 79) ∧ q = nx) → F b q = f b q

set_option maxRecDepth 100000 in
theorem s_Mo_terms {d : Nat} {M : Mem} {f : Nat → Nat → Int32} {g : Nat → Nat → Int64} {ad : Nat → Nat → Nat} {R : Option Value → Mem → Prop} {nx n wk : Nat} {x : Int32} {t : Nat → Int32} (hd : 48 ≤ d) (hM : Mx M ad) (hi : Inj ad) (h81 : f (ad 10 0) 81 = nI nx) (hnx : nx ≤ 20) (h80 : f (ad 10 0) 80 = nI n) (hn : n ≤ 120) (h19 : f (ad 10 0) 19 = nI wk) (hwk : wk ≤ 52) (hb : ∀ k, k < n → bts (t k) (f (ad 9 75) k)) (h0 : ¬ (flt t 0 n (0, 0, 0, true) = none ∧ (∃ fr, fr ≤ 51 ∧ x = nI fr) ∧ nx < 20 ∧ wk < 52) → ∀ f' g', GT ad (up2 f (ad 10 0) 0 0) f' → GK ad g g' → R (some (.int (-1))) (mm (sR M (ad 10 0) 82 (some (ad 9 75))) f' g')) (h1 : (flt t 0 n (0, 0, 0, true) = none ∧ (∃ fr, fr ≤ 51 ∧ x = nI fr) ∧ nx < 20 ∧ wk < 52) → ∀ f' g', TM ad nx n x (nI wk) f f' → GK ad g g' → R (some (.int (nI nx))) (mm (sR M (ad 10 0) 82 (some (ad 9 75))) f' g')) : Call d 254 [.ref (ad 10 0), .int x] (mm M f g) R := by
  show Go d 254 0 0 0 [.ref (ad 10 0), .int x, .retAddr 0] [] (mm M f g) R
  have k75 : ∀ k, (up2 f (ad 10 0) 0 0) (ad 9 75) k = f (ad 9 75) k := fun k => up2_n _ _ (fun z => absurd (hi _ _ _ _ z.1).1 (by decide))
  refine go_blk 10 [some (.ref (ad 9 75)), some (.int (nI n))] (pc' := 16) (vs' := [.ref (ad 10 0), .int x, .retAddr 0]) (st' := [.int 0, .int (nI n), .int 0, .ref (ad 9 75), .ref (ad 10 0)]) (M' := mm M (up2 f (ad 10 0) 0 0) g) (ps := [ob (mm M f g) (ad 10 0) 12, ob (mm M (up2 f (ad 10 0) 0 0) g) (ad 10 0) 12, mR (mm M (up2 f (ad 10 0) 0 0) g) (ad 10 0) 75 = some (ad 9 75), va_rf (some (ad 9 75)) = .ref (ad 9 75), ob (mm M (up2 f (ad 10 0) 0 0) g) (ad 10 0) 12, Value.int ((up2 f (ad 10 0) 0 0) (ad 10 0) 80) = .int (nI n)]) rfl ⟨hM.1, hM.1, hM.r 75 14 120, rfl, hM.1, congrArg Value.int ((up2_n _ _ (fun z => absurd z.2 (by decide))).trans h80), trivial⟩ ?_
  refine go_callV rfl rfl rfl (by omega) rfl (by decide) (by decide) hM.1 ?_
  refine s_Mo_goThrough (fr := 0) (j := 0) (t := t) (lv := lvM (up2 f (ad 10 0) 0 0) ad 0) (by omega) hM hi (Or.inl rfl) (hM.o 75 14 120) (by rw [hM.n 75 14 120]; omega) hn (by omega) (by omega) (fun k hk => ⟨by rw [Nat.zero_add, k75]; exact hb k hk, bts_lt (hb k hk)⟩) (fun _ _ => rfl) (fun e f2 g2 hz he hg hgj hf => ⟨ne_v, ?_⟩) (fun o f2 g2 hz hg hgj hf hpd => ⟨ne_v, ?_⟩)
  · have hfl := thr_fl.1 e hz
    have hMs : Mx (sR M (ad 10 0) 82 (some (ad 9 75))) ad := hM.s82
    have h2 : h0 = h0 := rfl
    obtain ⟨M1, hM1⟩ : ∃ M1, (sR M (ad 10 0) 82 (some (ad 9 75))) = M1 := ⟨_, rfl⟩
    have h0' := h0
    have h1' := h1
    rw [hM1] at hMs h0' h1'
    skip
    have q81 : f2 (ad 10 0) 81 = nI nx := (hg _ _ (by omega)).trans ((up2_n _ _ (by omega)).trans h81)
    have q80 : f2 (ad 10 0) 80 = nI n := (hg _ _ (by omega)).trans ((up2_n _ _ (by omega)).trans h80)
    have q19 : f2 (ad 10 0) 19 = nI wk := (hg _ _ (by omega)).trans ((up2_n _ _ (by omega)).trans h19)
    show Go d 254 0 0 19 [.ref (ad 10 0), .int x, .retAddr 0] [] (mm (sR M (ad 10 0) 82 (some (ad 9 75))) f2 g2) R
    rw [hM1]
    clear hM1 h2
    show Go d 254 0 0 19 [.ref (ad 10 0), .int x, .retAddr 0] [] (mm M1 f2 g2) R
    refine go_blk 3 [some (.int (nI e))] (pc' := 24) (vs' := [.ref (ad 10 0), .int x, .retAddr 0]) (st' := [.int (-1), .int (nI e)]) (M' := mm M1 f2 g2) (ps := [ob (mm M1 f2 g2) (ad 10 0) 12, (Value.int (f2 (ad 10 0) 86)) = .int (nI e)]) rfl ⟨hMs.1, congrArg Value.int hf, trivial⟩ ?_
    refine go_icmp rfl (fun _ => ?_) (fun (z : ¬ (¬ (nI e) = (-1))) => absurd (show ¬ (nI e) = (-1) from (nI_m1 (n := e) (by omega))) z)
    refine go_blk 1 [] (pc' := 56) (vs' := [.ref (ad 10 0), .int x, .retAddr 0]) (st' := [.int (-1)]) (M' := mm M1 f2 g2) (ps := []) rfl trivial ?_
    refine go_iret rfl rfl ?_
    exact h0' (fun z => by rw [hfl] at z; cases z.1) f2 g2 hg hgj
  · have hfl := thr_fl.2 o hz
    have hMs : Mx (sR M (ad 10 0) 82 (some (ad 9 75))) ad := hM.s82
    have h2 : h0 = h0 := rfl
    obtain ⟨M1, hM1⟩ : ∃ M1, (sR M (ad 10 0) 82 (some (ad 9 75))) = M1 := ⟨_, rfl⟩
    have h0' := h0
    have h1' := h1
    rw [hM1] at hMs h0' h1'
    skip
    have q81 : f2 (ad 10 0) 81 = nI nx := (hg _ _ (by omega)).trans ((up2_n _ _ (by omega)).trans h81)
    have q80 : f2 (ad 10 0) 80 = nI n := (hg _ _ (by omega)).trans ((up2_n _ _ (by omega)).trans h80)
    have q19 : f2 (ad 10 0) 19 = nI wk := (hg _ _ (by omega)).trans ((up2_n _ _ (by omega)).trans h19)
    show Go d 254 0 0 19 [.ref (ad 10 0), .int x, .retAddr 0] [] (mm (sR M (ad 10 0) 82 (some (ad 9 75))) f2 g2) R
    rw [hM1]
    clear hM1 h2
    show Go d 254 0 0 19 [.ref (ad 10 0), .int x, .retAddr 0] [] (mm M1 f2 g2) R
    refine go_blk 3 [some (.int (-1))] (pc' := 24) (vs' := [.ref (ad 10 0), .int x, .retAddr 0]) (st' := [.int (-1), .int (-1)]) (M' := mm M1 f2 g2) (ps := [ob (mm M1 f2 g2) (ad 10 0) 12, (Value.int (f2 (ad 10 0) 86)) = .int (-1)]) rfl ⟨hMs.1, congrArg Value.int hf, trivial⟩ ?_
    refine go_icmp rfl (fun (z : ¬ ((-1) : Int32) = (-1)) => absurd z (show ¬ (¬ ((-1) : Int32) = (-1)) from (by decide))) (fun _ => ?_)
    refine go_blk 3 [] (pc' := 31) (vs' := [.ref (ad 10 0), .int x, .retAddr 0]) (st' := [.int 51, .int 0, .int x]) (M' := mm M1 f2 g2) (ps := []) rfl trivial ?_
    refine go_callS rfl (by decide) rfl rfl (by omega) rfl (by decide) (by decide) ?_
    refine s_Mo_isInK 0 51 (by decide) (by decide) (fun fr hl1 hl2 hxe => ⟨ne_i, ?_⟩) (fun hno => ⟨ne_i, ?_⟩)
    · -- ('i', '1')
      show Go d 254 0 0 34 [.ref (ad 10 0), .int x, .retAddr 0] [.int 1] (mm M1 f2 g2) R
      refine go_if rfl (fun (z : (1 : Int32) = 0) => absurd z (show ¬ ((1 : Int32) = 0) from (by decide))) (fun _ => ?_)
      refine go_blk 3 [some (.int (nI nx))] (pc' := 43) (vs' := [.ref (ad 10 0), .int x, .retAddr 0]) (st' := [.int 20, .int (nI nx)]) (M' := mm M1 f2 g2) (ps := [ob (mm M1 f2 g2) (ad 10 0) 12, (Value.int (f2 (ad 10 0) 81)) = .int (nI nx)]) rfl ⟨hMs.1, congrArg Value.int q81, trivial⟩ ?_
      refine go_icmp rfl (fun (c2 : (nI nx) = 20) => ?_) (fun (c2 : ¬ ((nI nx) = 20)) => ?_)
      · -- (nI nx) = 20
        have nc2 : nx = 20 := (nI_eqs (a := nx) (b := 20) (by omega) (by omega)).mp c2
        refine go_blk 1 [] (pc' := 56) (vs' := [.ref (ad 10 0), .int x, .retAddr 0]) (st' := [.int (-1)]) (M' := mm M1 f2 g2) (ps := []) rfl trivial ?_
        refine go_iret rfl rfl ?_
        exact h0' (fun z => by have y := (nI_eqs (a := nx) (b := 20) (by omega) (by decide)).mp c2; have := z.2.2.1; omega) f2 g2 hg hgj
      · -- ¬ ((nI nx) = 20)
        have nc2 : ¬ nx = 20 := fun q => c2 ((nI_eqs (a := nx) (b := 20) (by omega) (by omega)).mpr q)
        refine go_blk 3 [some (.int (nI wk))] (pc' := 52) (vs' := [.ref (ad 10 0), .int x, .retAddr 0]) (st' := [.int 52, .int (nI wk)]) (M' := mm M1 f2 g2) (ps := [ob (mm M1 f2 g2) (ad 10 0) 12, (Value.int (f2 (ad 10 0) 19)) = .int (nI wk)]) rfl ⟨hMs.1, congrArg Value.int q19, trivial⟩ ?_
        refine go_icmp rfl (fun (c3 : ¬ (nI wk) = 52) => ?_) (fun (c3 : ¬ (¬ (nI wk) = 52)) => ?_)
        · -- ¬ (nI wk) = 52
          have nc3 : ¬ wk = 52 := fun q => c3 ((nI_eqs (a := wk) (b := 52) (by omega) (by omega)).mpr q)
          refine go_blk 2 [] (pc' := 59) (vs' := [.ref (ad 10 0), .int x, .int 0]) (st' := []) (M' := mm M1 f2 g2) (ps := []) rfl trivial ?_
          have hn20 : nx < 20 := by have : ¬ nx = 20 := fun y => c2 (by rw [y]; rfl); omega
          have hw52 : wk < 52 := by have : ¬ wk = 52 := fun y => c3 (by rw [y]; rfl); omega
          have g75 : ∀ k, f2 (ad 9 75) k = f (ad 9 75) k := fun k => (hg _ _ (fun z => absurd (hi _ _ _ _ z.1).1 (by decide))).trans (k75 k)
          refine lp_Mo_terms (f := f2) (nx := nx) (n := n) hMs hi hn20 hn q81 q80 (fun k hk => by rw [g75]; exact (hb k hk).2.2) (fun F hC => ?_) n 0 f2 (by omega) ⟨fun i z => absurd z (Nat.not_lt_zero _), fun _ _ _ => rfl⟩
          have a80 : F (ad 10 0) 80 = nI n := (hC.2 _ _ (fun z => absurd (hi _ _ _ _ z.1).1 (by decide))).trans q80
          have a81 : F (ad 10 0) 81 = nI nx := (hC.2 _ _ (fun z => absurd (hi _ _ _ _ z.1).1 (by decide))).trans q81
          have a19 : F (ad 10 0) 19 = nI wk := (hC.2 _ _ (fun z => absurd (hi _ _ _ _ z.1).1 (by decide))).trans q19
          show Go d 254 0 0 93 [.ref (ad 10 0), .int x, .int (nI n)] [] (mm M1 F g2) R
          refine go_blk 33 [some (.ref (ad 9 77)), some (.int (nI nx)), some (.int (nI n)), some (.ref (ad 9 78)), some (.int (nI nx)), some (.ref (ad 9 79)), some (.int (nI nx)), some (.int (nI wk)), some (.int (nI nx)), some (.int ((nI nx) + 1))] (pc' := 150) (vs' := [.ref (ad 10 0), .int x, .int (nI n)]) (st' := [.int (((nI nx) + 1) - 1)]) (M' := mm M1 (up2 (up2 (up2 (up2 (up2 F (ad 9 77) ((nI nx).toNatClampNeg) (nI n)) (ad 9 78) ((nI nx).toNatClampNeg) x) (ad 9 79) ((nI nx).toNatClampNeg) (nI wk)) (ad 10 0) 81 ((nI nx) + 1)) (ad 10 0) 80 0) g2) (ps := [ob (mm M1 F g2) (ad 10 0) 12, mR (mm M1 F g2) (ad 10 0) 77 = some (ad 9 77), va_rf (some (ad 9 77)) = .ref (ad 9 77), ob (mm M1 F g2) (ad 10 0) 12, (Value.int (F (ad 10 0) 81)) = .int (nI nx), ob (mm M1 F g2) (ad 10 0) 12, (Value.int (F (ad 10 0) 80)) = .int (nI n), ob (mm M1 F g2) (ad 9 77) 15, vp_in (nI nx) (mN (mm M1 F g2) (ad 9 77)), ob (mm M1 (up2 F (ad 9 77) ((nI nx).toNatClampNeg) (nI n)) g2) (ad 10 0) 12, mR (mm M1 (up2 F (ad 9 77) ((nI nx).toNatClampNeg) (nI n)) g2) (ad 10 0) 78 = some (ad 9 78), va_rf (some (ad 9 78)) = .ref (ad 9 78), ob (mm M1 (up2 F (ad 9 77) ((nI nx).toNatClampNeg) (nI n)) g2) (ad 10 0) 12, (Value.int ((up2 F (ad 9 77) ((nI nx).toNatClampNeg) (nI n)) (ad 10 0) 81)) = .int (nI nx), ob (mm M1 (up2 F (ad 9 77) ((nI nx).toNatClampNeg) (nI n)) g2) (ad 9 78) 15, vp_in (nI nx) (mN (mm M1 (up2 F (ad 9 77) ((nI nx).toNatClampNeg) (nI n)) g2) (ad 9 78)), ob (mm M1 (up2 (up2 F (ad 9 77) ((nI nx).toNatClampNeg) (nI n)) (ad 9 78) ((nI nx).toNatClampNeg) x) g2) (ad 10 0) 12, mR (mm M1 (up2 (up2 F (ad 9 77) ((nI nx).toNatClampNeg) (nI n)) (ad 9 78) ((nI nx).toNatClampNeg) x) g2) (ad 10 0) 79 = some (ad 9 79), va_rf (some (ad 9 79)) = .ref (ad 9 79), ob (mm M1 (up2 (up2 F (ad 9 77) ((nI nx).toNatClampNeg) (nI n)) (ad 9 78) ((nI nx).toNatClampNeg) x) g2) (ad 10 0) 12, (Value.int ((up2 (up2 F (ad 9 77) ((nI nx).toNatClampNeg) (nI n)) (ad 9 78) ((nI nx).toNatClampNeg) x) (ad 10 0) 81)) = .int (nI nx), ob (mm M1 (up2 (up2 F (ad 9 77) ((nI nx).toNatClampNeg) (nI n)) (ad 9 78) ((nI nx).toNatClampNeg) x) g2) (ad 10 0) 12, (Value.int ((up2 (up2 F (ad 9 77) ((nI nx).toNatClampNeg) (nI n)) (ad 9 78) ((nI nx).toNatClampNeg) x) (ad 10 0) 19)) = .int (nI wk), ob (mm M1 (up2 (up2 F (ad 9 77) ((nI nx).toNatClampNeg) (nI n)) (ad 9 78) ((nI nx).toNatClampNeg) x) g2) (ad 9 79) 15, vp_in (nI nx) (mN (mm M1 (up2 (up2 F (ad 9 77) ((nI nx).toNatClampNeg) (nI n)) (ad 9 78) ((nI nx).toNatClampNeg) x) g2) (ad 9 79)), (.ref (ad 10 0) : Value).category = 1, ob (mm M1 (up2 (up2 (up2 F (ad 9 77) ((nI nx).toNatClampNeg) (nI n)) (ad 9 78) ((nI nx).toNatClampNeg) x) (ad 9 79) ((nI nx).toNatClampNeg) (nI wk)) g2) (ad 10 0) 12, (Value.int ((up2 (up2 (up2 F (ad 9 77) ((nI nx).toNatClampNeg) (nI n)) (ad 9 78) ((nI nx).toNatClampNeg) x) (ad 9 79) ((nI nx).toNatClampNeg) (nI wk)) (ad 10 0) 81)) = .int (nI nx), ob (mm M1 (up2 (up2 (up2 F (ad 9 77) ((nI nx).toNatClampNeg) (nI n)) (ad 9 78) ((nI nx).toNatClampNeg) x) (ad 9 79) ((nI nx).toNatClampNeg) (nI wk)) g2) (ad 10 0) 12, ob (mm M1 (up2 (up2 (up2 (up2 F (ad 9 77) ((nI nx).toNatClampNeg) (nI n)) (ad 9 78) ((nI nx).toNatClampNeg) x) (ad 9 79) ((nI nx).toNatClampNeg) (nI wk)) (ad 10 0) 81 ((nI nx) + 1)) g2) (ad 10 0) 12, ob (mm M1 (up2 (up2 (up2 (up2 (up2 F (ad 9 77) ((nI nx).toNatClampNeg) (nI n)) (ad 9 78) ((nI nx).toNatClampNeg) x) (ad 9 79) ((nI nx).toNatClampNeg) (nI wk)) (ad 10 0) 81 ((nI nx) + 1)) (ad 10 0) 80 0) g2) (ad 10 0) 12, (Value.int ((up2 (up2 (up2 (up2 (up2 F (ad 9 77) ((nI nx).toNatClampNeg) (nI n)) (ad 9 78) ((nI nx).toNatClampNeg) x) (ad 9 79) ((nI nx).toNatClampNeg) (nI wk)) (ad 10 0) 81 ((nI nx) + 1)) (ad 10 0) 80 0) (ad 10 0) 81)) = .int ((nI nx) + 1)]) rfl ⟨hMs.1, (hMs.r 77 15 20), rfl, hMs.1, congrArg Value.int a81, hMs.1, congrArg Value.int a80, (hMs.o 77 15 20), (vpi (hMs.n 77 15 20) (by omega)), hMs.1, (hMs.r 78 15 20), rfl, hMs.1, congrArg Value.int (((up2_n _ _ (fun z => absurd (hi _ _ _ _ z.1).1 (by decide))).trans (rfl)).trans a81), (hMs.o 78 15 20), (vpi (hMs.n 78 15 20) (by omega)), hMs.1, (hMs.r 79 15 20), rfl, hMs.1, congrArg Value.int (((up2_n _ _ (fun z => absurd (hi _ _ _ _ z.1).1 (by decide))).trans ((up2_n _ _ (fun z => absurd (hi _ _ _ _ z.1).1 (by decide))).trans (rfl))).trans a81), hMs.1, congrArg Value.int (((up2_n _ _ (fun z => absurd (hi _ _ _ _ z.1).1 (by decide))).trans ((up2_n _ _ (fun z => absurd (hi _ _ _ _ z.1).1 (by decide))).trans (rfl))).trans a19), (hMs.o 79 15 20), (vpi (hMs.n 79 15 20) (by omega)), rfl, hMs.1, congrArg Value.int (((up2_n _ _ (fun z => absurd (hi _ _ _ _ z.1).1 (by decide))).trans ((up2_n _ _ (fun z => absurd (hi _ _ _ _ z.1).1 (by decide))).trans ((up2_n _ _ (fun z => absurd (hi _ _ _ _ z.1).1 (by decide))).trans (rfl)))).trans a81), hMs.1, hMs.1, hMs.1, congrArg Value.int ((up2_n _ _ (fun z => absurd z.2 (by decide))).trans (up2_s _ _ _ _)), trivial⟩ ?_
          rw [nI_clamp (n := nx) (by omega)]
          refine go_iret rfl rfl ?_
          rw [show nI nx + 1 - 1 = nI nx from by rw [show nI nx + 1 = nI (nx + 1) from nI_add nx 1]; exact nI_pred nx]
          refine h1' ⟨hfl, ⟨fr, hl2, hxe⟩, hn20, hw52⟩ _ _ ⟨⟨((up2_n _ _ (fun z => absurd z.2 (by decide))).trans (up2_s _ _ _ _)).trans (nI_add nx 1), (up2_s _ _ _ _), ((up2_n _ _ (fun z => absurd (hi _ _ _ _ z.1).1 (by decide))).trans ((up2_n _ _ (fun z => absurd (hi _ _ _ _ z.1).1 (by decide))).trans ((up2_n _ _ (fun z => absurd (hi _ _ _ _ z.1).2 (by decide))).trans ((up2_n _ _ (fun z => absurd (hi _ _ _ _ z.1).2 (by decide))).trans (up2_s _ _ _ _))))), ((up2_n _ _ (fun z => absurd (hi _ _ _ _ z.1).1 (by decide))).trans ((up2_n _ _ (fun z => absurd (hi _ _ _ _ z.1).1 (by decide))).trans ((up2_n _ _ (fun z => absurd (hi _ _ _ _ z.1).2 (by decide))).trans (up2_s _ _ _ _)))), ((up2_n _ _ (fun z => absurd (hi _ _ _ _ z.1).1 (by decide))).trans ((up2_n _ _ (fun z => absurd (hi _ _ _ _ z.1).1 (by decide))).trans (up2_s _ _ _ _))), fun i hik => ?_⟩, fun b q z1 z2 z3 => ?_⟩ hgj
          · rw [up2_n _ _ (fun z => absurd (hi _ _ _ _ z.1).1 (by decide)), up2_n _ _ (fun z => absurd (hi _ _ _ _ z.1).1 (by decide)), up2_n _ _ (fun z => absurd (hi _ _ _ _ z.1).2 (by decide)), up2_n _ _ (fun z => absurd (hi _ _ _ _ z.1).2 (by decide)), up2_n _ _ (fun z => absurd (hi _ _ _ _ z.1).2 (by decide)), hC.1 i hik, g75]
          · rw [up2_n _ _ (fun z => z1 ⟨z.1, by omega⟩), up2_n _ _ (fun z => z1 ⟨z.1, by omega⟩), up2_n _ _ (fun z => z3 ⟨Or.inr (Or.inr z.1), z.2⟩), up2_n _ _ (fun z => z3 ⟨Or.inr (Or.inl z.1), z.2⟩), up2_n _ _ (fun z => z3 ⟨Or.inl z.1, z.2⟩), hC.2 b q (fun z => z2 ⟨z.1, z.2.1⟩), hg b q (fun z => z1 ⟨z.1, by omega⟩), up2_n _ _ (fun z => z1 ⟨z.1, by omega⟩)]
          
        · -- ¬ (¬ (nI wk) = 52)
          have nc3 : wk = 52 := (nI_eqs (a := wk) (b := 52) (by omega) (by omega)).mp (Classical.not_not.mp c3)
          refine go_blk 1 [] (pc' := 56) (vs' := [.ref (ad 10 0), .int x, .retAddr 0]) (st' := [.int (-1)]) (M' := mm M1 f2 g2) (ps := []) rfl trivial ?_
          refine go_iret rfl rfl ?_
          exact h0' (fun z => by have y := (nI_eqs (a := wk) (b := 52) (by omega) (by decide)).mp (Classical.not_not.mp c3); have := z.2.2.2; omega) f2 g2 hg hgj
    · -- ('i', '0')
      show Go d 254 0 0 34 [.ref (ad 10 0), .int x, .retAddr 0] [.int 0] (mm M1 f2 g2) R
      refine go_if rfl (fun _ => ?_) (fun (z : ¬ ((0 : Int32) = 0)) => absurd (show (0 : Int32) = 0 from (by decide)) z)
      refine go_blk 1 [] (pc' := 56) (vs' := [.ref (ad 10 0), .int x, .retAddr 0]) (st' := [.int (-1)]) (M' := mm M1 f2 g2) (ps := []) rfl trivial ?_
      refine go_iret rfl rfl ?_
      exact h0' (fun z => by obtain ⟨fr, q1, q2⟩ := z.2.1; exact hno ⟨fr, Nat.zero_le _, q1, q2⟩) f2 g2 hg hgj

