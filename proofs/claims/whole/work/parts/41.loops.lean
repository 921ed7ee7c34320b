/-! loops: sums and searches over the bookings -/
/-- a sum of ints -/
def smI (t : Nat → Int32) : Nat → Int32
  | 0 => 0
  | n + 1 => smI t n + t n
theorem smI_congr {t t' : Nat → Int32} : ∀ {n : Nat}, (∀ k, k < n → t k = t' k) → smI t n = smI t' n
  | 0, _ => rfl
  | n + 1, h => by rw [smI, smI, smI_congr (fun k hk => h k (by omega)), h n (by omega)]

set_option maxRecDepth 100000 in
theorem lp_CY_taken {d : Nat} {M : Mem} {f : Nat → Nat → Int32} {g : Nat → Nat → Int64} {ad : Nat → Nat → Nat} {R : Option Value → Mem → Prop} {x y : Int32} {nb : Nat} (hd : 2 ≤ d) (hF : Fx M ad) (hB : Bs M ad nb) (hn : f (ad 0 0) 3 = nI nb) (hl : nb ≤ 60) (hx : ∀ u : Value, Go d 125 0 0 79 [.ref (ad 0 0), .int x, .int y, .int (smI (fun b => if f (ad 2 b) 7 = 0 then 0 else if x ≤ f (ad 2 b) 1 ∧ f (ad 2 b) 1 ≤ y then f (ad 2 b) 5 else 0) nb), .int (nI nb), u] [] (mm M f g) R) : ∀ i, i ≤ nb → ∀ u : Value, Go d 125 0 0 26 [.ref (ad 0 0), .int x, .int y, .int (smI (fun b => if f (ad 2 b) 7 = 0 then 0 else if x ≤ f (ad 2 b) 1 ∧ f (ad 2 b) 1 ≤ y then f (ad 2 b) 5 else 0) i), .int (nI i), u] [] (mm M f g) R := by
  refine up_ind (P := fun i => ∀ u : Value, Go d 125 0 0 26 [.ref (ad 0 0), .int x, .int y, .int (smI (fun b => if f (ad 2 b) 7 = 0 then 0 else if x ≤ f (ad 2 b) 1 ∧ f (ad 2 b) 1 ≤ y then f (ad 2 b) 5 else 0) i), .int (nI i), u] [] (mm M f g) R) nb ?_ (fun i hi ih => ?_)
  ·
    intro u
    show Go d 125 0 0 26 [.ref (ad 0 0), .int x, .int y, .int (smI (fun b => if f (ad 2 b) 7 = 0 then 0 else if x ≤ f (ad 2 b) 1 ∧ f (ad 2 b) 1 ≤ y then f (ad 2 b) 5 else 0) nb), .int (nI nb), u] [] (mm M f g) R
    refine go_blk 3 [some (.int (nI nb))] (pc' := 32) (vs' := [.ref (ad 0 0), .int x, .int y, .int (smI (fun b => if f (ad 2 b) 7 = 0 then 0 else if x ≤ f (ad 2 b) 1 ∧ f (ad 2 b) 1 ≤ y then f (ad 2 b) 5 else 0) nb), .int (nI nb), u]) (st' := [.int (nI nb), .int (nI nb)]) (M' := mm M f g) (ps := [ob (mm M f g) (ad 0 0) 11, (Value.int (f (ad 0 0) 3)) = .int (nI nb)]) rfl ⟨(hF.o 0), congrArg Value.int hn, trivial⟩ ?_
    refine go_icmp rfl (fun _ => ?_) (fun (z : ¬ (nI nb ≤ (nI nb))) => absurd (show nI nb ≤ (nI nb) from Int32.le_refl _) z)
    exact hx u
  ·
    intro u
    show Go d 125 0 0 26 [.ref (ad 0 0), .int x, .int y, .int (smI (fun b => if f (ad 2 b) 7 = 0 then 0 else if x ≤ f (ad 2 b) 1 ∧ f (ad 2 b) 1 ≤ y then f (ad 2 b) 5 else 0) i), .int (nI i), u] [] (mm M f g) R
    refine go_blk 3 [some (.int (nI nb))] (pc' := 32) (vs' := [.ref (ad 0 0), .int x, .int y, .int (smI (fun b => if f (ad 2 b) 7 = 0 then 0 else if x ≤ f (ad 2 b) 1 ∧ f (ad 2 b) 1 ≤ y then f (ad 2 b) 5 else 0) i), .int (nI i), u]) (st' := [.int (nI nb), .int (nI i)]) (M' := mm M f g) (ps := [ob (mm M f g) (ad 0 0) 11, (Value.int (f (ad 0 0) 3)) = .int (nI nb)]) rfl ⟨(hF.o 0), congrArg Value.int hn, trivial⟩ ?_
    refine go_icmp rfl (fun (z : nI nb ≤ (nI i)) => absurd z (show ¬ (nI nb ≤ (nI i)) from (Int32.not_le.mpr ((nI_lts (by omega) (by omega)).mpr hi)))) (fun _ => ?_)
    refine go_blk 7 [some (.ref (ad 0 2)), some (.ref (ad 2 i))] (pc' := 49) (vs' := [.ref (ad 0 0), .int x, .int y, .int (smI (fun b => if f (ad 2 b) 7 = 0 then 0 else if x ≤ f (ad 2 b) 1 ∧ f (ad 2 b) 1 ≤ y then f (ad 2 b) 5 else 0) i), .int (nI i), .ref (ad 2 i)]) (st' := [.int (f (ad 2 i) 7)]) (M' := mm M f g) (ps := [ob (mm M f g) (ad 0 0) 11, mR (mm M f g) (ad 0 0) 2 = some (ad 0 2), va_rf (some (ad 0 2)) = .ref (ad 0 2), ob (mm M f g) (ad 0 2) 17, 17 ≤ 17 ∧ 17 < 22, vp_in (nI i) (mN (mm M f g) (ad 0 2)), mR (mm M f g) (ad 0 2) ((nI i).toNatClampNeg) = some (ad 2 i), va_rf (some (ad 2 i)) = .ref (ad 2 i), ob (mm M f g) (ad 2 i) 0]) rfl ⟨(hF.o 0), (hF.r 0 2 2), rfl, (hF.o 2), (by decide), (vpi (hF.n 2) (show _ < 60 by omega)), (cl_rf rfl (by omega) (hB i (by assumption)).1), rfl, (hB i (by assumption)).2, trivial⟩ ?_
    refine go_if rfl (fun (c1 : (f (ad 2 i) 7) = 0) => ?_) (fun (c1 : ¬ ((f (ad 2 i) 7) = 0)) => ?_)
    · -- (f (ad 2 i) 7) = 0
      refine go_blk 2 [] (pc' := 26) (vs' := [.ref (ad 0 0), .int x, .int y, .int (smI (fun b => if f (ad 2 b) 7 = 0 then 0 else if x ≤ f (ad 2 b) 1 ∧ f (ad 2 b) 1 ≤ y then f (ad 2 b) 5 else 0) i), .int ((nI i) + 1), .ref (ad 2 i)]) (st' := []) (M' := mm M f g) (ps := []) rfl trivial ?_
      have e1 : nI i + 1 = nI (i + 1) := nI_add i 1
      have e5 : (smI (fun b => if f (ad 2 b) 7 = 0 then 0 else if x ≤ f (ad 2 b) 1 ∧ f (ad 2 b) 1 ≤ y then f (ad 2 b) 5 else 0) i) = smI (fun b => if f (ad 2 b) 7 = 0 then 0 else if x ≤ f (ad 2 b) 1 ∧ f (ad 2 b) 1 ≤ y then f (ad 2 b) 5 else 0) (i + 1) := (by rw [smI]; clear ih hx; grind)
      rw [e1, e5]
      exact ih _
    · -- ¬ ((f (ad 2 i) 7) = 0)
      refine go_blk 4 [] (pc' := 59) (vs' := [.ref (ad 0 0), .int x, .int y, .int (smI (fun b => if f (ad 2 b) 7 = 0 then 0 else if x ≤ f (ad 2 b) 1 ∧ f (ad 2 b) 1 ≤ y then f (ad 2 b) 5 else 0) i), .int (nI i), .ref (ad 2 i)]) (st' := [.int y, .int x, .int (f (ad 2 i) 1)]) (M' := mm M f g) (ps := [ob (mm M f g) (ad 2 i) 0]) rfl ⟨(hB i (by assumption)).2, trivial⟩ ?_
      refine go_callS rfl (by decide) rfl rfl (by omega) rfl (by decide) (by decide) ?_
      refine s_CY_within (by omega) (fun c2 => ⟨ne_i, ?_⟩) (fun c2 => ⟨ne_i, ?_⟩)
      · -- 1
        show Go d 125 0 0 62 [.ref (ad 0 0), .int x, .int y, .int (smI (fun b => if f (ad 2 b) 7 = 0 then 0 else if x ≤ f (ad 2 b) 1 ∧ f (ad 2 b) 1 ≤ y then f (ad 2 b) 5 else 0) i), .int (nI i), .ref (ad 2 i)] [.int 1] (mm M f g) R
        refine go_if rfl (fun (z : (1 : Int32) = 0) => absurd z (show ¬ ((1 : Int32) = 0) from (by decide))) (fun _ => ?_)
        refine go_blk 7 [] (pc' := 26) (vs' := [.ref (ad 0 0), .int x, .int y, .int ((smI (fun b => if f (ad 2 b) 7 = 0 then 0 else if x ≤ f (ad 2 b) 1 ∧ f (ad 2 b) 1 ≤ y then f (ad 2 b) 5 else 0) i) + (f (ad 2 i) 5)), .int ((nI i) + 1), .ref (ad 2 i)]) (st' := []) (M' := mm M f g) (ps := [ob (mm M f g) (ad 2 i) 0]) rfl ⟨(hB i (by assumption)).2, trivial⟩ ?_
        have e1 : nI i + 1 = nI (i + 1) := nI_add i 1
        have e5 : ((smI (fun b => if f (ad 2 b) 7 = 0 then 0 else if x ≤ f (ad 2 b) 1 ∧ f (ad 2 b) 1 ≤ y then f (ad 2 b) 5 else 0) i) + (f (ad 2 i) 5)) = smI (fun b => if f (ad 2 b) 7 = 0 then 0 else if x ≤ f (ad 2 b) 1 ∧ f (ad 2 b) 1 ≤ y then f (ad 2 b) 5 else 0) (i + 1) := (by rw [smI]; clear ih hx; grind)
        rw [e1, e5]
        exact ih _
      · -- 0
        show Go d 125 0 0 62 [.ref (ad 0 0), .int x, .int y, .int (smI (fun b => if f (ad 2 b) 7 = 0 then 0 else if x ≤ f (ad 2 b) 1 ∧ f (ad 2 b) 1 ≤ y then f (ad 2 b) 5 else 0) i), .int (nI i), .ref (ad 2 i)] [.int 0] (mm M f g) R
        refine go_if rfl (fun _ => ?_) (fun (z : ¬ ((0 : Int32) = 0)) => absurd (show (0 : Int32) = 0 from (by decide)) z)
        refine go_blk 2 [] (pc' := 26) (vs' := [.ref (ad 0 0), .int x, .int y, .int (smI (fun b => if f (ad 2 b) 7 = 0 then 0 else if x ≤ f (ad 2 b) 1 ∧ f (ad 2 b) 1 ≤ y then f (ad 2 b) 5 else 0) i), .int ((nI i) + 1), .ref (ad 2 i)]) (st' := []) (M' := mm M f g) (ps := []) rfl trivial ?_
        have e1 : nI i + 1 = nI (i + 1) := nI_add i 1
        have e5 : (smI (fun b => if f (ad 2 b) 7 = 0 then 0 else if x ≤ f (ad 2 b) 1 ∧ f (ad 2 b) 1 ≤ y then f (ad 2 b) 5 else 0) i) = smI (fun b => if f (ad 2 b) 7 = 0 then 0 else if x ≤ f (ad 2 b) 1 ∧ f (ad 2 b) 1 ≤ y then f (ad 2 b) 5 else 0) (i + 1) := (by rw [smI]; clear ih hx; grind)
        rw [e1, e5]
        exact ih _

set_option maxRecDepth 100000 in
theorem lp_Mo_taken {d : Nat} {M : Mem} {f : Nat → Nat → Int32} {g : Nat → Nat → Int64} {ad : Nat → Nat → Nat} {R : Option Value → Mem → Prop} {x y : Int32} {nb : Nat} (hd : 1 ≤ d) (hM : Mx M ad) (hn : f (ad 10 0) 18 = nI nb) (hl : nb ≤ 60) (hx : Go d 203 0 0 86 [.ref (ad 10 0), .int x, .int y, .int (smI (fun b => if f (ad 9 16) b = 0 then 0 else if x ≤ f (ad 9 7) b ∧ f (ad 9 7) b ≤ y then f (ad 9 10) b else 0) nb), .int (nI nb)] [] (mm M f g) R) : ∀ i, i ≤ nb → Go d 203 0 0 32 [.ref (ad 10 0), .int x, .int y, .int (smI (fun b => if f (ad 9 16) b = 0 then 0 else if x ≤ f (ad 9 7) b ∧ f (ad 9 7) b ≤ y then f (ad 9 10) b else 0) i), .int (nI i)] [] (mm M f g) R := by
  refine up_ind (P := fun i => Go d 203 0 0 32 [.ref (ad 10 0), .int x, .int y, .int (smI (fun b => if f (ad 9 16) b = 0 then 0 else if x ≤ f (ad 9 7) b ∧ f (ad 9 7) b ≤ y then f (ad 9 10) b else 0) i), .int (nI i)] [] (mm M f g) R) nb ?_ (fun i hi ih => ?_)
  ·
    skip
    show Go d 203 0 0 32 [.ref (ad 10 0), .int x, .int y, .int (smI (fun b => if f (ad 9 16) b = 0 then 0 else if x ≤ f (ad 9 7) b ∧ f (ad 9 7) b ≤ y then f (ad 9 10) b else 0) nb), .int (nI nb)] [] (mm M f g) R
    refine go_blk 3 [some (.int (nI nb))] (pc' := 38) (vs' := [.ref (ad 10 0), .int x, .int y, .int (smI (fun b => if f (ad 9 16) b = 0 then 0 else if x ≤ f (ad 9 7) b ∧ f (ad 9 7) b ≤ y then f (ad 9 10) b else 0) nb), .int (nI nb)]) (st' := [.int (nI nb), .int (nI nb)]) (M' := mm M f g) (ps := [ob (mm M f g) (ad 10 0) 12, (Value.int (f (ad 10 0) 18)) = .int (nI nb)]) rfl ⟨hM.1, congrArg Value.int hn, trivial⟩ ?_
    refine go_icmp rfl (fun _ => ?_) (fun (z : ¬ (nI nb ≤ (nI nb))) => absurd (show nI nb ≤ (nI nb) from Int32.le_refl _) z)
    exact hx
  ·
    skip
    show Go d 203 0 0 32 [.ref (ad 10 0), .int x, .int y, .int (smI (fun b => if f (ad 9 16) b = 0 then 0 else if x ≤ f (ad 9 7) b ∧ f (ad 9 7) b ≤ y then f (ad 9 10) b else 0) i), .int (nI i)] [] (mm M f g) R
    refine go_blk 3 [some (.int (nI nb))] (pc' := 38) (vs' := [.ref (ad 10 0), .int x, .int y, .int (smI (fun b => if f (ad 9 16) b = 0 then 0 else if x ≤ f (ad 9 7) b ∧ f (ad 9 7) b ≤ y then f (ad 9 10) b else 0) i), .int (nI i)]) (st' := [.int (nI nb), .int (nI i)]) (M' := mm M f g) (ps := [ob (mm M f g) (ad 10 0) 12, (Value.int (f (ad 10 0) 18)) = .int (nI nb)]) rfl ⟨hM.1, congrArg Value.int hn, trivial⟩ ?_
    refine go_icmp rfl (fun (z : nI nb ≤ (nI i)) => absurd z (show ¬ (nI nb ≤ (nI i)) from (Int32.not_le.mpr ((nI_lts (by omega) (by omega)).mpr hi)))) (fun _ => ?_)
    refine go_blk 5 [some (.ref (ad 9 16)), some (.int (f (ad 9 16) i))] (pc' := 49) (vs' := [.ref (ad 10 0), .int x, .int y, .int (smI (fun b => if f (ad 9 16) b = 0 then 0 else if x ≤ f (ad 9 7) b ∧ f (ad 9 7) b ≤ y then f (ad 9 10) b else 0) i), .int (nI i)]) (st' := [.int (f (ad 9 16) i), .int (smI (fun b => if f (ad 9 16) b = 0 then 0 else if x ≤ f (ad 9 7) b ∧ f (ad 9 7) b ≤ y then f (ad 9 10) b else 0) i)]) (M' := mm M f g) (ps := [ob (mm M f g) (ad 10 0) 12, mR (mm M f g) (ad 10 0) 16 = some (ad 9 16), va_rf (some (ad 9 16)) = .ref (ad 9 16), ob (mm M f g) (ad 9 16) 13, 13 = 13 ∨ 13 = 14, vp_in (nI i) (mN (mm M f g) (ad 9 16)), (Value.int (f (ad 9 16) ((nI i).toNatClampNeg))) = .int (f (ad 9 16) i)]) rfl ⟨hM.1, (hM.r 16 13 60), rfl, (hM.o 16 13 60), (by decide), (vpi (hM.n 16 13 60) (by omega)), congrArg (fun z => Value.int (f (ad 9 16) z)) (nI_clamp (by omega)), trivial⟩ ?_
    refine go_if rfl (fun (c1 : (f (ad 9 16) i) = 0) => ?_) (fun (c1 : ¬ ((f (ad 9 16) i) = 0)) => ?_)
    · -- (f (ad 9 16) i) = 0
      refine go_blk 5 [] (pc' := 32) (vs' := [.ref (ad 10 0), .int x, .int y, .int ((smI (fun b => if f (ad 9 16) b = 0 then 0 else if x ≤ f (ad 9 7) b ∧ f (ad 9 7) b ≤ y then f (ad 9 10) b else 0) i) + 0), .int ((nI i) + 1)]) (st' := []) (M' := mm M f g) (ps := []) rfl trivial ?_
      have e1 : nI i + 1 = nI (i + 1) := nI_add i 1
      have e5 : ((smI (fun b => if f (ad 9 16) b = 0 then 0 else if x ≤ f (ad 9 7) b ∧ f (ad 9 7) b ≤ y then f (ad 9 10) b else 0) i) + 0) = smI (fun b => if f (ad 9 16) b = 0 then 0 else if x ≤ f (ad 9 7) b ∧ f (ad 9 7) b ≤ y then f (ad 9 10) b else 0) (i + 1) := (by rw [smI]; clear ih hx; grind)
      rw [e1, e5]
      exact ih
    · -- ¬ ((f (ad 9 16) i) = 0)
      refine go_blk 6 [some (.ref (ad 9 7)), some (.int (f (ad 9 7) i))] (pc' := 61) (vs' := [.ref (ad 10 0), .int x, .int y, .int (smI (fun b => if f (ad 9 16) b = 0 then 0 else if x ≤ f (ad 9 7) b ∧ f (ad 9 7) b ≤ y then f (ad 9 10) b else 0) i), .int (nI i)]) (st' := [.int y, .int x, .int (f (ad 9 7) i), .int (smI (fun b => if f (ad 9 16) b = 0 then 0 else if x ≤ f (ad 9 7) b ∧ f (ad 9 7) b ≤ y then f (ad 9 10) b else 0) i)]) (M' := mm M f g) (ps := [ob (mm M f g) (ad 10 0) 12, mR (mm M f g) (ad 10 0) 7 = some (ad 9 7), va_rf (some (ad 9 7)) = .ref (ad 9 7), ob (mm M f g) (ad 9 7) 15, vp_in (nI i) (mN (mm M f g) (ad 9 7)), (Value.int (f (ad 9 7) ((nI i).toNatClampNeg))) = .int (f (ad 9 7) i)]) rfl ⟨hM.1, (hM.r 7 15 60), rfl, (hM.o 7 15 60), (vpi (hM.n 7 15 60) (by omega)), congrArg (fun z => Value.int (f (ad 9 7) z)) (nI_clamp (by omega)), trivial⟩ ?_
      refine go_callS rfl (by decide) rfl rfl (by omega) rfl (by decide) (by decide) ?_
      refine s_Mo_isIn (by omega) (fun c2 => ⟨ne_i, ?_⟩) (fun c2 => ⟨ne_i, ?_⟩)
      · -- 1
        show Go d 203 0 0 64 [.ref (ad 10 0), .int x, .int y, .int (smI (fun b => if f (ad 9 16) b = 0 then 0 else if x ≤ f (ad 9 7) b ∧ f (ad 9 7) b ≤ y then f (ad 9 10) b else 0) i), .int (nI i)] [.int 1, .int (smI (fun b => if f (ad 9 16) b = 0 then 0 else if x ≤ f (ad 9 7) b ∧ f (ad 9 7) b ≤ y then f (ad 9 10) b else 0) i)] (mm M f g) R
        refine go_if rfl (fun (z : (1 : Int32) = 0) => absurd z (show ¬ ((1 : Int32) = 0) from (by decide))) (fun _ => ?_)
        refine go_blk 9 [some (.ref (ad 9 10)), some (.int (f (ad 9 10) i))] (pc' := 32) (vs' := [.ref (ad 10 0), .int x, .int y, .int ((smI (fun b => if f (ad 9 16) b = 0 then 0 else if x ≤ f (ad 9 7) b ∧ f (ad 9 7) b ≤ y then f (ad 9 10) b else 0) i) + (f (ad 9 10) i)), .int ((nI i) + 1)]) (st' := []) (M' := mm M f g) (ps := [ob (mm M f g) (ad 10 0) 12, mR (mm M f g) (ad 10 0) 10 = some (ad 9 10), va_rf (some (ad 9 10)) = .ref (ad 9 10), ob (mm M f g) (ad 9 10) 15, vp_in (nI i) (mN (mm M f g) (ad 9 10)), (Value.int (f (ad 9 10) ((nI i).toNatClampNeg))) = .int (f (ad 9 10) i)]) rfl ⟨hM.1, (hM.r 10 15 60), rfl, (hM.o 10 15 60), (vpi (hM.n 10 15 60) (by omega)), congrArg (fun z => Value.int (f (ad 9 10) z)) (nI_clamp (by omega)), trivial⟩ ?_
        have e1 : nI i + 1 = nI (i + 1) := nI_add i 1
        have e5 : ((smI (fun b => if f (ad 9 16) b = 0 then 0 else if x ≤ f (ad 9 7) b ∧ f (ad 9 7) b ≤ y then f (ad 9 10) b else 0) i) + (f (ad 9 10) i)) = smI (fun b => if f (ad 9 16) b = 0 then 0 else if x ≤ f (ad 9 7) b ∧ f (ad 9 7) b ≤ y then f (ad 9 10) b else 0) (i + 1) := (by rw [smI]; clear ih hx; grind)
        rw [e1, e5]
        exact ih
      · -- 0
        show Go d 203 0 0 64 [.ref (ad 10 0), .int x, .int y, .int (smI (fun b => if f (ad 9 16) b = 0 then 0 else if x ≤ f (ad 9 7) b ∧ f (ad 9 7) b ≤ y then f (ad 9 10) b else 0) i), .int (nI i)] [.int 0, .int (smI (fun b => if f (ad 9 16) b = 0 then 0 else if x ≤ f (ad 9 7) b ∧ f (ad 9 7) b ≤ y then f (ad 9 10) b else 0) i)] (mm M f g) R
        refine go_if rfl (fun _ => ?_) (fun (z : ¬ ((0 : Int32) = 0)) => absurd (show (0 : Int32) = 0 from (by decide)) z)
        refine go_blk 5 [] (pc' := 32) (vs' := [.ref (ad 10 0), .int x, .int y, .int ((smI (fun b => if f (ad 9 16) b = 0 then 0 else if x ≤ f (ad 9 7) b ∧ f (ad 9 7) b ≤ y then f (ad 9 10) b else 0) i) + 0), .int ((nI i) + 1)]) (st' := []) (M' := mm M f g) (ps := []) rfl trivial ?_
        have e1 : nI i + 1 = nI (i + 1) := nI_add i 1
        have e5 : ((smI (fun b => if f (ad 9 16) b = 0 then 0 else if x ≤ f (ad 9 7) b ∧ f (ad 9 7) b ≤ y then f (ad 9 10) b else 0) i) + 0) = smI (fun b => if f (ad 9 16) b = 0 then 0 else if x ≤ f (ad 9 7) b ∧ f (ad 9 7) b ≤ y then f (ad 9 10) b else 0) (i + 1) := (by rw [smI]; clear ih hx; grind)
        rw [e1, e5]
        exact ih

set_option maxRecDepth 100000 in
theorem lp_CY_isLet {d : Nat} {M : Mem} {f : Nat → Nat → Int32} {g : Nat → Nat → Int64} {ad : Nat → Nat → Nat} {R : Option Value → Mem → Prop} {x y : Int32} {nb : Nat} (hd : 0 ≤ d) (hF : Fx M ad) (hB : Bs M ad nb) (hn : f (ad 0 0) 3 = nI nb) (hl : nb ≤ 60) (h1 : ∀ i, i < nb → (¬ f (ad 2 i) 6 = 0 ∧ f (ad 2 i) 0 = x ∧ f (ad 2 i) 1 = y) → (∀ j, j < i → ¬ (¬ f (ad 2 j) 6 = 0 ∧ f (ad 2 j) 0 = x ∧ f (ad 2 j) 1 = y)) → R (some (.int 1)) (mm M f g)) (hx : (∀ j, j < nb → ¬ (¬ f (ad 2 j) 6 = 0 ∧ f (ad 2 j) 0 = x ∧ f (ad 2 j) 1 = y)) → ∀ u : Value, Go d 169 0 0 52 [.ref (ad 0 0), .int x, .int y, .int (nI nb), u] [] (mm M f g) R) : ∀ i, i ≤ nb → (∀ j, j < i → ¬ (¬ f (ad 2 j) 6 = 0 ∧ f (ad 2 j) 0 = x ∧ f (ad 2 j) 1 = y)) → ∀ u : Value, Go d 169 0 0 2 [.ref (ad 0 0), .int x, .int y, .int (nI i), u] [] (mm M f g) R := by
  refine up_ind (P := fun i => (∀ j, j < i → ¬ (¬ f (ad 2 j) 6 = 0 ∧ f (ad 2 j) 0 = x ∧ f (ad 2 j) 1 = y)) → ∀ u : Value, Go d 169 0 0 2 [.ref (ad 0 0), .int x, .int y, .int (nI i), u] [] (mm M f g) R) nb ?_ (fun i hi ih => ?_)
  ·
    intro hp u
    show Go d 169 0 0 2 [.ref (ad 0 0), .int x, .int y, .int (nI nb), u] [] (mm M f g) R
    refine go_blk 3 [some (.int (nI nb))] (pc' := 7) (vs' := [.ref (ad 0 0), .int x, .int y, .int (nI nb), u]) (st' := [.int (nI nb), .int (nI nb)]) (M' := mm M f g) (ps := [ob (mm M f g) (ad 0 0) 11, (Value.int (f (ad 0 0) 3)) = .int (nI nb)]) rfl ⟨(hF.o 0), congrArg Value.int hn, trivial⟩ ?_
    refine go_icmp rfl (fun _ => ?_) (fun (z : ¬ (nI nb ≤ (nI nb))) => absurd (show nI nb ≤ (nI nb) from Int32.le_refl _) z)
    exact hx hp u
  ·
    intro hp u
    show Go d 169 0 0 2 [.ref (ad 0 0), .int x, .int y, .int (nI i), u] [] (mm M f g) R
    refine go_blk 3 [some (.int (nI nb))] (pc' := 7) (vs' := [.ref (ad 0 0), .int x, .int y, .int (nI i), u]) (st' := [.int (nI nb), .int (nI i)]) (M' := mm M f g) (ps := [ob (mm M f g) (ad 0 0) 11, (Value.int (f (ad 0 0) 3)) = .int (nI nb)]) rfl ⟨(hF.o 0), congrArg Value.int hn, trivial⟩ ?_
    refine go_icmp rfl (fun (z : nI nb ≤ (nI i)) => absurd z (show ¬ (nI nb ≤ (nI i)) from (Int32.not_le.mpr ((nI_lts (by omega) (by omega)).mpr hi)))) (fun _ => ?_)
    refine go_blk 7 [some (.ref (ad 0 2)), some (.ref (ad 2 i))] (pc' := 23) (vs' := [.ref (ad 0 0), .int x, .int y, .int (nI i), .ref (ad 2 i)]) (st' := [.int (f (ad 2 i) 6)]) (M' := mm M f g) (ps := [ob (mm M f g) (ad 0 0) 11, mR (mm M f g) (ad 0 0) 2 = some (ad 0 2), va_rf (some (ad 0 2)) = .ref (ad 0 2), ob (mm M f g) (ad 0 2) 17, 17 ≤ 17 ∧ 17 < 22, vp_in (nI i) (mN (mm M f g) (ad 0 2)), mR (mm M f g) (ad 0 2) ((nI i).toNatClampNeg) = some (ad 2 i), va_rf (some (ad 2 i)) = .ref (ad 2 i), ob (mm M f g) (ad 2 i) 0]) rfl ⟨(hF.o 0), (hF.r 0 2 2), rfl, (hF.o 2), (by decide), (vpi (hF.n 2) (show _ < 60 by omega)), (cl_rf rfl (by omega) (hB i (by assumption)).1), rfl, (hB i (by assumption)).2, trivial⟩ ?_
    refine go_if rfl (fun (c1 : (f (ad 2 i) 6) = 0) => ?_) (fun (c1 : ¬ ((f (ad 2 i) 6) = 0)) => ?_)
    · -- (f (ad 2 i) 6) = 0
      refine go_blk 2 [] (pc' := 2) (vs' := [.ref (ad 0 0), .int x, .int y, .int ((nI i) + 1), .ref (ad 2 i)]) (st' := []) (M' := mm M f g) (ps := []) rfl trivial ?_
      have e1 : nI i + 1 = nI (i + 1) := nI_add i 1
      have hp2 : (∀ j, j < (i + 1) → ¬ (¬ f (ad 2 j) 6 = 0 ∧ f (ad 2 j) 0 = x ∧ f (ad 2 j) 1 = y)) := (by intro j hj; rcases Nat.lt_succ_iff_lt_or_eq.mp hj with h | h; exact hp j h; subst h; clear ih hx; grind)
      rw [e1]
      exact ih hp2 _
    · -- ¬ ((f (ad 2 i) 6) = 0)
      refine go_blk 3 [] (pc' := 32) (vs' := [.ref (ad 0 0), .int x, .int y, .int (nI i), .ref (ad 2 i)]) (st' := [.int x, .int (f (ad 2 i) 0)]) (M' := mm M f g) (ps := [ob (mm M f g) (ad 2 i) 0]) rfl ⟨(hB i (by assumption)).2, trivial⟩ ?_
      refine go_icmp rfl (fun (c2 : ¬ (f (ad 2 i) 0) = x) => ?_) (fun (c2 : ¬ (¬ (f (ad 2 i) 0) = x)) => ?_)
      · -- ¬ (f (ad 2 i) 0) = x
        refine go_blk 2 [] (pc' := 2) (vs' := [.ref (ad 0 0), .int x, .int y, .int ((nI i) + 1), .ref (ad 2 i)]) (st' := []) (M' := mm M f g) (ps := []) rfl trivial ?_
        have e1 : nI i + 1 = nI (i + 1) := nI_add i 1
        have hp2 : (∀ j, j < (i + 1) → ¬ (¬ f (ad 2 j) 6 = 0 ∧ f (ad 2 j) 0 = x ∧ f (ad 2 j) 1 = y)) := (by intro j hj; rcases Nat.lt_succ_iff_lt_or_eq.mp hj with h | h; exact hp j h; subst h; clear ih hx; grind)
        rw [e1]
        exact ih hp2 _
      · -- ¬ (¬ (f (ad 2 i) 0) = x)
        refine go_blk 3 [] (pc' := 41) (vs' := [.ref (ad 0 0), .int x, .int y, .int (nI i), .ref (ad 2 i)]) (st' := [.int y, .int (f (ad 2 i) 1)]) (M' := mm M f g) (ps := [ob (mm M f g) (ad 2 i) 0]) rfl ⟨(hB i (by assumption)).2, trivial⟩ ?_
        refine go_icmp rfl (fun (c3 : ¬ (f (ad 2 i) 1) = y) => ?_) (fun (c3 : ¬ (¬ (f (ad 2 i) 1) = y)) => ?_)
        · -- ¬ (f (ad 2 i) 1) = y
          refine go_blk 2 [] (pc' := 2) (vs' := [.ref (ad 0 0), .int x, .int y, .int ((nI i) + 1), .ref (ad 2 i)]) (st' := []) (M' := mm M f g) (ps := []) rfl trivial ?_
          have e1 : nI i + 1 = nI (i + 1) := nI_add i 1
          have hp2 : (∀ j, j < (i + 1) → ¬ (¬ f (ad 2 j) 6 = 0 ∧ f (ad 2 j) 0 = x ∧ f (ad 2 j) 1 = y)) := (by intro j hj; rcases Nat.lt_succ_iff_lt_or_eq.mp hj with h | h; exact hp j h; subst h; clear ih hx; grind)
          rw [e1]
          exact ih hp2 _
        · -- ¬ (¬ (f (ad 2 i) 1) = y)
          refine go_blk 1 [] (pc' := 45) (vs' := [.ref (ad 0 0), .int x, .int y, .int (nI i), .ref (ad 2 i)]) (st' := [.int 1]) (M' := mm M f g) (ps := []) rfl trivial ?_
          refine go_zret rfl rfl (Or.inr rfl) ?_
          exact h1 i hi (by clear ih hx; grind) hp

set_option maxRecDepth 100000 in
theorem s_CY_isLet {d : Nat} {M : Mem} {f : Nat → Nat → Int32} {g : Nat → Nat → Int64} {ad : Nat → Nat → Nat} {R : Option Value → Mem → Prop} {x y : Int32} {nb : Nat} (hd : 0 ≤ d) (hF : Fx M ad) (hB : Bs M ad nb) (hn : f (ad 0 0) 3 = nI nb) (hl : nb ≤ 60) (h1 : ∀ i, i < nb → (¬ f (ad 2 i) 6 = 0 ∧ f (ad 2 i) 0 = x ∧ f (ad 2 i) 1 = y) → (∀ j, j < i → ¬ (¬ f (ad 2 j) 6 = 0 ∧ f (ad 2 j) 0 = x ∧ f (ad 2 j) 1 = y)) → R (some (.int 1)) (mm M f g)) (h0 : (∀ j, j < nb → ¬ (¬ f (ad 2 j) 6 = 0 ∧ f (ad 2 j) 0 = x ∧ f (ad 2 j) 1 = y)) → R (some (.int 0)) (mm M f g)) : Call d 169 [.ref (ad 0 0), .int x, .int y] (mm M f g) R := by
  show Go d 169 0 0 0 [.ref (ad 0 0), .int x, .int y, .retAddr 0, .retAddr 0] [] (mm M f g) R
  refine go_blk 2 [] (pc' := 2) (vs' := [.ref (ad 0 0), .int x, .int y, .int 0, .retAddr 0]) (st' := []) (M' := mm M f g) (ps := []) rfl trivial ?_
  refine lp_CY_isLet hd hF hB hn hl h1 (fun hp u => ?_) 0 (Nat.zero_le _) (fun j hj => absurd hj (Nat.not_lt_zero j)) _
  show Go d 169 0 0 52 [.ref (ad 0 0), .int x, .int y, .int (nI nb), u] [] (mm M f g) R
  refine go_blk 1 [] (pc' := 53) (vs' := [.ref (ad 0 0), .int x, .int y, .int (nI nb), u]) (st' := [.int 0]) (M' := mm M f g) (ps := []) rfl trivial ?_
  refine go_zret rfl rfl (Or.inl rfl) ?_
  exact h0 hp

set_option maxRecDepth 100000 in
theorem lp_Mo_inForce {d : Nat} {M : Mem} {f : Nat → Nat → Int32} {g : Nat → Nat → Int64} {ad : Nat → Nat → Nat} {R : Option Value → Mem → Prop} {x y : Int32} {nb : Nat} (hd : 0 ≤ d) (hM : Mx M ad) (hn : f (ad 10 0) 18 = nI nb) (hl : nb ≤ 60) (h1 : ∀ i, i < nb → (¬ f (ad 9 15) i = 0 ∧ f (ad 9 6) i = x ∧ f (ad 9 7) i = y) → (∀ j, j < i → ¬ (¬ f (ad 9 15) j = 0 ∧ f (ad 9 6) j = x ∧ f (ad 9 7) j = y)) → R (some (.int (nI i))) (mm M f g)) (hx : (∀ j, j < nb → ¬ (¬ f (ad 9 15) j = 0 ∧ f (ad 9 6) j = x ∧ f (ad 9 7) j = y)) → Go d 193 0 0 47 [.ref (ad 10 0), .int x, .int y, .int (nI nb)] [] (mm M f g) R) : ∀ i, i ≤ nb → (∀ j, j < i → ¬ (¬ f (ad 9 15) j = 0 ∧ f (ad 9 6) j = x ∧ f (ad 9 7) j = y)) → Go d 193 0 0 2 [.ref (ad 10 0), .int x, .int y, .int (nI i)] [] (mm M f g) R := by
  refine up_ind (P := fun i => (∀ j, j < i → ¬ (¬ f (ad 9 15) j = 0 ∧ f (ad 9 6) j = x ∧ f (ad 9 7) j = y)) → Go d 193 0 0 2 [.ref (ad 10 0), .int x, .int y, .int (nI i)] [] (mm M f g) R) nb ?_ (fun i hi ih => ?_)
  ·
    intro hp
    show Go d 193 0 0 2 [.ref (ad 10 0), .int x, .int y, .int (nI nb)] [] (mm M f g) R
    refine go_blk 3 [some (.int (nI nb))] (pc' := 7) (vs' := [.ref (ad 10 0), .int x, .int y, .int (nI nb)]) (st' := [.int (nI nb), .int (nI nb)]) (M' := mm M f g) (ps := [ob (mm M f g) (ad 10 0) 12, (Value.int (f (ad 10 0) 18)) = .int (nI nb)]) rfl ⟨hM.1, congrArg Value.int hn, trivial⟩ ?_
    refine go_icmp rfl (fun _ => ?_) (fun (z : ¬ (nI nb ≤ (nI nb))) => absurd (show nI nb ≤ (nI nb) from Int32.le_refl _) z)
    exact hx hp
  ·
    intro hp
    show Go d 193 0 0 2 [.ref (ad 10 0), .int x, .int y, .int (nI i)] [] (mm M f g) R
    refine go_blk 3 [some (.int (nI nb))] (pc' := 7) (vs' := [.ref (ad 10 0), .int x, .int y, .int (nI i)]) (st' := [.int (nI nb), .int (nI i)]) (M' := mm M f g) (ps := [ob (mm M f g) (ad 10 0) 12, (Value.int (f (ad 10 0) 18)) = .int (nI nb)]) rfl ⟨hM.1, congrArg Value.int hn, trivial⟩ ?_
    refine go_icmp rfl (fun (z : nI nb ≤ (nI i)) => absurd z (show ¬ (nI nb ≤ (nI i)) from (Int32.not_le.mpr ((nI_lts (by omega) (by omega)).mpr hi)))) (fun _ => ?_)
    refine go_blk 4 [some (.ref (ad 9 15)), some (.int (f (ad 9 15) i))] (pc' := 16) (vs' := [.ref (ad 10 0), .int x, .int y, .int (nI i)]) (st' := [.int (f (ad 9 15) i)]) (M' := mm M f g) (ps := [ob (mm M f g) (ad 10 0) 12, mR (mm M f g) (ad 10 0) 15 = some (ad 9 15), va_rf (some (ad 9 15)) = .ref (ad 9 15), ob (mm M f g) (ad 9 15) 13, 13 = 13 ∨ 13 = 14, vp_in (nI i) (mN (mm M f g) (ad 9 15)), (Value.int (f (ad 9 15) ((nI i).toNatClampNeg))) = .int (f (ad 9 15) i)]) rfl ⟨hM.1, (hM.r 15 13 60), rfl, (hM.o 15 13 60), (by decide), (vpi (hM.n 15 13 60) (by omega)), congrArg (fun z => Value.int (f (ad 9 15) z)) (nI_clamp (by omega)), trivial⟩ ?_
    refine go_if rfl (fun (c1 : (f (ad 9 15) i) = 0) => ?_) (fun (c1 : ¬ ((f (ad 9 15) i) = 0)) => ?_)
    · -- (f (ad 9 15) i) = 0
      refine go_blk 2 [] (pc' := 2) (vs' := [.ref (ad 10 0), .int x, .int y, .int ((nI i) + 1)]) (st' := []) (M' := mm M f g) (ps := []) rfl trivial ?_
      have e1 : nI i + 1 = nI (i + 1) := nI_add i 1
      have hp2 : (∀ j, j < (i + 1) → ¬ (¬ f (ad 9 15) j = 0 ∧ f (ad 9 6) j = x ∧ f (ad 9 7) j = y)) := (by intro j hj; rcases Nat.lt_succ_iff_lt_or_eq.mp hj with h | h; exact hp j h; subst h; clear ih hx; grind)
      rw [e1]
      exact ih hp2
    · -- ¬ ((f (ad 9 15) i) = 0)
      refine go_blk 5 [some (.ref (ad 9 6)), some (.int (f (ad 9 6) i))] (pc' := 26) (vs' := [.ref (ad 10 0), .int x, .int y, .int (nI i)]) (st' := [.int x, .int (f (ad 9 6) i)]) (M' := mm M f g) (ps := [ob (mm M f g) (ad 10 0) 12, mR (mm M f g) (ad 10 0) 6 = some (ad 9 6), va_rf (some (ad 9 6)) = .ref (ad 9 6), ob (mm M f g) (ad 9 6) 15, vp_in (nI i) (mN (mm M f g) (ad 9 6)), (Value.int (f (ad 9 6) ((nI i).toNatClampNeg))) = .int (f (ad 9 6) i)]) rfl ⟨hM.1, (hM.r 6 15 60), rfl, (hM.o 6 15 60), (vpi (hM.n 6 15 60) (by omega)), congrArg (fun z => Value.int (f (ad 9 6) z)) (nI_clamp (by omega)), trivial⟩ ?_
      refine go_icmp rfl (fun (c2 : ¬ (f (ad 9 6) i) = x) => ?_) (fun (c2 : ¬ (¬ (f (ad 9 6) i) = x)) => ?_)
      · -- ¬ (f (ad 9 6) i) = x
        refine go_blk 2 [] (pc' := 2) (vs' := [.ref (ad 10 0), .int x, .int y, .int ((nI i) + 1)]) (st' := []) (M' := mm M f g) (ps := []) rfl trivial ?_
        have e1 : nI i + 1 = nI (i + 1) := nI_add i 1
        have hp2 : (∀ j, j < (i + 1) → ¬ (¬ f (ad 9 15) j = 0 ∧ f (ad 9 6) j = x ∧ f (ad 9 7) j = y)) := (by intro j hj; rcases Nat.lt_succ_iff_lt_or_eq.mp hj with h | h; exact hp j h; subst h; clear ih hx; grind)
        rw [e1]
        exact ih hp2
      · -- ¬ (¬ (f (ad 9 6) i) = x)
        refine go_blk 5 [some (.ref (ad 9 7)), some (.int (f (ad 9 7) i))] (pc' := 36) (vs' := [.ref (ad 10 0), .int x, .int y, .int (nI i)]) (st' := [.int y, .int (f (ad 9 7) i)]) (M' := mm M f g) (ps := [ob (mm M f g) (ad 10 0) 12, mR (mm M f g) (ad 10 0) 7 = some (ad 9 7), va_rf (some (ad 9 7)) = .ref (ad 9 7), ob (mm M f g) (ad 9 7) 15, vp_in (nI i) (mN (mm M f g) (ad 9 7)), (Value.int (f (ad 9 7) ((nI i).toNatClampNeg))) = .int (f (ad 9 7) i)]) rfl ⟨hM.1, (hM.r 7 15 60), rfl, (hM.o 7 15 60), (vpi (hM.n 7 15 60) (by omega)), congrArg (fun z => Value.int (f (ad 9 7) z)) (nI_clamp (by omega)), trivial⟩ ?_
        refine go_icmp rfl (fun (c3 : ¬ (f (ad 9 7) i) = y) => ?_) (fun (c3 : ¬ (¬ (f (ad 9 7) i) = y)) => ?_)
        · -- ¬ (f (ad 9 7) i) = y
          refine go_blk 2 [] (pc' := 2) (vs' := [.ref (ad 10 0), .int x, .int y, .int ((nI i) + 1)]) (st' := []) (M' := mm M f g) (ps := []) rfl trivial ?_
          have e1 : nI i + 1 = nI (i + 1) := nI_add i 1
          have hp2 : (∀ j, j < (i + 1) → ¬ (¬ f (ad 9 15) j = 0 ∧ f (ad 9 6) j = x ∧ f (ad 9 7) j = y)) := (by intro j hj; rcases Nat.lt_succ_iff_lt_or_eq.mp hj with h | h; exact hp j h; subst h; clear ih hx; grind)
          rw [e1]
          exact ih hp2
        · -- ¬ (¬ (f (ad 9 7) i) = y)
          refine go_blk 1 [] (pc' := 40) (vs' := [.ref (ad 10 0), .int x, .int y, .int (nI i)]) (st' := [.int (nI i)]) (M' := mm M f g) (ps := []) rfl trivial ?_
          refine go_iret rfl rfl ?_
          exact h1 i hi (by clear ih hx; grind) hp

set_option maxRecDepth 100000 in
theorem s_Mo_inForce {d : Nat} {M : Mem} {f : Nat → Nat → Int32} {g : Nat → Nat → Int64} {ad : Nat → Nat → Nat} {R : Option Value → Mem → Prop} {x y : Int32} {nb : Nat} (hd : 0 ≤ d) (hM : Mx M ad) (hn : f (ad 10 0) 18 = nI nb) (hl : nb ≤ 60) (h1 : ∀ i, i < nb → (¬ f (ad 9 15) i = 0 ∧ f (ad 9 6) i = x ∧ f (ad 9 7) i = y) → (∀ j, j < i → ¬ (¬ f (ad 9 15) j = 0 ∧ f (ad 9 6) j = x ∧ f (ad 9 7) j = y)) → R (some (.int (nI i))) (mm M f g)) (h0 : (∀ j, j < nb → ¬ (¬ f (ad 9 15) j = 0 ∧ f (ad 9 6) j = x ∧ f (ad 9 7) j = y)) → R (some (.int (-1))) (mm M f g)) : Call d 193 [.ref (ad 10 0), .int x, .int y] (mm M f g) R := by
  show Go d 193 0 0 0 [.ref (ad 10 0), .int x, .int y, .retAddr 0] [] (mm M f g) R
  refine go_blk 2 [] (pc' := 2) (vs' := [.ref (ad 10 0), .int x, .int y, .int 0]) (st' := []) (M' := mm M f g) (ps := []) rfl trivial ?_
  refine lp_Mo_inForce hd hM hn hl h1 (fun hp => ?_) 0 (Nat.zero_le _) (fun j hj => absurd hj (Nat.not_lt_zero j))
  show Go d 193 0 0 47 [.ref (ad 10 0), .int x, .int y, .int (nI nb)] [] (mm M f g) R
  refine go_blk 1 [] (pc' := 48) (vs' := [.ref (ad 10 0), .int x, .int y, .int (nI nb)]) (st' := [.int (-1)]) (M' := mm M f g) (ps := []) rfl trivial ?_
  refine go_iret rfl rfl ?_
  exact h0 hp

set_option maxRecDepth 100000 in
theorem lp_Mo_stay {d : Nat} {M : Mem} {f : Nat → Nat → Int32} {g : Nat → Nat → Int64} {ad : Nat → Nat → Nat} {R : Option Value → Mem → Prop} {x y : Int32} {nb : Nat} (hd : 0 ≤ d) (hM : Mx M ad) (hn : f (ad 10 0) 18 = nI nb) (hl : nb ≤ 60) (h1 : ∀ i, i < nb → (¬ f (ad 9 16) i = 0 ∧ f (ad 9 6) i = x ∧ f (ad 9 7) i = y) → (∀ j, j < i → ¬ (¬ f (ad 9 16) j = 0 ∧ f (ad 9 6) j = x ∧ f (ad 9 7) j = y)) → R (some (.int (nI i))) (mm M f g)) (hx : (∀ j, j < nb → ¬ (¬ f (ad 9 16) j = 0 ∧ f (ad 9 6) j = x ∧ f (ad 9 7) j = y)) → Go d 208 0 0 47 [.ref (ad 10 0), .int x, .int y, .int (nI nb)] [] (mm M f g) R) : ∀ i, i ≤ nb → (∀ j, j < i → ¬ (¬ f (ad 9 16) j = 0 ∧ f (ad 9 6) j = x ∧ f (ad 9 7) j = y)) → Go d 208 0 0 2 [.ref (ad 10 0), .int x, .int y, .int (nI i)] [] (mm M f g) R := by
  refine up_ind (P := fun i => (∀ j, j < i → ¬ (¬ f (ad 9 16) j = 0 ∧ f (ad 9 6) j = x ∧ f (ad 9 7) j = y)) → Go d 208 0 0 2 [.ref (ad 10 0), .int x, .int y, .int (nI i)] [] (mm M f g) R) nb ?_ (fun i hi ih => ?_)
  ·
    intro hp
    show Go d 208 0 0 2 [.ref (ad 10 0), .int x, .int y, .int (nI nb)] [] (mm M f g) R
    refine go_blk 3 [some (.int (nI nb))] (pc' := 7) (vs' := [.ref (ad 10 0), .int x, .int y, .int (nI nb)]) (st' := [.int (nI nb), .int (nI nb)]) (M' := mm M f g) (ps := [ob (mm M f g) (ad 10 0) 12, (Value.int (f (ad 10 0) 18)) = .int (nI nb)]) rfl ⟨hM.1, congrArg Value.int hn, trivial⟩ ?_
    refine go_icmp rfl (fun _ => ?_) (fun (z : ¬ (nI nb ≤ (nI nb))) => absurd (show nI nb ≤ (nI nb) from Int32.le_refl _) z)
    exact hx hp
  ·
    intro hp
    show Go d 208 0 0 2 [.ref (ad 10 0), .int x, .int y, .int (nI i)] [] (mm M f g) R
    refine go_blk 3 [some (.int (nI nb))] (pc' := 7) (vs' := [.ref (ad 10 0), .int x, .int y, .int (nI i)]) (st' := [.int (nI nb), .int (nI i)]) (M' := mm M f g) (ps := [ob (mm M f g) (ad 10 0) 12, (Value.int (f (ad 10 0) 18)) = .int (nI nb)]) rfl ⟨hM.1, congrArg Value.int hn, trivial⟩ ?_
    refine go_icmp rfl (fun (z : nI nb ≤ (nI i)) => absurd z (show ¬ (nI nb ≤ (nI i)) from (Int32.not_le.mpr ((nI_lts (by omega) (by omega)).mpr hi)))) (fun _ => ?_)
    refine go_blk 4 [some (.ref (ad 9 16)), some (.int (f (ad 9 16) i))] (pc' := 16) (vs' := [.ref (ad 10 0), .int x, .int y, .int (nI i)]) (st' := [.int (f (ad 9 16) i)]) (M' := mm M f g) (ps := [ob (mm M f g) (ad 10 0) 12, mR (mm M f g) (ad 10 0) 16 = some (ad 9 16), va_rf (some (ad 9 16)) = .ref (ad 9 16), ob (mm M f g) (ad 9 16) 13, 13 = 13 ∨ 13 = 14, vp_in (nI i) (mN (mm M f g) (ad 9 16)), (Value.int (f (ad 9 16) ((nI i).toNatClampNeg))) = .int (f (ad 9 16) i)]) rfl ⟨hM.1, (hM.r 16 13 60), rfl, (hM.o 16 13 60), (by decide), (vpi (hM.n 16 13 60) (by omega)), congrArg (fun z => Value.int (f (ad 9 16) z)) (nI_clamp (by omega)), trivial⟩ ?_
    refine go_if rfl (fun (c1 : (f (ad 9 16) i) = 0) => ?_) (fun (c1 : ¬ ((f (ad 9 16) i) = 0)) => ?_)
    · -- (f (ad 9 16) i) = 0
      refine go_blk 2 [] (pc' := 2) (vs' := [.ref (ad 10 0), .int x, .int y, .int ((nI i) + 1)]) (st' := []) (M' := mm M f g) (ps := []) rfl trivial ?_
      have e1 : nI i + 1 = nI (i + 1) := nI_add i 1
      have hp2 : (∀ j, j < (i + 1) → ¬ (¬ f (ad 9 16) j = 0 ∧ f (ad 9 6) j = x ∧ f (ad 9 7) j = y)) := (by intro j hj; rcases Nat.lt_succ_iff_lt_or_eq.mp hj with h | h; exact hp j h; subst h; clear ih hx; grind)
      rw [e1]
      exact ih hp2
    · -- ¬ ((f (ad 9 16) i) = 0)
      refine go_blk 5 [some (.ref (ad 9 6)), some (.int (f (ad 9 6) i))] (pc' := 26) (vs' := [.ref (ad 10 0), .int x, .int y, .int (nI i)]) (st' := [.int x, .int (f (ad 9 6) i)]) (M' := mm M f g) (ps := [ob (mm M f g) (ad 10 0) 12, mR (mm M f g) (ad 10 0) 6 = some (ad 9 6), va_rf (some (ad 9 6)) = .ref (ad 9 6), ob (mm M f g) (ad 9 6) 15, vp_in (nI i) (mN (mm M f g) (ad 9 6)), (Value.int (f (ad 9 6) ((nI i).toNatClampNeg))) = .int (f (ad 9 6) i)]) rfl ⟨hM.1, (hM.r 6 15 60), rfl, (hM.o 6 15 60), (vpi (hM.n 6 15 60) (by omega)), congrArg (fun z => Value.int (f (ad 9 6) z)) (nI_clamp (by omega)), trivial⟩ ?_
      refine go_icmp rfl (fun (c2 : ¬ (f (ad 9 6) i) = x) => ?_) (fun (c2 : ¬ (¬ (f (ad 9 6) i) = x)) => ?_)
      · -- ¬ (f (ad 9 6) i) = x
        refine go_blk 2 [] (pc' := 2) (vs' := [.ref (ad 10 0), .int x, .int y, .int ((nI i) + 1)]) (st' := []) (M' := mm M f g) (ps := []) rfl trivial ?_
        have e1 : nI i + 1 = nI (i + 1) := nI_add i 1
        have hp2 : (∀ j, j < (i + 1) → ¬ (¬ f (ad 9 16) j = 0 ∧ f (ad 9 6) j = x ∧ f (ad 9 7) j = y)) := (by intro j hj; rcases Nat.lt_succ_iff_lt_or_eq.mp hj with h | h; exact hp j h; subst h; clear ih hx; grind)
        rw [e1]
        exact ih hp2
      · -- ¬ (¬ (f (ad 9 6) i) = x)
        refine go_blk 5 [some (.ref (ad 9 7)), some (.int (f (ad 9 7) i))] (pc' := 36) (vs' := [.ref (ad 10 0), .int x, .int y, .int (nI i)]) (st' := [.int y, .int (f (ad 9 7) i)]) (M' := mm M f g) (ps := [ob (mm M f g) (ad 10 0) 12, mR (mm M f g) (ad 10 0) 7 = some (ad 9 7), va_rf (some (ad 9 7)) = .ref (ad 9 7), ob (mm M f g) (ad 9 7) 15, vp_in (nI i) (mN (mm M f g) (ad 9 7)), (Value.int (f (ad 9 7) ((nI i).toNatClampNeg))) = .int (f (ad 9 7) i)]) rfl ⟨hM.1, (hM.r 7 15 60), rfl, (hM.o 7 15 60), (vpi (hM.n 7 15 60) (by omega)), congrArg (fun z => Value.int (f (ad 9 7) z)) (nI_clamp (by omega)), trivial⟩ ?_
        refine go_icmp rfl (fun (c3 : ¬ (f (ad 9 7) i) = y) => ?_) (fun (c3 : ¬ (¬ (f (ad 9 7) i) = y)) => ?_)
        · -- ¬ (f (ad 9 7) i) = y
          refine go_blk 2 [] (pc' := 2) (vs' := [.ref (ad 10 0), .int x, .int y, .int ((nI i) + 1)]) (st' := []) (M' := mm M f g) (ps := []) rfl trivial ?_
          have e1 : nI i + 1 = nI (i + 1) := nI_add i 1
          have hp2 : (∀ j, j < (i + 1) → ¬ (¬ f (ad 9 16) j = 0 ∧ f (ad 9 6) j = x ∧ f (ad 9 7) j = y)) := (by intro j hj; rcases Nat.lt_succ_iff_lt_or_eq.mp hj with h | h; exact hp j h; subst h; clear ih hx; grind)
          rw [e1]
          exact ih hp2
        · -- ¬ (¬ (f (ad 9 7) i) = y)
          refine go_blk 1 [] (pc' := 40) (vs' := [.ref (ad 10 0), .int x, .int y, .int (nI i)]) (st' := [.int (nI i)]) (M' := mm M f g) (ps := []) rfl trivial ?_
          refine go_iret rfl rfl ?_
          exact h1 i hi (by clear ih hx; grind) hp

set_option maxRecDepth 100000 in
theorem s_Mo_stay {d : Nat} {M : Mem} {f : Nat → Nat → Int32} {g : Nat → Nat → Int64} {ad : Nat → Nat → Nat} {R : Option Value → Mem → Prop} {x y : Int32} {nb : Nat} (hd : 0 ≤ d) (hM : Mx M ad) (hn : f (ad 10 0) 18 = nI nb) (hl : nb ≤ 60) (h1 : ∀ i, i < nb → (¬ f (ad 9 16) i = 0 ∧ f (ad 9 6) i = x ∧ f (ad 9 7) i = y) → (∀ j, j < i → ¬ (¬ f (ad 9 16) j = 0 ∧ f (ad 9 6) j = x ∧ f (ad 9 7) j = y)) → R (some (.int (nI i))) (mm M f g)) (h0 : (∀ j, j < nb → ¬ (¬ f (ad 9 16) j = 0 ∧ f (ad 9 6) j = x ∧ f (ad 9 7) j = y)) → R (some (.int (-1))) (mm M f g)) : Call d 208 [.ref (ad 10 0), .int x, .int y] (mm M f g) R := by
  show Go d 208 0 0 0 [.ref (ad 10 0), .int x, .int y, .retAddr 0] [] (mm M f g) R
  refine go_blk 2 [] (pc' := 2) (vs' := [.ref (ad 10 0), .int x, .int y, .int 0]) (st' := []) (M' := mm M f g) (ps := []) rfl trivial ?_
  refine lp_Mo_stay hd hM hn hl h1 (fun hp => ?_) 0 (Nat.zero_le _) (fun j hj => absurd hj (Nat.not_lt_zero j))
  show Go d 208 0 0 47 [.ref (ad 10 0), .int x, .int y, .int (nI nb)] [] (mm M f g) R
  refine go_blk 1 [] (pc' := 48) (vs' := [.ref (ad 10 0), .int x, .int y, .int (nI nb)]) (st' := [.int (-1)]) (M' := mm M f g) (ps := []) rfl trivial ?_
  refine go_iret rfl rfl ?_
  exact h0 hp

set_option maxRecDepth 100000 in
theorem lp_CY_bookingsInForce {d : Nat} {M : Mem} {f : Nat → Nat → Int32} {g : Nat → Nat → Int64} {ad : Nat → Nat → Nat} {R : Option Value → Mem → Prop} {nb : Nat} (hd : 0 ≤ d) (hF : Fx M ad) (hB : Bs M ad nb) (hn : f (ad 0 0) 3 = nI nb) (hl : nb ≤ 60) (hx : Go d 182 0 0 38 [.ref (ad 0 0), .int (smI (fun b => if f (ad 2 b) 6 = 0 then 0 else 1) nb), .int (nI nb)] [] (mm M f g) R) : ∀ i, i ≤ nb → Go d 182 0 0 4 [.ref (ad 0 0), .int (smI (fun b => if f (ad 2 b) 6 = 0 then 0 else 1) i), .int (nI i)] [] (mm M f g) R := by
  refine up_ind (P := fun i => Go d 182 0 0 4 [.ref (ad 0 0), .int (smI (fun b => if f (ad 2 b) 6 = 0 then 0 else 1) i), .int (nI i)] [] (mm M f g) R) nb ?_ (fun i hi ih => ?_)
  ·
    skip
    show Go d 182 0 0 4 [.ref (ad 0 0), .int (smI (fun b => if f (ad 2 b) 6 = 0 then 0 else 1) nb), .int (nI nb)] [] (mm M f g) R
    refine go_blk 3 [some (.int (nI nb))] (pc' := 9) (vs' := [.ref (ad 0 0), .int (smI (fun b => if f (ad 2 b) 6 = 0 then 0 else 1) nb), .int (nI nb)]) (st' := [.int (nI nb), .int (nI nb)]) (M' := mm M f g) (ps := [ob (mm M f g) (ad 0 0) 11, (Value.int (f (ad 0 0) 3)) = .int (nI nb)]) rfl ⟨(hF.o 0), congrArg Value.int hn, trivial⟩ ?_
    refine go_icmp rfl (fun _ => ?_) (fun (z : ¬ (nI nb ≤ (nI nb))) => absurd (show nI nb ≤ (nI nb) from Int32.le_refl _) z)
    exact hx
  ·
    skip
    show Go d 182 0 0 4 [.ref (ad 0 0), .int (smI (fun b => if f (ad 2 b) 6 = 0 then 0 else 1) i), .int (nI i)] [] (mm M f g) R
    refine go_blk 3 [some (.int (nI nb))] (pc' := 9) (vs' := [.ref (ad 0 0), .int (smI (fun b => if f (ad 2 b) 6 = 0 then 0 else 1) i), .int (nI i)]) (st' := [.int (nI nb), .int (nI i)]) (M' := mm M f g) (ps := [ob (mm M f g) (ad 0 0) 11, (Value.int (f (ad 0 0) 3)) = .int (nI nb)]) rfl ⟨(hF.o 0), congrArg Value.int hn, trivial⟩ ?_
    refine go_icmp rfl (fun (z : nI nb ≤ (nI i)) => absurd z (show ¬ (nI nb ≤ (nI i)) from (Int32.not_le.mpr ((nI_lts (by omega) (by omega)).mpr hi)))) (fun _ => ?_)
    refine go_blk 6 [some (.ref (ad 0 2)), some (.ref (ad 2 i))] (pc' := 22) (vs' := [.ref (ad 0 0), .int (smI (fun b => if f (ad 2 b) 6 = 0 then 0 else 1) i), .int (nI i)]) (st' := [.int (f (ad 2 i) 6), .int (smI (fun b => if f (ad 2 b) 6 = 0 then 0 else 1) i)]) (M' := mm M f g) (ps := [ob (mm M f g) (ad 0 0) 11, mR (mm M f g) (ad 0 0) 2 = some (ad 0 2), va_rf (some (ad 0 2)) = .ref (ad 0 2), ob (mm M f g) (ad 0 2) 17, 17 ≤ 17 ∧ 17 < 22, vp_in (nI i) (mN (mm M f g) (ad 0 2)), mR (mm M f g) (ad 0 2) ((nI i).toNatClampNeg) = some (ad 2 i), va_rf (some (ad 2 i)) = .ref (ad 2 i), ob (mm M f g) (ad 2 i) 0]) rfl ⟨(hF.o 0), (hF.r 0 2 2), rfl, (hF.o 2), (by decide), (vpi (hF.n 2) (show _ < 60 by omega)), (cl_rf rfl (by omega) (hB i (by assumption)).1), rfl, (hB i (by assumption)).2, trivial⟩ ?_
    refine go_if rfl (fun (c1 : (f (ad 2 i) 6) = 0) => ?_) (fun (c1 : ¬ ((f (ad 2 i) 6) = 0)) => ?_)
    · -- (f (ad 2 i) 6) = 0
      refine go_blk 5 [] (pc' := 4) (vs' := [.ref (ad 0 0), .int ((smI (fun b => if f (ad 2 b) 6 = 0 then 0 else 1) i) + 0), .int ((nI i) + 1)]) (st' := []) (M' := mm M f g) (ps := []) rfl trivial ?_
      have e1 : nI i + 1 = nI (i + 1) := nI_add i 1
      have e3 : ((smI (fun b => if f (ad 2 b) 6 = 0 then 0 else 1) i) + 0) = smI (fun b => if f (ad 2 b) 6 = 0 then 0 else 1) (i + 1) := (by rw [smI]; clear ih hx; grind)
      rw [e1, e3]
      exact ih
    · -- ¬ ((f (ad 2 i) 6) = 0)
      refine go_blk 6 [] (pc' := 4) (vs' := [.ref (ad 0 0), .int ((smI (fun b => if f (ad 2 b) 6 = 0 then 0 else 1) i) + 1), .int ((nI i) + 1)]) (st' := []) (M' := mm M f g) (ps := []) rfl trivial ?_
      have e1 : nI i + 1 = nI (i + 1) := nI_add i 1
      have e3 : ((smI (fun b => if f (ad 2 b) 6 = 0 then 0 else 1) i) + 1) = smI (fun b => if f (ad 2 b) 6 = 0 then 0 else 1) (i + 1) := (by rw [smI]; clear ih hx; grind)
      rw [e1, e3]
      exact ih

set_option maxRecDepth 100000 in
theorem lp_Mo_count5 {d : Nat} {M : Mem} {f : Nat → Nat → Int32} {g : Nat → Nat → Int64} {ad : Nat → Nat → Nat} {R : Option Value → Mem → Prop} {x : Int32} {nb : Nat} (hd : 2 ≤ d) (hM : Mx M ad) (hn : f (ad 10 0) 18 = nI nb) (hl : nb ≤ 60) (hx : Go d 275 0 0 161 [.ref (ad 10 0), .int x, .int (smI (fun b => if f (ad 9 15) b = 0 then 0 else 1) nb), .int (nI nb)] [] (mm M f g) R) : ∀ i, i ≤ nb → Go d 275 0 0 130 [.ref (ad 10 0), .int x, .int (smI (fun b => if f (ad 9 15) b = 0 then 0 else 1) i), .int (nI i)] [] (mm M f g) R := by
  refine up_ind (P := fun i => Go d 275 0 0 130 [.ref (ad 10 0), .int x, .int (smI (fun b => if f (ad 9 15) b = 0 then 0 else 1) i), .int (nI i)] [] (mm M f g) R) nb ?_ (fun i hi ih => ?_)
  ·
    skip
    show Go d 275 0 0 130 [.ref (ad 10 0), .int x, .int (smI (fun b => if f (ad 9 15) b = 0 then 0 else 1) nb), .int (nI nb)] [] (mm M f g) R
    refine go_blk 3 [some (.int (nI nb))] (pc' := 135) (vs' := [.ref (ad 10 0), .int x, .int (smI (fun b => if f (ad 9 15) b = 0 then 0 else 1) nb), .int (nI nb)]) (st' := [.int (nI nb), .int (nI nb)]) (M' := mm M f g) (ps := [ob (mm M f g) (ad 10 0) 12, (Value.int (f (ad 10 0) 18)) = .int (nI nb)]) rfl ⟨hM.1, congrArg Value.int hn, trivial⟩ ?_
    refine go_icmp rfl (fun _ => ?_) (fun (z : ¬ (nI nb ≤ (nI nb))) => absurd (show nI nb ≤ (nI nb) from Int32.le_refl _) z)
    exact hx
  ·
    skip
    show Go d 275 0 0 130 [.ref (ad 10 0), .int x, .int (smI (fun b => if f (ad 9 15) b = 0 then 0 else 1) i), .int (nI i)] [] (mm M f g) R
    refine go_blk 3 [some (.int (nI nb))] (pc' := 135) (vs' := [.ref (ad 10 0), .int x, .int (smI (fun b => if f (ad 9 15) b = 0 then 0 else 1) i), .int (nI i)]) (st' := [.int (nI nb), .int (nI i)]) (M' := mm M f g) (ps := [ob (mm M f g) (ad 10 0) 12, (Value.int (f (ad 10 0) 18)) = .int (nI nb)]) rfl ⟨hM.1, congrArg Value.int hn, trivial⟩ ?_
    refine go_icmp rfl (fun (z : nI nb ≤ (nI i)) => absurd z (show ¬ (nI nb ≤ (nI i)) from (Int32.not_le.mpr ((nI_lts (by omega) (by omega)).mpr hi)))) (fun _ => ?_)
    refine go_blk 5 [some (.ref (ad 9 15)), some (.int (f (ad 9 15) i))] (pc' := 145) (vs' := [.ref (ad 10 0), .int x, .int (smI (fun b => if f (ad 9 15) b = 0 then 0 else 1) i), .int (nI i)]) (st' := [.int (f (ad 9 15) i), .int (smI (fun b => if f (ad 9 15) b = 0 then 0 else 1) i)]) (M' := mm M f g) (ps := [ob (mm M f g) (ad 10 0) 12, mR (mm M f g) (ad 10 0) 15 = some (ad 9 15), va_rf (some (ad 9 15)) = .ref (ad 9 15), ob (mm M f g) (ad 9 15) 13, 13 = 13 ∨ 13 = 14, vp_in (nI i) (mN (mm M f g) (ad 9 15)), (Value.int (f (ad 9 15) ((nI i).toNatClampNeg))) = .int (f (ad 9 15) i)]) rfl ⟨hM.1, (hM.r 15 13 60), rfl, (hM.o 15 13 60), (by decide), (vpi (hM.n 15 13 60) (by omega)), congrArg (fun z => Value.int (f (ad 9 15) z)) (nI_clamp (by omega)), trivial⟩ ?_
    refine go_if rfl (fun (c1 : (f (ad 9 15) i) = 0) => ?_) (fun (c1 : ¬ ((f (ad 9 15) i) = 0)) => ?_)
    · -- (f (ad 9 15) i) = 0
      refine go_blk 5 [] (pc' := 130) (vs' := [.ref (ad 10 0), .int x, .int ((smI (fun b => if f (ad 9 15) b = 0 then 0 else 1) i) + 0), .int ((nI i) + 1)]) (st' := []) (M' := mm M f g) (ps := []) rfl trivial ?_
      have e1 : nI i + 1 = nI (i + 1) := nI_add i 1
      have e4 : ((smI (fun b => if f (ad 9 15) b = 0 then 0 else 1) i) + 0) = smI (fun b => if f (ad 9 15) b = 0 then 0 else 1) (i + 1) := (by rw [smI]; clear ih hx; grind)
      rw [e1, e4]
      exact ih
    · -- ¬ ((f (ad 9 15) i) = 0)
      refine go_blk 6 [] (pc' := 130) (vs' := [.ref (ad 10 0), .int x, .int ((smI (fun b => if f (ad 9 15) b = 0 then 0 else 1) i) + 1), .int ((nI i) + 1)]) (st' := []) (M' := mm M f g) (ps := []) rfl trivial ?_
      have e1 : nI i + 1 = nI (i + 1) := nI_add i 1
      have e4 : ((smI (fun b => if f (ad 9 15) b = 0 then 0 else 1) i) + 1) = smI (fun b => if f (ad 9 15) b = 0 then 0 else 1) (i + 1) := (by rw [smI]; clear ih hx; grind)
      rw [e1, e4]
      exact ih

