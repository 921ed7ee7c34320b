/-! openDay: the model draws a code -/
set_option maxHeartbeats 4000000 in
set_option maxRecDepth 100000 in
theorem s_Mo_drawCode {d : Nat} {M : Mem} {f : Nat → Nat → Int32} {g : Nat → Nat → Int64} {ad : Nat → Nat → Nat} {R : Option Value → Mem → Prop} {n k : Nat} {x y : Int32} (hd : 0 ≤ d) (hM : Mx M ad) (hn : f (ad 10 0) 95 = nI n) (hl : n ≤ 120) (hk : g (ad 10 0) 99 = cdS k) (hfr : ∀ i, i < n → f (ad 9 92) i = -1 ∨ ∃ b, b < 60 ∧ f (ad 9 92) i = nI b ∧ (¬ nI b = y → ¬ f (ad 9 12) b = cdV k)) (hR : R (some (.int (cdV k))) (mm M f (up2 g (ad 10 0) 99 (cdS (k + 1))))) : Call d 272 [.ref (ad 10 0), .int x, .int y] (mm M f g) R := by
  have loop : ∀ m, m ≤ n → ∀ u5 : Int32, Go d 272 0 0 53 [.ref (ad 10 0), .int x, .int y, .int (cdV k), .int 0, .int u5, .int (nI m - 1)] [] (mm M f (up2 g (ad 10 0) 99 (cdS (k + 1)))) R := by
    intro m
    induction m with
    | zero =>
      intro _ u5
      show Go d 272 0 0 53 [.ref (ad 10 0), .int x, .int y, .int (cdV k), .int 0, .int u5, .int (nI 0 - 1)] [] (mm M f (up2 g (ad 10 0) 99 (cdS (k + 1)))) R
      refine go_blk 1 [] (pc' := 55) (vs' := [.ref (ad 10 0), .int x, .int y, .int (cdV k), .int 0, .int u5, .int (nI 0 - 1)]) (st' := [.int (nI 0 - 1)]) (M' := mm M f (up2 g (ad 10 0) 99 (cdS (k + 1)))) (ps := []) rfl trivial ?_
      refine go_if rfl (fun _ => ?_) (fun (z : ¬ ((nI 0 - 1) < 0)) => absurd (show (nI 0 - 1) < 0 from (by decide)) z)
      refine go_blk 2 [] (pc' := 7) (vs' := [.ref (ad 10 0), .int x, .int y, .int (cdV k), .int 0, .int u5, .int (nI 0 - 1)]) (st' := [.int 0]) (M' := mm M f (up2 g (ad 10 0) 99 (cdS (k + 1)))) (ps := []) rfl trivial ?_
      refine go_if rfl (fun _ => ?_) (fun (z : ¬ ((0 : Int32) = 0)) => absurd (show (0 : Int32) = 0 from (by decide)) z)
      refine go_blk 1 [] (pc' := 141) (vs' := [.ref (ad 10 0), .int x, .int y, .int (cdV k), .int 0, .int u5, .int (nI 0 - 1)]) (st' := [.int (cdV k)]) (M' := mm M f (up2 g (ad 10 0) 99 (cdS (k + 1)))) (ps := []) rfl trivial ?_
      refine go_iret rfl rfl ?_
      exact hR
    | succ m ih =>
      intro hm u5
      rw [nI_pred m]
      replace ih := fun u => ih (by omega) u
      have hme : nI m + (-1) = nI m - 1 := by rw [Int32.sub_eq_add_neg]
      rcases hfr m (by omega) with h92 | ⟨b, hb, h92, h12⟩
      ·
        show Go d 272 0 0 53 [.ref (ad 10 0), .int x, .int y, .int (cdV k), .int 0, .int u5, .int (nI m)] [] (mm M f (up2 g (ad 10 0) 99 (cdS (k + 1)))) R
        refine go_blk 1 [] (pc' := 55) (vs' := [.ref (ad 10 0), .int x, .int y, .int (cdV k), .int 0, .int u5, .int (nI m)]) (st' := [.int (nI m)]) (M' := mm M f (up2 g (ad 10 0) 99 (cdS (k + 1)))) (ps := []) rfl trivial ?_
        refine go_if rfl (fun (z : (nI m) < 0) => absurd z (show ¬ ((nI m) < 0) from (nI_nlt0 (by omega)))) (fun _ => ?_)
        refine go_blk 2 [] (pc' := 61) (vs' := [.ref (ad 10 0), .int x, .int y, .int (cdV k), .int 0, .int u5, .int (nI m)]) (st' := [.int 3, .int u5]) (M' := mm M f (up2 g (ad 10 0) 99 (cdS (k + 1)))) (ps := []) rfl trivial ?_
        refine go_icmp rfl (fun (c21 : 3 ≤ u5) => ?_) (fun (c21 : ¬ (3 ≤ u5)) => ?_)
        · -- 3 ≤ u5
          refine go_blk 2 [] (pc' := 7) (vs' := [.ref (ad 10 0), .int x, .int y, .int (cdV k), .int 0, .int u5, .int (nI m)]) (st' := [.int 0]) (M' := mm M f (up2 g (ad 10 0) 99 (cdS (k + 1)))) (ps := []) rfl trivial ?_
          refine go_if rfl (fun _ => ?_) (fun (z : ¬ ((0 : Int32) = 0)) => absurd (show (0 : Int32) = 0 from (by decide)) z)
          refine go_blk 1 [] (pc' := 141) (vs' := [.ref (ad 10 0), .int x, .int y, .int (cdV k), .int 0, .int u5, .int (nI m)]) (st' := [.int (cdV k)]) (M' := mm M f (up2 g (ad 10 0) 99 (cdS (k + 1)))) (ps := []) rfl trivial ?_
          refine go_iret rfl rfl ?_
          exact hR
        · -- ¬ (3 ≤ u5)
          refine go_blk 5 [some (.ref (ad 9 91)), some (.int (f (ad 9 91) m))] (pc' := 72) (vs' := [.ref (ad 10 0), .int x, .int y, .int (cdV k), .int 0, .int u5, .int (nI m)]) (st' := [.int x, .int (f (ad 9 91) m)]) (M' := mm M f (up2 g (ad 10 0) 99 (cdS (k + 1)))) (ps := [ob (mm M f (up2 g (ad 10 0) 99 (cdS (k + 1)))) (ad 10 0) 12, mR (mm M f (up2 g (ad 10 0) 99 (cdS (k + 1)))) (ad 10 0) 91 = some (ad 9 91), va_rf (some (ad 9 91)) = .ref (ad 9 91), ob (mm M f (up2 g (ad 10 0) 99 (cdS (k + 1)))) (ad 9 91) 15, vp_in (nI m) (mN (mm M f (up2 g (ad 10 0) 99 (cdS (k + 1)))) (ad 9 91)), (Value.int (f (ad 9 91) ((nI m).toNatClampNeg))) = .int (f (ad 9 91) m)]) rfl ⟨hM.1, (hM.r 91 15 600), rfl, (hM.o 91 15 600), (vpi (hM.n 91 15 600) (by omega)), congrArg (fun z => Value.int (f (ad 9 91) z)) (nI_clamp (by omega)), trivial⟩ ?_
          refine go_icmp rfl (fun (c22 : ¬ (f (ad 9 91) m) = x) => ?_) (fun (c22 : ¬ (¬ (f (ad 9 91) m) = x)) => ?_)
          · -- ¬ (f (ad 9 91) m) = x
            refine go_blk 2 [] (pc' := 53) (vs' := [.ref (ad 10 0), .int x, .int y, .int (cdV k), .int 0, .int u5, .int ((nI m) + (-1))]) (st' := []) (M' := mm M f (up2 g (ad 10 0) 99 (cdS (k + 1)))) (ps := []) rfl trivial ?_
            rw [hme]
            exact ih _
          · -- ¬ (¬ (f (ad 9 91) m) = x)
            refine go_blk 5 [some (.ref (ad 9 92)), some (.int (-1))] (pc' := 83) (vs' := [.ref (ad 10 0), .int x, .int y, .int (cdV k), .int 0, .int u5, .int (nI m)]) (st' := [.int (-1), .int (-1)]) (M' := mm M f (up2 g (ad 10 0) 99 (cdS (k + 1)))) (ps := [ob (mm M f (up2 g (ad 10 0) 99 (cdS (k + 1)))) (ad 10 0) 12, mR (mm M f (up2 g (ad 10 0) 99 (cdS (k + 1)))) (ad 10 0) 92 = some (ad 9 92), va_rf (some (ad 9 92)) = .ref (ad 9 92), ob (mm M f (up2 g (ad 10 0) 99 (cdS (k + 1)))) (ad 9 92) 15, vp_in (nI m) (mN (mm M f (up2 g (ad 10 0) 99 (cdS (k + 1)))) (ad 9 92)), (Value.int (f (ad 9 92) ((nI m).toNatClampNeg))) = .int (-1)]) rfl ⟨hM.1, (hM.r 92 15 600), rfl, (hM.o 92 15 600), (vpi (hM.n 92 15 600) (by omega)), congrArg Value.int ((congrArg (fun z => f (ad 9 92) z) (nI_clamp (by omega))).trans h92), trivial⟩ ?_
            refine go_icmp rfl (fun _ => ?_) (fun (z : ¬ (((-1) : Int32) = (-1))) => absurd (show ((-1) : Int32) = (-1) from (by decide)) z)
            refine go_blk 2 [] (pc' := 53) (vs' := [.ref (ad 10 0), .int x, .int y, .int (cdV k), .int 0, .int u5, .int ((nI m) + (-1))]) (st' := []) (M' := mm M f (up2 g (ad 10 0) 99 (cdS (k + 1)))) (ps := []) rfl trivial ?_
            rw [hme]
            exact ih _
      ·
        show Go d 272 0 0 53 [.ref (ad 10 0), .int x, .int y, .int (cdV k), .int 0, .int u5, .int (nI m)] [] (mm M f (up2 g (ad 10 0) 99 (cdS (k + 1)))) R
        refine go_blk 1 [] (pc' := 55) (vs' := [.ref (ad 10 0), .int x, .int y, .int (cdV k), .int 0, .int u5, .int (nI m)]) (st' := [.int (nI m)]) (M' := mm M f (up2 g (ad 10 0) 99 (cdS (k + 1)))) (ps := []) rfl trivial ?_
        refine go_if rfl (fun (z : (nI m) < 0) => absurd z (show ¬ ((nI m) < 0) from (nI_nlt0 (by omega)))) (fun _ => ?_)
        refine go_blk 2 [] (pc' := 61) (vs' := [.ref (ad 10 0), .int x, .int y, .int (cdV k), .int 0, .int u5, .int (nI m)]) (st' := [.int 3, .int u5]) (M' := mm M f (up2 g (ad 10 0) 99 (cdS (k + 1)))) (ps := []) rfl trivial ?_
        refine go_icmp rfl (fun (c21 : 3 ≤ u5) => ?_) (fun (c21 : ¬ (3 ≤ u5)) => ?_)
        · -- 3 ≤ u5
          refine go_blk 2 [] (pc' := 7) (vs' := [.ref (ad 10 0), .int x, .int y, .int (cdV k), .int 0, .int u5, .int (nI m)]) (st' := [.int 0]) (M' := mm M f (up2 g (ad 10 0) 99 (cdS (k + 1)))) (ps := []) rfl trivial ?_
          refine go_if rfl (fun _ => ?_) (fun (z : ¬ ((0 : Int32) = 0)) => absurd (show (0 : Int32) = 0 from (by decide)) z)
          refine go_blk 1 [] (pc' := 141) (vs' := [.ref (ad 10 0), .int x, .int y, .int (cdV k), .int 0, .int u5, .int (nI m)]) (st' := [.int (cdV k)]) (M' := mm M f (up2 g (ad 10 0) 99 (cdS (k + 1)))) (ps := []) rfl trivial ?_
          refine go_iret rfl rfl ?_
          exact hR
        · -- ¬ (3 ≤ u5)
          refine go_blk 5 [some (.ref (ad 9 91)), some (.int (f (ad 9 91) m))] (pc' := 72) (vs' := [.ref (ad 10 0), .int x, .int y, .int (cdV k), .int 0, .int u5, .int (nI m)]) (st' := [.int x, .int (f (ad 9 91) m)]) (M' := mm M f (up2 g (ad 10 0) 99 (cdS (k + 1)))) (ps := [ob (mm M f (up2 g (ad 10 0) 99 (cdS (k + 1)))) (ad 10 0) 12, mR (mm M f (up2 g (ad 10 0) 99 (cdS (k + 1)))) (ad 10 0) 91 = some (ad 9 91), va_rf (some (ad 9 91)) = .ref (ad 9 91), ob (mm M f (up2 g (ad 10 0) 99 (cdS (k + 1)))) (ad 9 91) 15, vp_in (nI m) (mN (mm M f (up2 g (ad 10 0) 99 (cdS (k + 1)))) (ad 9 91)), (Value.int (f (ad 9 91) ((nI m).toNatClampNeg))) = .int (f (ad 9 91) m)]) rfl ⟨hM.1, (hM.r 91 15 600), rfl, (hM.o 91 15 600), (vpi (hM.n 91 15 600) (by omega)), congrArg (fun z => Value.int (f (ad 9 91) z)) (nI_clamp (by omega)), trivial⟩ ?_
          refine go_icmp rfl (fun (c22 : ¬ (f (ad 9 91) m) = x) => ?_) (fun (c22 : ¬ (¬ (f (ad 9 91) m) = x)) => ?_)
          · -- ¬ (f (ad 9 91) m) = x
            refine go_blk 2 [] (pc' := 53) (vs' := [.ref (ad 10 0), .int x, .int y, .int (cdV k), .int 0, .int u5, .int ((nI m) + (-1))]) (st' := []) (M' := mm M f (up2 g (ad 10 0) 99 (cdS (k + 1)))) (ps := []) rfl trivial ?_
            rw [hme]
            exact ih _
          · -- ¬ (¬ (f (ad 9 91) m) = x)
            refine go_blk 5 [some (.ref (ad 9 92)), some (.int (nI b))] (pc' := 83) (vs' := [.ref (ad 10 0), .int x, .int y, .int (cdV k), .int 0, .int u5, .int (nI m)]) (st' := [.int (-1), .int (nI b)]) (M' := mm M f (up2 g (ad 10 0) 99 (cdS (k + 1)))) (ps := [ob (mm M f (up2 g (ad 10 0) 99 (cdS (k + 1)))) (ad 10 0) 12, mR (mm M f (up2 g (ad 10 0) 99 (cdS (k + 1)))) (ad 10 0) 92 = some (ad 9 92), va_rf (some (ad 9 92)) = .ref (ad 9 92), ob (mm M f (up2 g (ad 10 0) 99 (cdS (k + 1)))) (ad 9 92) 15, vp_in (nI m) (mN (mm M f (up2 g (ad 10 0) 99 (cdS (k + 1)))) (ad 9 92)), (Value.int (f (ad 9 92) ((nI m).toNatClampNeg))) = .int (nI b)]) rfl ⟨hM.1, (hM.r 92 15 600), rfl, (hM.o 92 15 600), (vpi (hM.n 92 15 600) (by omega)), congrArg Value.int ((congrArg (fun z => f (ad 9 92) z) (nI_clamp (by omega))).trans h92), trivial⟩ ?_
            refine go_icmp rfl (fun (c23 : (nI b) = (-1)) => ?_) (fun (c23 : ¬ ((nI b) = (-1))) => ?_)
            · -- (nI b) = (-1)
              refine go_blk 2 [] (pc' := 53) (vs' := [.ref (ad 10 0), .int x, .int y, .int (cdV k), .int 0, .int u5, .int ((nI m) + (-1))]) (st' := []) (M' := mm M f (up2 g (ad 10 0) 99 (cdS (k + 1)))) (ps := []) rfl trivial ?_
              rw [hme]
              exact ih _
            · -- ¬ ((nI b) = (-1))
              refine go_blk 5 [some (.ref (ad 9 92)), some (.int (nI b))] (pc' := 94) (vs' := [.ref (ad 10 0), .int x, .int y, .int (cdV k), .int 0, .int u5, .int (nI m)]) (st' := [.int y, .int (nI b)]) (M' := mm M f (up2 g (ad 10 0) 99 (cdS (k + 1)))) (ps := [ob (mm M f (up2 g (ad 10 0) 99 (cdS (k + 1)))) (ad 10 0) 12, mR (mm M f (up2 g (ad 10 0) 99 (cdS (k + 1)))) (ad 10 0) 92 = some (ad 9 92), va_rf (some (ad 9 92)) = .ref (ad 9 92), ob (mm M f (up2 g (ad 10 0) 99 (cdS (k + 1)))) (ad 9 92) 15, vp_in (nI m) (mN (mm M f (up2 g (ad 10 0) 99 (cdS (k + 1)))) (ad 9 92)), (Value.int (f (ad 9 92) ((nI m).toNatClampNeg))) = .int (nI b)]) rfl ⟨hM.1, (hM.r 92 15 600), rfl, (hM.o 92 15 600), (vpi (hM.n 92 15 600) (by omega)), congrArg Value.int ((congrArg (fun z => f (ad 9 92) z) (nI_clamp (by omega))).trans h92), trivial⟩ ?_
              refine go_icmp rfl (fun (c24 : ¬ (nI b) = y) => ?_) (fun (c24 : ¬ (¬ (nI b) = y)) => ?_)
              · -- ¬ (nI b) = y
                refine go_blk 1 [] (pc' := 102) (vs' := [.ref (ad 10 0), .int x, .int y, .int (cdV k), .int 0, .int u5, .int (nI m)]) (st' := [.int 0]) (M' := mm M f (up2 g (ad 10 0) 99 (cdS (k + 1)))) (ps := []) rfl trivial ?_
                refine go_if rfl (fun (z : ¬ (0 : Int32) = 0) => absurd z (show ¬ (¬ (0 : Int32) = 0) from (by decide))) (fun _ => ?_)
                refine go_blk 8 [some (.ref (ad 9 12)), some (.ref (ad 9 92)), some (.int (nI b)), some (.int (f (ad 9 12) b))] (pc' := 118) (vs' := [.ref (ad 10 0), .int x, .int y, .int (cdV k), .int 0, .int u5, .int (nI m)]) (st' := [.int (cdV k), .int (f (ad 9 12) b)]) (M' := mm M f (up2 g (ad 10 0) 99 (cdS (k + 1)))) (ps := [ob (mm M f (up2 g (ad 10 0) 99 (cdS (k + 1)))) (ad 10 0) 12, mR (mm M f (up2 g (ad 10 0) 99 (cdS (k + 1)))) (ad 10 0) 12 = some (ad 9 12), va_rf (some (ad 9 12)) = .ref (ad 9 12), ob (mm M f (up2 g (ad 10 0) 99 (cdS (k + 1)))) (ad 10 0) 12, mR (mm M f (up2 g (ad 10 0) 99 (cdS (k + 1)))) (ad 10 0) 92 = some (ad 9 92), va_rf (some (ad 9 92)) = .ref (ad 9 92), ob (mm M f (up2 g (ad 10 0) 99 (cdS (k + 1)))) (ad 9 92) 15, vp_in (nI m) (mN (mm M f (up2 g (ad 10 0) 99 (cdS (k + 1)))) (ad 9 92)), (Value.int (f (ad 9 92) ((nI m).toNatClampNeg))) = .int (nI b), ob (mm M f (up2 g (ad 10 0) 99 (cdS (k + 1)))) (ad 9 12) 15, vp_in (nI b) (mN (mm M f (up2 g (ad 10 0) 99 (cdS (k + 1)))) (ad 9 12)), (Value.int (f (ad 9 12) ((nI b).toNatClampNeg))) = .int (f (ad 9 12) b)]) rfl ⟨hM.1, (hM.r 12 15 60), rfl, hM.1, (hM.r 92 15 600), rfl, (hM.o 92 15 600), (vpi (hM.n 92 15 600) (by omega)), congrArg Value.int ((congrArg (fun z => f (ad 9 92) z) (nI_clamp (by omega))).trans h92), (hM.o 12 15 60), (vpi (hM.n 12 15 60) (by omega)), congrArg (fun z => Value.int (f (ad 9 12) z)) (nI_clamp (by omega)), trivial⟩ ?_
                refine go_icmp rfl (fun _ => ?_) (fun (z : ¬ (¬ (f (ad 9 12) b) = cdV k)) => absurd (show ¬ (f (ad 9 12) b) = cdV k from (h12 (by assumption))) z)
                refine go_blk 5 [] (pc' := 53) (vs' := [.ref (ad 10 0), .int x, .int y, .int (cdV k), .int 0, .int (u5 + 1), .int ((nI m) + (-1))]) (st' := []) (M' := mm M f (up2 g (ad 10 0) 99 (cdS (k + 1)))) (ps := []) rfl trivial ?_
                rw [hme]
                exact ih _
              · -- ¬ (¬ (nI b) = y)
                refine go_blk 3 [] (pc' := 53) (vs' := [.ref (ad 10 0), .int x, .int y, .int (cdV k), .int 0, .int u5, .int ((nI m) + (-1))]) (st' := []) (M' := mm M f (up2 g (ad 10 0) 99 (cdS (k + 1)))) (ps := []) rfl trivial ?_
                rw [hme]
                exact ih _
  show Go d 272 0 0 0 [.ref (ad 10 0), .int x, .int y, .retAddr 0, .retAddr 0, .retAddr 0, .retAddr 0] [] (mm M f g) R
  refine go_blk 5 [] (pc' := 7) (vs' := [.ref (ad 10 0), .int x, .int y, .int 0, .int 1, .retAddr 0, .retAddr 0]) (st' := [.int 1]) (M' := mm M f g) (ps := []) rfl trivial ?_
  refine go_if rfl (fun (z : (1 : Int32) = 0) => absurd z (show ¬ ((1 : Int32) = 0) from (by decide))) (fun _ => ?_)
  refine go_blk 15 [] (pc' := 38) (vs' := [.ref (ad 10 0), .int x, .int y, .int 0, .int 1, .retAddr 0, .retAddr 0]) (st' := [.int ((((((up2 g (ad 10 0) 99 (((g (ad 10 0) 99) * 6364136223846793005) + 1442695040888963407)) (ad 10 0) 99).toUInt64 >>> ((33 : Int32).toInt64.toUInt64 &&& Int64.toUInt64 63)).toInt64) - ((((up2 g (ad 10 0) 99 (((g (ad 10 0) 99) * 6364136223846793005) + 1442695040888963407)) (ad 10 0) 99).toUInt64 >>> ((33 : Int32).toInt64.toUInt64 &&& Int64.toUInt64 63)).toInt64) / 10000 * 10000).toInt32)]) (M' := mm M f (up2 g (ad 10 0) 99 (((g (ad 10 0) 99) * 6364136223846793005) + 1442695040888963407))) (ps := [ob (mm M f g) (ad 10 0) 12, ob (mm M f g) (ad 10 0) 12, ob (mm M f (up2 g (ad 10 0) 99 (((g (ad 10 0) 99) * 6364136223846793005) + 1442695040888963407))) (ad 10 0) 12, ¬ 10000 = 0]) rfl ⟨hM.1, hM.1, hM.1, (by decide), trivial⟩ ?_
  rw [up2_s, hk, show ((cdS k * 6364136223846793005) + 1442695040888963407) = cdS (k + 1) by rw [cdS]]
  rw [show ((((cdS (k + 1)).toUInt64 >>> ((33 : Int32).toInt64.toUInt64 &&& Int64.toUInt64 63)).toInt64) - (((cdS (k + 1)).toUInt64 >>> ((33 : Int32).toInt64.toUInt64 &&& Int64.toUInt64 63)).toInt64) / 10000 * 10000).toInt32 = cdV k from rfl]
  show Go d 272 0 0 38 [.ref (ad 10 0), .int x, .int y, .int 0, .int 1, .retAddr 0, .retAddr 0] [.int (cdV k)] (mm M f (up2 g (ad 10 0) 99 (cdS (k + 1)))) R
  show Go d 272 0 0 38 [.ref (ad 10 0), .int x, .int y, .int 0, .int 1, .retAddr 0, .retAddr 0] [.int (cdV k)] (mm M f (up2 g (ad 10 0) 99 (cdS (k + 1)))) R
  refine go_blk 10 [some (.int (nI n))] (pc' := 53) (vs' := [.ref (ad 10 0), .int x, .int y, .int (cdV k), .int 0, .int 0, .int ((nI n) - 1)]) (st' := []) (M' := mm M f (up2 g (ad 10 0) 99 (cdS (k + 1)))) (ps := [ob (mm M f (up2 g (ad 10 0) 99 (cdS (k + 1)))) (ad 10 0) 12, (Value.int (f (ad 10 0) 95)) = .int (nI n)]) rfl ⟨hM.1, congrArg Value.int hn, trivial⟩ ?_
  exact loop n (Nat.le_refl _) 0

