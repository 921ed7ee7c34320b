/-! the law: one theorem a case, then its loop -/
set_option maxRecDepth 100000 in
theorem law_0 {I : Mem → Prop} {x o u b L t r : Nat} {xs : Nat → Int32} {x5 x6 : Value} {M : Mem} (hI : IOk I x o u (b, L, xs)) (hops : Ops I x o u) (hL : L ≤ 3072) (hin : 6 * t + 6 ≤ L ∧ L ≤ 3072) (hM : I M) (ih : ∀ (M2 : Mem) (x5 x6 : Value), I M2 → Go 1312 277 (100 * r) (1000 * r) 1834 [.ref b, .ref x, .ref o, .ref u, .int (nI (6 * t)), x5, x6] [] M2 (fun v _ => v = some (.int 1))) : Go 1312 277 (100 * (r + 1)) (1000 * (r + 1)) 228 [.ref b, .ref x, .ref o, .ref u, .int (nI (6 * t)), x5, x6] [] M (fun v _ => v = some (.int 1)) := by
  obtain ⟨hx, ho, hu, hu1, hs⟩ := hI M hM
  show Go 1312 277 _ _ 228 [.ref b, .ref x, .ref o, .ref u, .int (nI (6 * t)), x5, x6] [] M (fun v _ => v = some (.int 1))
  refine go_blk 11 [some (.int (xs (6 * t + 1))), some (.int (xs (6 * t + 2)))] (pc' := 241) (vs' := [.ref b, .ref x, .ref o, .ref u, .int (nI (6 * t)), x5, x6]) (st' := [.int (xs (6 * t + 2)), .int (xs (6 * t + 1)), .ref x]) (M' := M) (ps := [b = mSb M, vp_in ((nI (6 * t)) + 1) (mSl M), (Value.int (mSx M ((nI (6 * t)) + 1).toNatClampNeg)) = .int (xs (6 * t + 1)), b = mSb M, vp_in ((nI (6 * t)) + 2) (mSl M), (Value.int (mSx M ((nI (6 * t)) + 2).toNatClampNeg)) = .int (xs (6 * t + 2))]) rfl ⟨(sc_b hs), (sc_v1 hs hin), congrArg Value.int (sc_x1 hs hin hL), (sc_b hs), (sc_v2 hs hin), congrArg Value.int (sc_x2 hs hin hL), trivial⟩ ?_
  refine go_if rfl (fun (c1 : (xs (6 * t + 2)) = 0) => ?_) (fun (c1 : ¬ ((xs (6 * t + 2)) = 0)) => ?_)
  · -- (xs (6 * t + 2)) = 0
    refine go_blk 11 [some (.int (xs (6 * t + 3))), some (.int (xs (6 * t + 4)))] (pc' := 261) (vs' := [.ref b, .ref x, .ref o, .ref u, .int (nI (6 * t)), x5, x6]) (st' := [.int (xs (6 * t + 4)), .int (xs (6 * t + 3)), .int 0, .int (xs (6 * t + 1)), .ref x]) (M' := M) (ps := [b = mSb M, vp_in ((nI (6 * t)) + 3) (mSl M), (Value.int (mSx M ((nI (6 * t)) + 3).toNatClampNeg)) = .int (xs (6 * t + 3)), b = mSb M, vp_in ((nI (6 * t)) + 4) (mSl M), (Value.int (mSx M ((nI (6 * t)) + 4).toNatClampNeg)) = .int (xs (6 * t + 4))]) rfl ⟨(sc_b hs), (sc_v3 hs hin), congrArg Value.int (sc_x3 hs hin hL), (sc_b hs), (sc_v4 hs hin), congrArg Value.int (sc_x4 hs hin hL), trivial⟩ ?_
    refine go_callV rfl rfl rfl (by decide) rfl (show 0 + pMc (tbl 116) ≤ _ by show 1 ≤ 100 * (r + 1); omega) (show 0 + pMs (tbl 116) ≤ _ by show 8 ≤ 1000 * (r + 1); omega) hx ?_
    refine hops.1 M _ _ _ _ hM (by decide) _ (fun r1 M1 ho1 hs1 hcap => ⟨ne_i, ?_⟩)
    show Go 1312 277 _ _ 264 [.ref b, .ref x, .ref o, .ref u, .int (nI (6 * t)), x5, x6] [.int r1] M1 (fun v _ => v = some (.int 1))
    refine go_blk 11 [some (.int (xs (6 * t + 1))), some (.int (xs (6 * t + 2)))] (pc' := 277) (vs' := [.ref b, .ref x, .ref o, .ref u, .int (nI (6 * t)), x5, x6]) (st' := [.int (xs (6 * t + 2)), .int (xs (6 * t + 1)), .ref o, .int r1]) (M' := M1) (ps := [b = mSb M1, vp_in ((nI (6 * t)) + 1) (mSl M1), (Value.int (mSx M1 ((nI (6 * t)) + 1).toNatClampNeg)) = .int (xs (6 * t + 1)), b = mSb M1, vp_in ((nI (6 * t)) + 2) (mSl M1), (Value.int (mSx M1 ((nI (6 * t)) + 2).toNatClampNeg)) = .int (xs (6 * t + 2))]) rfl ⟨(sc_b (show mSc _ = _ from hs1.trans hs)), (sc_v1 (show mSc _ = _ from hs1.trans hs) hin), congrArg Value.int (sc_x1 (show mSc _ = _ from hs1.trans hs) hin hL), (sc_b (show mSc _ = _ from hs1.trans hs)), (sc_v2 (show mSc _ = _ from hs1.trans hs) hin), congrArg Value.int (sc_x2 (show mSc _ = _ from hs1.trans hs) hin hL), trivial⟩ ?_
    refine go_if rfl (fun _ => ?_) (fun (z : ¬ ((xs (6 * t + 2)) = 0)) => absurd (show (xs (6 * t + 2)) = 0 from c1) z)
    refine go_blk 11 [some (.int (xs (6 * t + 3))), some (.int (xs (6 * t + 4)))] (pc' := 297) (vs' := [.ref b, .ref x, .ref o, .ref u, .int (nI (6 * t)), x5, x6]) (st' := [.int (xs (6 * t + 4)), .int (xs (6 * t + 3)), .int 0, .int (xs (6 * t + 1)), .ref o, .int r1]) (M' := M1) (ps := [b = mSb M1, vp_in ((nI (6 * t)) + 3) (mSl M1), (Value.int (mSx M1 ((nI (6 * t)) + 3).toNatClampNeg)) = .int (xs (6 * t + 3)), b = mSb M1, vp_in ((nI (6 * t)) + 4) (mSl M1), (Value.int (mSx M1 ((nI (6 * t)) + 4).toNatClampNeg)) = .int (xs (6 * t + 4))]) rfl ⟨(sc_b (show mSc _ = _ from hs1.trans hs)), (sc_v3 (show mSc _ = _ from hs1.trans hs) hin), congrArg Value.int (sc_x3 (show mSc _ = _ from hs1.trans hs) hin hL), (sc_b (show mSc _ = _ from hs1.trans hs)), (sc_v4 (show mSc _ = _ from hs1.trans hs) hin), congrArg Value.int (sc_x4 (show mSc _ = _ from hs1.trans hs) hin hL), trivial⟩ ?_
    refine go_callV rfl rfl rfl (by decide) rfl (Nat.zero_le _) (Nat.zero_le _) ho1 ?_
    refine hcap _ (fun M2 hM2 => ⟨ne_i, ?_⟩)
    show Go 1312 277 _ _ 300 [.ref b, .ref x, .ref o, .ref u, .int (nI (6 * t)), x5, x6] [.int r1, .int r1] M2 (fun v _ => v = some (.int 1))
    refine go_icmp rfl (fun _ => ?_) (fun (z : ¬ (r1 = r1)) => absurd (show r1 = r1 from rfl) z)
    exact Go.mono (ih M2 (x5) (x6) hM2) (Nat.le_refl _) (show 100 * r ≤ 100 * (r + 1) - 1 - 0 by omega) (show 1000 * r ≤ 1000 * (r + 1) - 8 - 0 by omega) (fun _ _ q => q)
  · -- ¬ ((xs (6 * t + 2)) = 0)
    refine go_blk 12 [some (.int (xs (6 * t + 3))), some (.int (xs (6 * t + 4)))] (pc' := 261) (vs' := [.ref b, .ref x, .ref o, .ref u, .int (nI (6 * t)), x5, x6]) (st' := [.int (xs (6 * t + 4)), .int (xs (6 * t + 3)), .int 1, .int (xs (6 * t + 1)), .ref x]) (M' := M) (ps := [b = mSb M, vp_in ((nI (6 * t)) + 3) (mSl M), (Value.int (mSx M ((nI (6 * t)) + 3).toNatClampNeg)) = .int (xs (6 * t + 3)), b = mSb M, vp_in ((nI (6 * t)) + 4) (mSl M), (Value.int (mSx M ((nI (6 * t)) + 4).toNatClampNeg)) = .int (xs (6 * t + 4))]) rfl ⟨(sc_b hs), (sc_v3 hs hin), congrArg Value.int (sc_x3 hs hin hL), (sc_b hs), (sc_v4 hs hin), congrArg Value.int (sc_x4 hs hin hL), trivial⟩ ?_
    refine go_callV rfl rfl rfl (by decide) rfl (show 0 + pMc (tbl 116) ≤ _ by show 1 ≤ 100 * (r + 1); omega) (show 0 + pMs (tbl 116) ≤ _ by show 8 ≤ 1000 * (r + 1); omega) hx ?_
    refine hops.1 M _ _ _ _ hM (by decide) _ (fun r1 M1 ho1 hs1 hcap => ⟨ne_i, ?_⟩)
    show Go 1312 277 _ _ 264 [.ref b, .ref x, .ref o, .ref u, .int (nI (6 * t)), x5, x6] [.int r1] M1 (fun v _ => v = some (.int 1))
    refine go_blk 11 [some (.int (xs (6 * t + 1))), some (.int (xs (6 * t + 2)))] (pc' := 277) (vs' := [.ref b, .ref x, .ref o, .ref u, .int (nI (6 * t)), x5, x6]) (st' := [.int (xs (6 * t + 2)), .int (xs (6 * t + 1)), .ref o, .int r1]) (M' := M1) (ps := [b = mSb M1, vp_in ((nI (6 * t)) + 1) (mSl M1), (Value.int (mSx M1 ((nI (6 * t)) + 1).toNatClampNeg)) = .int (xs (6 * t + 1)), b = mSb M1, vp_in ((nI (6 * t)) + 2) (mSl M1), (Value.int (mSx M1 ((nI (6 * t)) + 2).toNatClampNeg)) = .int (xs (6 * t + 2))]) rfl ⟨(sc_b (show mSc _ = _ from hs1.trans hs)), (sc_v1 (show mSc _ = _ from hs1.trans hs) hin), congrArg Value.int (sc_x1 (show mSc _ = _ from hs1.trans hs) hin hL), (sc_b (show mSc _ = _ from hs1.trans hs)), (sc_v2 (show mSc _ = _ from hs1.trans hs) hin), congrArg Value.int (sc_x2 (show mSc _ = _ from hs1.trans hs) hin hL), trivial⟩ ?_
    refine go_if rfl (fun (z : (xs (6 * t + 2)) = 0) => absurd z (show ¬ ((xs (6 * t + 2)) = 0) from c1)) (fun _ => ?_)
    refine go_blk 12 [some (.int (xs (6 * t + 3))), some (.int (xs (6 * t + 4)))] (pc' := 297) (vs' := [.ref b, .ref x, .ref o, .ref u, .int (nI (6 * t)), x5, x6]) (st' := [.int (xs (6 * t + 4)), .int (xs (6 * t + 3)), .int 1, .int (xs (6 * t + 1)), .ref o, .int r1]) (M' := M1) (ps := [b = mSb M1, vp_in ((nI (6 * t)) + 3) (mSl M1), (Value.int (mSx M1 ((nI (6 * t)) + 3).toNatClampNeg)) = .int (xs (6 * t + 3)), b = mSb M1, vp_in ((nI (6 * t)) + 4) (mSl M1), (Value.int (mSx M1 ((nI (6 * t)) + 4).toNatClampNeg)) = .int (xs (6 * t + 4))]) rfl ⟨(sc_b (show mSc _ = _ from hs1.trans hs)), (sc_v3 (show mSc _ = _ from hs1.trans hs) hin), congrArg Value.int (sc_x3 (show mSc _ = _ from hs1.trans hs) hin hL), (sc_b (show mSc _ = _ from hs1.trans hs)), (sc_v4 (show mSc _ = _ from hs1.trans hs) hin), congrArg Value.int (sc_x4 (show mSc _ = _ from hs1.trans hs) hin hL), trivial⟩ ?_
    refine go_callV rfl rfl rfl (by decide) rfl (Nat.zero_le _) (Nat.zero_le _) ho1 ?_
    refine hcap _ (fun M2 hM2 => ⟨ne_i, ?_⟩)
    show Go 1312 277 _ _ 300 [.ref b, .ref x, .ref o, .ref u, .int (nI (6 * t)), x5, x6] [.int r1, .int r1] M2 (fun v _ => v = some (.int 1))
    refine go_icmp rfl (fun _ => ?_) (fun (z : ¬ (r1 = r1)) => absurd (show r1 = r1 from rfl) z)
    exact Go.mono (ih M2 (x5) (x6) hM2) (Nat.le_refl _) (show 100 * r ≤ 100 * (r + 1) - 1 - 0 by omega) (show 1000 * r ≤ 1000 * (r + 1) - 8 - 0 by omega) (fun _ _ q => q)

set_option maxRecDepth 100000 in
theorem law_1 {I : Mem → Prop} {x o u b L t r : Nat} {xs : Nat → Int32} {x5 x6 : Value} {M : Mem} (hI : IOk I x o u (b, L, xs)) (hops : Ops I x o u) (hL : L ≤ 3072) (hin : 6 * t + 6 ≤ L ∧ L ≤ 3072) (hM : I M) (ih : ∀ (M2 : Mem) (x5 x6 : Value), I M2 → Go 1312 277 (100 * r) (1000 * r) 1834 [.ref b, .ref x, .ref o, .ref u, .int (nI (6 * t)), x5, x6] [] M2 (fun v _ => v = some (.int 1))) : Go 1312 277 (100 * (r + 1)) (1000 * (r + 1)) 305 [.ref b, .ref x, .ref o, .ref u, .int (nI (6 * t)), x5, x6] [] M (fun v _ => v = some (.int 1)) := by
  obtain ⟨hx, ho, hu, hu1, hs⟩ := hI M hM
  show Go 1312 277 _ _ 305 [.ref b, .ref x, .ref o, .ref u, .int (nI (6 * t)), x5, x6] [] M (fun v _ => v = some (.int 1))
  refine go_blk 11 [some (.int (xs (6 * t + 1))), some (.int (xs (6 * t + 2)))] (pc' := 318) (vs' := [.ref b, .ref x, .ref o, .ref u, .int (nI (6 * t)), x5, x6]) (st' := [.int (xs (6 * t + 2)), .int (xs (6 * t + 1)), .ref x]) (M' := M) (ps := [b = mSb M, vp_in ((nI (6 * t)) + 1) (mSl M), (Value.int (mSx M ((nI (6 * t)) + 1).toNatClampNeg)) = .int (xs (6 * t + 1)), b = mSb M, vp_in ((nI (6 * t)) + 2) (mSl M), (Value.int (mSx M ((nI (6 * t)) + 2).toNatClampNeg)) = .int (xs (6 * t + 2))]) rfl ⟨(sc_b hs), (sc_v1 hs hin), congrArg Value.int (sc_x1 hs hin hL), (sc_b hs), (sc_v2 hs hin), congrArg Value.int (sc_x2 hs hin hL), trivial⟩ ?_
  refine go_callV rfl rfl rfl (by decide) rfl (show 0 + pMc (tbl 117) ≤ _ by show 0 ≤ 100 * (r + 1); omega) (show 0 + pMs (tbl 117) ≤ _ by show 0 ≤ 1000 * (r + 1); omega) hx ?_
  refine hops.2.1 M _ _ hM _ (fun r1 M1 ho1 hs1 hcap => ⟨ne_i, ?_⟩)
  show Go 1312 277 _ _ 321 [.ref b, .ref x, .ref o, .ref u, .int (nI (6 * t)), x5, x6] [.int r1] M1 (fun v _ => v = some (.int 1))
  refine go_blk 11 [some (.int (xs (6 * t + 1))), some (.int (xs (6 * t + 2)))] (pc' := 334) (vs' := [.ref b, .ref x, .ref o, .ref u, .int (nI (6 * t)), x5, x6]) (st' := [.int (xs (6 * t + 2)), .int (xs (6 * t + 1)), .ref o, .int r1]) (M' := M1) (ps := [b = mSb M1, vp_in ((nI (6 * t)) + 1) (mSl M1), (Value.int (mSx M1 ((nI (6 * t)) + 1).toNatClampNeg)) = .int (xs (6 * t + 1)), b = mSb M1, vp_in ((nI (6 * t)) + 2) (mSl M1), (Value.int (mSx M1 ((nI (6 * t)) + 2).toNatClampNeg)) = .int (xs (6 * t + 2))]) rfl ⟨(sc_b (show mSc _ = _ from hs1.trans hs)), (sc_v1 (show mSc _ = _ from hs1.trans hs) hin), congrArg Value.int (sc_x1 (show mSc _ = _ from hs1.trans hs) hin hL), (sc_b (show mSc _ = _ from hs1.trans hs)), (sc_v2 (show mSc _ = _ from hs1.trans hs) hin), congrArg Value.int (sc_x2 (show mSc _ = _ from hs1.trans hs) hin hL), trivial⟩ ?_
  refine go_callV rfl rfl rfl (by decide) rfl (Nat.zero_le _) (Nat.zero_le _) ho1 ?_
  refine hcap _ (fun M2 hM2 => ⟨ne_i, ?_⟩)
  show Go 1312 277 _ _ 337 [.ref b, .ref x, .ref o, .ref u, .int (nI (6 * t)), x5, x6] [.int r1, .int r1] M2 (fun v _ => v = some (.int 1))
  refine go_icmp rfl (fun _ => ?_) (fun (z : ¬ (r1 = r1)) => absurd (show r1 = r1 from rfl) z)
  exact Go.mono (ih M2 (x5) (x6) hM2) (Nat.le_refl _) (show 100 * r ≤ 100 * (r + 1) - 0 - 0 by omega) (show 1000 * r ≤ 1000 * (r + 1) - 0 - 0 by omega) (fun _ _ q => q)

set_option maxRecDepth 100000 in
theorem law_2 {I : Mem → Prop} {x o u b L t r : Nat} {xs : Nat → Int32} {x5 x6 : Value} {M : Mem} (hI : IOk I x o u (b, L, xs)) (hops : Ops I x o u) (hL : L ≤ 3072) (hin : 6 * t + 6 ≤ L ∧ L ≤ 3072) (hM : I M) (ih : ∀ (M2 : Mem) (x5 x6 : Value), I M2 → Go 1312 277 (100 * r) (1000 * r) 1834 [.ref b, .ref x, .ref o, .ref u, .int (nI (6 * t)), x5, x6] [] M2 (fun v _ => v = some (.int 1))) : Go 1312 277 (100 * (r + 1)) (1000 * (r + 1)) 342 [.ref b, .ref x, .ref o, .ref u, .int (nI (6 * t)), x5, x6] [] M (fun v _ => v = some (.int 1)) := by
  obtain ⟨hx, ho, hu, hu1, hs⟩ := hI M hM
  show Go 1312 277 _ _ 342 [.ref b, .ref x, .ref o, .ref u, .int (nI (6 * t)), x5, x6] [] M (fun v _ => v = some (.int 1))
  refine go_blk 21 [some (.int (xs (6 * t + 1))), some (.int (xs (6 * t + 2))), some (.int (xs (6 * t + 3))), some (.int (xs (6 * t + 4)))] (pc' := 367) (vs' := [.ref b, .ref x, .ref o, .ref u, .int (nI (6 * t)), x5, x6]) (st' := [.int (xs (6 * t + 4)), .int (xs (6 * t + 3)), .int (xs (6 * t + 2)), .int (xs (6 * t + 1)), .ref x]) (M' := M) (ps := [b = mSb M, vp_in ((nI (6 * t)) + 1) (mSl M), (Value.int (mSx M ((nI (6 * t)) + 1).toNatClampNeg)) = .int (xs (6 * t + 1)), b = mSb M, vp_in ((nI (6 * t)) + 2) (mSl M), (Value.int (mSx M ((nI (6 * t)) + 2).toNatClampNeg)) = .int (xs (6 * t + 2)), b = mSb M, vp_in ((nI (6 * t)) + 3) (mSl M), (Value.int (mSx M ((nI (6 * t)) + 3).toNatClampNeg)) = .int (xs (6 * t + 3)), b = mSb M, vp_in ((nI (6 * t)) + 4) (mSl M), (Value.int (mSx M ((nI (6 * t)) + 4).toNatClampNeg)) = .int (xs (6 * t + 4))]) rfl ⟨(sc_b hs), (sc_v1 hs hin), congrArg Value.int (sc_x1 hs hin hL), (sc_b hs), (sc_v2 hs hin), congrArg Value.int (sc_x2 hs hin hL), (sc_b hs), (sc_v3 hs hin), congrArg Value.int (sc_x3 hs hin hL), (sc_b hs), (sc_v4 hs hin), congrArg Value.int (sc_x4 hs hin hL), trivial⟩ ?_
  refine go_if rfl (fun (c1 : (xs (6 * t + 4)) = 0) => ?_) (fun (c1 : ¬ ((xs (6 * t + 4)) = 0)) => ?_)
  · -- (xs (6 * t + 4)) = 0
    refine go_blk 6 [some (.int (xs (6 * t + 5)))] (pc' := 381) (vs' := [.ref b, .ref x, .ref o, .ref u, .int (nI (6 * t)), x5, x6]) (st' := [.int (xs (6 * t + 5)), .int 0, .int (xs (6 * t + 3)), .int (xs (6 * t + 2)), .int (xs (6 * t + 1)), .ref x]) (M' := M) (ps := [b = mSb M, vp_in ((nI (6 * t)) + 5) (mSl M), (Value.int (mSx M ((nI (6 * t)) + 5).toNatClampNeg)) = .int (xs (6 * t + 5))]) rfl ⟨(sc_b hs), (sc_v5 hs hin), congrArg Value.int (sc_x5 hs hin hL), trivial⟩ ?_
    refine go_callV rfl rfl rfl (by decide) rfl (show 0 + pMc (tbl 118) ≤ _ by show 1 ≤ 100 * (r + 1); omega) (show 0 + pMs (tbl 118) ≤ _ by show 13 ≤ 1000 * (r + 1); omega) hx ?_
    refine hops.2.2.1 M _ _ _ _ _ hM (by decide) _ (fun r1 M1 ho1 hs1 hcap => ⟨ne_i, ?_⟩)
    show Go 1312 277 _ _ 384 [.ref b, .ref x, .ref o, .ref u, .int (nI (6 * t)), x5, x6] [.int r1] M1 (fun v _ => v = some (.int 1))
    refine go_blk 21 [some (.int (xs (6 * t + 1))), some (.int (xs (6 * t + 2))), some (.int (xs (6 * t + 3))), some (.int (xs (6 * t + 4)))] (pc' := 409) (vs' := [.ref b, .ref x, .ref o, .ref u, .int (nI (6 * t)), x5, x6]) (st' := [.int (xs (6 * t + 4)), .int (xs (6 * t + 3)), .int (xs (6 * t + 2)), .int (xs (6 * t + 1)), .ref o, .int r1]) (M' := M1) (ps := [b = mSb M1, vp_in ((nI (6 * t)) + 1) (mSl M1), (Value.int (mSx M1 ((nI (6 * t)) + 1).toNatClampNeg)) = .int (xs (6 * t + 1)), b = mSb M1, vp_in ((nI (6 * t)) + 2) (mSl M1), (Value.int (mSx M1 ((nI (6 * t)) + 2).toNatClampNeg)) = .int (xs (6 * t + 2)), b = mSb M1, vp_in ((nI (6 * t)) + 3) (mSl M1), (Value.int (mSx M1 ((nI (6 * t)) + 3).toNatClampNeg)) = .int (xs (6 * t + 3)), b = mSb M1, vp_in ((nI (6 * t)) + 4) (mSl M1), (Value.int (mSx M1 ((nI (6 * t)) + 4).toNatClampNeg)) = .int (xs (6 * t + 4))]) rfl ⟨(sc_b (show mSc _ = _ from hs1.trans hs)), (sc_v1 (show mSc _ = _ from hs1.trans hs) hin), congrArg Value.int (sc_x1 (show mSc _ = _ from hs1.trans hs) hin hL), (sc_b (show mSc _ = _ from hs1.trans hs)), (sc_v2 (show mSc _ = _ from hs1.trans hs) hin), congrArg Value.int (sc_x2 (show mSc _ = _ from hs1.trans hs) hin hL), (sc_b (show mSc _ = _ from hs1.trans hs)), (sc_v3 (show mSc _ = _ from hs1.trans hs) hin), congrArg Value.int (sc_x3 (show mSc _ = _ from hs1.trans hs) hin hL), (sc_b (show mSc _ = _ from hs1.trans hs)), (sc_v4 (show mSc _ = _ from hs1.trans hs) hin), congrArg Value.int (sc_x4 (show mSc _ = _ from hs1.trans hs) hin hL), trivial⟩ ?_
    refine go_if rfl (fun _ => ?_) (fun (z : ¬ ((xs (6 * t + 4)) = 0)) => absurd (show (xs (6 * t + 4)) = 0 from c1) z)
    refine go_blk 6 [some (.int (xs (6 * t + 5)))] (pc' := 423) (vs' := [.ref b, .ref x, .ref o, .ref u, .int (nI (6 * t)), x5, x6]) (st' := [.int (xs (6 * t + 5)), .int 0, .int (xs (6 * t + 3)), .int (xs (6 * t + 2)), .int (xs (6 * t + 1)), .ref o, .int r1]) (M' := M1) (ps := [b = mSb M1, vp_in ((nI (6 * t)) + 5) (mSl M1), (Value.int (mSx M1 ((nI (6 * t)) + 5).toNatClampNeg)) = .int (xs (6 * t + 5))]) rfl ⟨(sc_b (show mSc _ = _ from hs1.trans hs)), (sc_v5 (show mSc _ = _ from hs1.trans hs) hin), congrArg Value.int (sc_x5 (show mSc _ = _ from hs1.trans hs) hin hL), trivial⟩ ?_
    refine go_callV rfl rfl rfl (by decide) rfl (Nat.zero_le _) (Nat.zero_le _) ho1 ?_
    refine hcap _ (fun M2 hM2 => ⟨ne_i, ?_⟩)
    show Go 1312 277 _ _ 426 [.ref b, .ref x, .ref o, .ref u, .int (nI (6 * t)), x5, x6] [.int r1, .int r1] M2 (fun v _ => v = some (.int 1))
    refine go_icmp rfl (fun _ => ?_) (fun (z : ¬ (r1 = r1)) => absurd (show r1 = r1 from rfl) z)
    exact Go.mono (ih M2 (x5) (x6) hM2) (Nat.le_refl _) (show 100 * r ≤ 100 * (r + 1) - 1 - 0 by omega) (show 1000 * r ≤ 1000 * (r + 1) - 13 - 0 by omega) (fun _ _ q => q)
  · -- ¬ ((xs (6 * t + 4)) = 0)
    refine go_blk 7 [some (.int (xs (6 * t + 5)))] (pc' := 381) (vs' := [.ref b, .ref x, .ref o, .ref u, .int (nI (6 * t)), x5, x6]) (st' := [.int (xs (6 * t + 5)), .int 1, .int (xs (6 * t + 3)), .int (xs (6 * t + 2)), .int (xs (6 * t + 1)), .ref x]) (M' := M) (ps := [b = mSb M, vp_in ((nI (6 * t)) + 5) (mSl M), (Value.int (mSx M ((nI (6 * t)) + 5).toNatClampNeg)) = .int (xs (6 * t + 5))]) rfl ⟨(sc_b hs), (sc_v5 hs hin), congrArg Value.int (sc_x5 hs hin hL), trivial⟩ ?_
    refine go_callV rfl rfl rfl (by decide) rfl (show 0 + pMc (tbl 118) ≤ _ by show 1 ≤ 100 * (r + 1); omega) (show 0 + pMs (tbl 118) ≤ _ by show 13 ≤ 1000 * (r + 1); omega) hx ?_
    refine hops.2.2.1 M _ _ _ _ _ hM (by decide) _ (fun r1 M1 ho1 hs1 hcap => ⟨ne_i, ?_⟩)
    show Go 1312 277 _ _ 384 [.ref b, .ref x, .ref o, .ref u, .int (nI (6 * t)), x5, x6] [.int r1] M1 (fun v _ => v = some (.int 1))
    refine go_blk 21 [some (.int (xs (6 * t + 1))), some (.int (xs (6 * t + 2))), some (.int (xs (6 * t + 3))), some (.int (xs (6 * t + 4)))] (pc' := 409) (vs' := [.ref b, .ref x, .ref o, .ref u, .int (nI (6 * t)), x5, x6]) (st' := [.int (xs (6 * t + 4)), .int (xs (6 * t + 3)), .int (xs (6 * t + 2)), .int (xs (6 * t + 1)), .ref o, .int r1]) (M' := M1) (ps := [b = mSb M1, vp_in ((nI (6 * t)) + 1) (mSl M1), (Value.int (mSx M1 ((nI (6 * t)) + 1).toNatClampNeg)) = .int (xs (6 * t + 1)), b = mSb M1, vp_in ((nI (6 * t)) + 2) (mSl M1), (Value.int (mSx M1 ((nI (6 * t)) + 2).toNatClampNeg)) = .int (xs (6 * t + 2)), b = mSb M1, vp_in ((nI (6 * t)) + 3) (mSl M1), (Value.int (mSx M1 ((nI (6 * t)) + 3).toNatClampNeg)) = .int (xs (6 * t + 3)), b = mSb M1, vp_in ((nI (6 * t)) + 4) (mSl M1), (Value.int (mSx M1 ((nI (6 * t)) + 4).toNatClampNeg)) = .int (xs (6 * t + 4))]) rfl ⟨(sc_b (show mSc _ = _ from hs1.trans hs)), (sc_v1 (show mSc _ = _ from hs1.trans hs) hin), congrArg Value.int (sc_x1 (show mSc _ = _ from hs1.trans hs) hin hL), (sc_b (show mSc _ = _ from hs1.trans hs)), (sc_v2 (show mSc _ = _ from hs1.trans hs) hin), congrArg Value.int (sc_x2 (show mSc _ = _ from hs1.trans hs) hin hL), (sc_b (show mSc _ = _ from hs1.trans hs)), (sc_v3 (show mSc _ = _ from hs1.trans hs) hin), congrArg Value.int (sc_x3 (show mSc _ = _ from hs1.trans hs) hin hL), (sc_b (show mSc _ = _ from hs1.trans hs)), (sc_v4 (show mSc _ = _ from hs1.trans hs) hin), congrArg Value.int (sc_x4 (show mSc _ = _ from hs1.trans hs) hin hL), trivial⟩ ?_
    refine go_if rfl (fun (z : (xs (6 * t + 4)) = 0) => absurd z (show ¬ ((xs (6 * t + 4)) = 0) from c1)) (fun _ => ?_)
    refine go_blk 7 [some (.int (xs (6 * t + 5)))] (pc' := 423) (vs' := [.ref b, .ref x, .ref o, .ref u, .int (nI (6 * t)), x5, x6]) (st' := [.int (xs (6 * t + 5)), .int 1, .int (xs (6 * t + 3)), .int (xs (6 * t + 2)), .int (xs (6 * t + 1)), .ref o, .int r1]) (M' := M1) (ps := [b = mSb M1, vp_in ((nI (6 * t)) + 5) (mSl M1), (Value.int (mSx M1 ((nI (6 * t)) + 5).toNatClampNeg)) = .int (xs (6 * t + 5))]) rfl ⟨(sc_b (show mSc _ = _ from hs1.trans hs)), (sc_v5 (show mSc _ = _ from hs1.trans hs) hin), congrArg Value.int (sc_x5 (show mSc _ = _ from hs1.trans hs) hin hL), trivial⟩ ?_
    refine go_callV rfl rfl rfl (by decide) rfl (Nat.zero_le _) (Nat.zero_le _) ho1 ?_
    refine hcap _ (fun M2 hM2 => ⟨ne_i, ?_⟩)
    show Go 1312 277 _ _ 426 [.ref b, .ref x, .ref o, .ref u, .int (nI (6 * t)), x5, x6] [.int r1, .int r1] M2 (fun v _ => v = some (.int 1))
    refine go_icmp rfl (fun _ => ?_) (fun (z : ¬ (r1 = r1)) => absurd (show r1 = r1 from rfl) z)
    exact Go.mono (ih M2 (x5) (x6) hM2) (Nat.le_refl _) (show 100 * r ≤ 100 * (r + 1) - 1 - 0 by omega) (show 1000 * r ≤ 1000 * (r + 1) - 13 - 0 by omega) (fun _ _ q => q)

set_option maxRecDepth 100000 in
theorem law_3 {I : Mem → Prop} {x o u b L t r : Nat} {xs : Nat → Int32} {x5 x6 : Value} {M : Mem} (hI : IOk I x o u (b, L, xs)) (hops : Ops I x o u) (hL : L ≤ 3072) (hin : 6 * t + 6 ≤ L ∧ L ≤ 3072) (hM : I M) (ih : ∀ (M2 : Mem) (x5 x6 : Value), I M2 → Go 1312 277 (100 * r) (1000 * r) 1834 [.ref b, .ref x, .ref o, .ref u, .int (nI (6 * t)), x5, x6] [] M2 (fun v _ => v = some (.int 1))) : Go 1312 277 (100 * (r + 1)) (1000 * (r + 1)) 431 [.ref b, .ref x, .ref o, .ref u, .int (nI (6 * t)), x5, x6] [] M (fun v _ => v = some (.int 1)) := by
  obtain ⟨hx, ho, hu, hu1, hs⟩ := hI M hM
  show Go 1312 277 _ _ 431 [.ref b, .ref x, .ref o, .ref u, .int (nI (6 * t)), x5, x6] [] M (fun v _ => v = some (.int 1))
  refine go_blk 6 [some (.int (xs (6 * t + 1)))] (pc' := 438) (vs' := [.ref b, .ref x, .ref o, .ref u, .int (nI (6 * t)), x5, x6]) (st' := [.int (xs (6 * t + 1)), .ref x]) (M' := M) (ps := [b = mSb M, vp_in ((nI (6 * t)) + 1) (mSl M), (Value.int (mSx M ((nI (6 * t)) + 1).toNatClampNeg)) = .int (xs (6 * t + 1))]) rfl ⟨(sc_b hs), (sc_v1 hs hin), congrArg Value.int (sc_x1 hs hin hL), trivial⟩ ?_
  refine go_callV rfl rfl rfl (by decide) rfl (show 0 + pMc (tbl 119) ≤ _ by show 0 ≤ 100 * (r + 1); omega) (show 0 + pMs (tbl 119) ≤ _ by show 0 ≤ 1000 * (r + 1); omega) hx ?_
  refine hops.2.2.2.1 M _ hM _ (fun r1 M1 ho1 hs1 hcap => ⟨ne_i, ?_⟩)
  show Go 1312 277 _ _ 441 [.ref b, .ref x, .ref o, .ref u, .int (nI (6 * t)), x5, x6] [.int r1] M1 (fun v _ => v = some (.int 1))
  refine go_blk 6 [some (.int (xs (6 * t + 1)))] (pc' := 448) (vs' := [.ref b, .ref x, .ref o, .ref u, .int (nI (6 * t)), x5, x6]) (st' := [.int (xs (6 * t + 1)), .ref o, .int r1]) (M' := M1) (ps := [b = mSb M1, vp_in ((nI (6 * t)) + 1) (mSl M1), (Value.int (mSx M1 ((nI (6 * t)) + 1).toNatClampNeg)) = .int (xs (6 * t + 1))]) rfl ⟨(sc_b (show mSc _ = _ from hs1.trans hs)), (sc_v1 (show mSc _ = _ from hs1.trans hs) hin), congrArg Value.int (sc_x1 (show mSc _ = _ from hs1.trans hs) hin hL), trivial⟩ ?_
  refine go_callV rfl rfl rfl (by decide) rfl (Nat.zero_le _) (Nat.zero_le _) ho1 ?_
  refine hcap _ (fun M2 hM2 => ⟨ne_i, ?_⟩)
  show Go 1312 277 _ _ 451 [.ref b, .ref x, .ref o, .ref u, .int (nI (6 * t)), x5, x6] [.int r1, .int r1] M2 (fun v _ => v = some (.int 1))
  refine go_icmp rfl (fun _ => ?_) (fun (z : ¬ (r1 = r1)) => absurd (show r1 = r1 from rfl) z)
  exact Go.mono (ih M2 (x5) (x6) hM2) (Nat.le_refl _) (show 100 * r ≤ 100 * (r + 1) - 0 - 0 by omega) (show 1000 * r ≤ 1000 * (r + 1) - 0 - 0 by omega) (fun _ _ q => q)

set_option maxRecDepth 100000 in
theorem law_4 {I : Mem → Prop} {x o u b L t r : Nat} {xs : Nat → Int32} {x5 x6 : Value} {M : Mem} (hI : IOk I x o u (b, L, xs)) (hops : Ops I x o u) (hL : L ≤ 3072) (hin : 6 * t + 6 ≤ L ∧ L ≤ 3072) (hM : I M) (ih : ∀ (M2 : Mem) (x5 x6 : Value), I M2 → Go 1312 277 (100 * r) (1000 * r) 1834 [.ref b, .ref x, .ref o, .ref u, .int (nI (6 * t)), x5, x6] [] M2 (fun v _ => v = some (.int 1))) : Go 1312 277 (100 * (r + 1)) (1000 * (r + 1)) 456 [.ref b, .ref x, .ref o, .ref u, .int (nI (6 * t)), x5, x6] [] M (fun v _ => v = some (.int 1)) := by
  obtain ⟨hx, ho, hu, hu1, hs⟩ := hI M hM
  show Go 1312 277 _ _ 456 [.ref b, .ref x, .ref o, .ref u, .int (nI (6 * t)), x5, x6] [] M (fun v _ => v = some (.int 1))
  refine go_blk 16 [some (.int (xs (6 * t + 1))), some (.int (xs (6 * t + 2))), some (.int (xs (6 * t + 3)))] (pc' := 475) (vs' := [.ref b, .ref x, .ref o, .ref u, .int (nI (6 * t)), x5, x6]) (st' := [.int (xs (6 * t + 3)), .int (xs (6 * t + 2)), .int (xs (6 * t + 1)), .ref x]) (M' := M) (ps := [b = mSb M, vp_in ((nI (6 * t)) + 1) (mSl M), (Value.int (mSx M ((nI (6 * t)) + 1).toNatClampNeg)) = .int (xs (6 * t + 1)), b = mSb M, vp_in ((nI (6 * t)) + 2) (mSl M), (Value.int (mSx M ((nI (6 * t)) + 2).toNatClampNeg)) = .int (xs (6 * t + 2)), b = mSb M, vp_in ((nI (6 * t)) + 3) (mSl M), (Value.int (mSx M ((nI (6 * t)) + 3).toNatClampNeg)) = .int (xs (6 * t + 3))]) rfl ⟨(sc_b hs), (sc_v1 hs hin), congrArg Value.int (sc_x1 hs hin hL), (sc_b hs), (sc_v2 hs hin), congrArg Value.int (sc_x2 hs hin hL), (sc_b hs), (sc_v3 hs hin), congrArg Value.int (sc_x3 hs hin hL), trivial⟩ ?_
  refine go_if rfl (fun (c1 : (xs (6 * t + 3)) = 0) => ?_) (fun (c1 : ¬ ((xs (6 * t + 3)) = 0)) => ?_)
  · -- (xs (6 * t + 3)) = 0
    refine go_blk 1 [] (pc' := 483) (vs' := [.ref b, .ref x, .ref o, .ref u, .int (nI (6 * t)), x5, x6]) (st' := [.int 0, .int (xs (6 * t + 2)), .int (xs (6 * t + 1)), .ref x]) (M' := M) (ps := []) rfl trivial ?_
    refine go_callV rfl rfl rfl (by decide) rfl (show 0 + pMc (tbl 120) ≤ _ by show 0 ≤ 100 * (r + 1); omega) (show 0 + pMs (tbl 120) ≤ _ by show 0 ≤ 1000 * (r + 1); omega) hx ?_
    refine hops.2.2.2.2.1 M _ _ _ hM (by decide) _ (fun r1 M1 ho1 hs1 hcap => ⟨ne_i, ?_⟩)
    show Go 1312 277 _ _ 486 [.ref b, .ref x, .ref o, .ref u, .int (nI (6 * t)), x5, x6] [.int r1] M1 (fun v _ => v = some (.int 1))
    refine go_blk 16 [some (.int (xs (6 * t + 1))), some (.int (xs (6 * t + 2))), some (.int (xs (6 * t + 3)))] (pc' := 505) (vs' := [.ref b, .ref x, .ref o, .ref u, .int (nI (6 * t)), x5, x6]) (st' := [.int (xs (6 * t + 3)), .int (xs (6 * t + 2)), .int (xs (6 * t + 1)), .ref o, .int r1]) (M' := M1) (ps := [b = mSb M1, vp_in ((nI (6 * t)) + 1) (mSl M1), (Value.int (mSx M1 ((nI (6 * t)) + 1).toNatClampNeg)) = .int (xs (6 * t + 1)), b = mSb M1, vp_in ((nI (6 * t)) + 2) (mSl M1), (Value.int (mSx M1 ((nI (6 * t)) + 2).toNatClampNeg)) = .int (xs (6 * t + 2)), b = mSb M1, vp_in ((nI (6 * t)) + 3) (mSl M1), (Value.int (mSx M1 ((nI (6 * t)) + 3).toNatClampNeg)) = .int (xs (6 * t + 3))]) rfl ⟨(sc_b (show mSc _ = _ from hs1.trans hs)), (sc_v1 (show mSc _ = _ from hs1.trans hs) hin), congrArg Value.int (sc_x1 (show mSc _ = _ from hs1.trans hs) hin hL), (sc_b (show mSc _ = _ from hs1.trans hs)), (sc_v2 (show mSc _ = _ from hs1.trans hs) hin), congrArg Value.int (sc_x2 (show mSc _ = _ from hs1.trans hs) hin hL), (sc_b (show mSc _ = _ from hs1.trans hs)), (sc_v3 (show mSc _ = _ from hs1.trans hs) hin), congrArg Value.int (sc_x3 (show mSc _ = _ from hs1.trans hs) hin hL), trivial⟩ ?_
    refine go_if rfl (fun _ => ?_) (fun (z : ¬ ((xs (6 * t + 3)) = 0)) => absurd (show (xs (6 * t + 3)) = 0 from c1) z)
    refine go_blk 1 [] (pc' := 513) (vs' := [.ref b, .ref x, .ref o, .ref u, .int (nI (6 * t)), x5, x6]) (st' := [.int 0, .int (xs (6 * t + 2)), .int (xs (6 * t + 1)), .ref o, .int r1]) (M' := M1) (ps := []) rfl trivial ?_
    refine go_callV rfl rfl rfl (by decide) rfl (Nat.zero_le _) (Nat.zero_le _) ho1 ?_
    refine hcap _ (fun M2 hM2 => ⟨ne_i, ?_⟩)
    show Go 1312 277 _ _ 516 [.ref b, .ref x, .ref o, .ref u, .int (nI (6 * t)), x5, x6] [.int r1, .int r1] M2 (fun v _ => v = some (.int 1))
    refine go_icmp rfl (fun _ => ?_) (fun (z : ¬ (r1 = r1)) => absurd (show r1 = r1 from rfl) z)
    exact Go.mono (ih M2 (x5) (x6) hM2) (Nat.le_refl _) (show 100 * r ≤ 100 * (r + 1) - 0 - 0 by omega) (show 1000 * r ≤ 1000 * (r + 1) - 0 - 0 by omega) (fun _ _ q => q)
  · -- ¬ ((xs (6 * t + 3)) = 0)
    refine go_blk 2 [] (pc' := 483) (vs' := [.ref b, .ref x, .ref o, .ref u, .int (nI (6 * t)), x5, x6]) (st' := [.int 1, .int (xs (6 * t + 2)), .int (xs (6 * t + 1)), .ref x]) (M' := M) (ps := []) rfl trivial ?_
    refine go_callV rfl rfl rfl (by decide) rfl (show 0 + pMc (tbl 120) ≤ _ by show 0 ≤ 100 * (r + 1); omega) (show 0 + pMs (tbl 120) ≤ _ by show 0 ≤ 1000 * (r + 1); omega) hx ?_
    refine hops.2.2.2.2.1 M _ _ _ hM (by decide) _ (fun r1 M1 ho1 hs1 hcap => ⟨ne_i, ?_⟩)
    show Go 1312 277 _ _ 486 [.ref b, .ref x, .ref o, .ref u, .int (nI (6 * t)), x5, x6] [.int r1] M1 (fun v _ => v = some (.int 1))
    refine go_blk 16 [some (.int (xs (6 * t + 1))), some (.int (xs (6 * t + 2))), some (.int (xs (6 * t + 3)))] (pc' := 505) (vs' := [.ref b, .ref x, .ref o, .ref u, .int (nI (6 * t)), x5, x6]) (st' := [.int (xs (6 * t + 3)), .int (xs (6 * t + 2)), .int (xs (6 * t + 1)), .ref o, .int r1]) (M' := M1) (ps := [b = mSb M1, vp_in ((nI (6 * t)) + 1) (mSl M1), (Value.int (mSx M1 ((nI (6 * t)) + 1).toNatClampNeg)) = .int (xs (6 * t + 1)), b = mSb M1, vp_in ((nI (6 * t)) + 2) (mSl M1), (Value.int (mSx M1 ((nI (6 * t)) + 2).toNatClampNeg)) = .int (xs (6 * t + 2)), b = mSb M1, vp_in ((nI (6 * t)) + 3) (mSl M1), (Value.int (mSx M1 ((nI (6 * t)) + 3).toNatClampNeg)) = .int (xs (6 * t + 3))]) rfl ⟨(sc_b (show mSc _ = _ from hs1.trans hs)), (sc_v1 (show mSc _ = _ from hs1.trans hs) hin), congrArg Value.int (sc_x1 (show mSc _ = _ from hs1.trans hs) hin hL), (sc_b (show mSc _ = _ from hs1.trans hs)), (sc_v2 (show mSc _ = _ from hs1.trans hs) hin), congrArg Value.int (sc_x2 (show mSc _ = _ from hs1.trans hs) hin hL), (sc_b (show mSc _ = _ from hs1.trans hs)), (sc_v3 (show mSc _ = _ from hs1.trans hs) hin), congrArg Value.int (sc_x3 (show mSc _ = _ from hs1.trans hs) hin hL), trivial⟩ ?_
    refine go_if rfl (fun (z : (xs (6 * t + 3)) = 0) => absurd z (show ¬ ((xs (6 * t + 3)) = 0) from c1)) (fun _ => ?_)
    refine go_blk 2 [] (pc' := 513) (vs' := [.ref b, .ref x, .ref o, .ref u, .int (nI (6 * t)), x5, x6]) (st' := [.int 1, .int (xs (6 * t + 2)), .int (xs (6 * t + 1)), .ref o, .int r1]) (M' := M1) (ps := []) rfl trivial ?_
    refine go_callV rfl rfl rfl (by decide) rfl (Nat.zero_le _) (Nat.zero_le _) ho1 ?_
    refine hcap _ (fun M2 hM2 => ⟨ne_i, ?_⟩)
    show Go 1312 277 _ _ 516 [.ref b, .ref x, .ref o, .ref u, .int (nI (6 * t)), x5, x6] [.int r1, .int r1] M2 (fun v _ => v = some (.int 1))
    refine go_icmp rfl (fun _ => ?_) (fun (z : ¬ (r1 = r1)) => absurd (show r1 = r1 from rfl) z)
    exact Go.mono (ih M2 (x5) (x6) hM2) (Nat.le_refl _) (show 100 * r ≤ 100 * (r + 1) - 0 - 0 by omega) (show 1000 * r ≤ 1000 * (r + 1) - 0 - 0 by omega) (fun _ _ q => q)

set_option maxRecDepth 100000 in
theorem law_5 {I : Mem → Prop} {x o u b L t r : Nat} {xs : Nat → Int32} {x5 x6 : Value} {M : Mem} (hI : IOk I x o u (b, L, xs)) (hops : Ops I x o u) (hL : L ≤ 3072) (hin : 6 * t + 6 ≤ L ∧ L ≤ 3072) (hM : I M) (ih : ∀ (M2 : Mem) (x5 x6 : Value), I M2 → Go 1312 277 (100 * r) (1000 * r) 1834 [.ref b, .ref x, .ref o, .ref u, .int (nI (6 * t)), x5, x6] [] M2 (fun v _ => v = some (.int 1))) : Go 1312 277 (100 * (r + 1)) (1000 * (r + 1)) 521 [.ref b, .ref x, .ref o, .ref u, .int (nI (6 * t)), x5, x6] [] M (fun v _ => v = some (.int 1)) := by
  obtain ⟨hx, ho, hu, hu1, hs⟩ := hI M hM
  show Go 1312 277 _ _ 521 [.ref b, .ref x, .ref o, .ref u, .int (nI (6 * t)), x5, x6] [] M (fun v _ => v = some (.int 1))
  refine go_blk 11 [some (.int (xs (6 * t + 1))), some (.int (xs (6 * t + 2)))] (pc' := 534) (vs' := [.ref b, .ref x, .ref o, .ref u, .int (nI (6 * t)), x5, x6]) (st' := [.int (xs (6 * t + 2)), .int (xs (6 * t + 1)), .ref x]) (M' := M) (ps := [b = mSb M, vp_in ((nI (6 * t)) + 1) (mSl M), (Value.int (mSx M ((nI (6 * t)) + 1).toNatClampNeg)) = .int (xs (6 * t + 1)), b = mSb M, vp_in ((nI (6 * t)) + 2) (mSl M), (Value.int (mSx M ((nI (6 * t)) + 2).toNatClampNeg)) = .int (xs (6 * t + 2))]) rfl ⟨(sc_b hs), (sc_v1 hs hin), congrArg Value.int (sc_x1 hs hin hL), (sc_b hs), (sc_v2 hs hin), congrArg Value.int (sc_x2 hs hin hL), trivial⟩ ?_
  refine go_callV rfl rfl rfl (by decide) rfl (show 0 + pMc (tbl 121) ≤ _ by show 0 ≤ 100 * (r + 1); omega) (show 0 + pMs (tbl 121) ≤ _ by show 0 ≤ 1000 * (r + 1); omega) hx ?_
  refine hops.2.2.2.2.2.1 M _ _ hM _ (fun r1 M1 ho1 hs1 hcap => ⟨ne_i, ?_⟩)
  show Go 1312 277 _ _ 537 [.ref b, .ref x, .ref o, .ref u, .int (nI (6 * t)), x5, x6] [.int r1] M1 (fun v _ => v = some (.int 1))
  refine go_blk 11 [some (.int (xs (6 * t + 1))), some (.int (xs (6 * t + 2)))] (pc' := 550) (vs' := [.ref b, .ref x, .ref o, .ref u, .int (nI (6 * t)), x5, x6]) (st' := [.int (xs (6 * t + 2)), .int (xs (6 * t + 1)), .ref o, .int r1]) (M' := M1) (ps := [b = mSb M1, vp_in ((nI (6 * t)) + 1) (mSl M1), (Value.int (mSx M1 ((nI (6 * t)) + 1).toNatClampNeg)) = .int (xs (6 * t + 1)), b = mSb M1, vp_in ((nI (6 * t)) + 2) (mSl M1), (Value.int (mSx M1 ((nI (6 * t)) + 2).toNatClampNeg)) = .int (xs (6 * t + 2))]) rfl ⟨(sc_b (show mSc _ = _ from hs1.trans hs)), (sc_v1 (show mSc _ = _ from hs1.trans hs) hin), congrArg Value.int (sc_x1 (show mSc _ = _ from hs1.trans hs) hin hL), (sc_b (show mSc _ = _ from hs1.trans hs)), (sc_v2 (show mSc _ = _ from hs1.trans hs) hin), congrArg Value.int (sc_x2 (show mSc _ = _ from hs1.trans hs) hin hL), trivial⟩ ?_
  refine go_callV rfl rfl rfl (by decide) rfl (Nat.zero_le _) (Nat.zero_le _) ho1 ?_
  refine hcap _ (fun M2 hM2 => ⟨ne_i, ?_⟩)
  show Go 1312 277 _ _ 553 [.ref b, .ref x, .ref o, .ref u, .int (nI (6 * t)), x5, x6] [.int r1, .int r1] M2 (fun v _ => v = some (.int 1))
  refine go_icmp rfl (fun _ => ?_) (fun (z : ¬ (r1 = r1)) => absurd (show r1 = r1 from rfl) z)
  exact Go.mono (ih M2 (x5) (x6) hM2) (Nat.le_refl _) (show 100 * r ≤ 100 * (r + 1) - 0 - 0 by omega) (show 1000 * r ≤ 1000 * (r + 1) - 0 - 0 by omega) (fun _ _ q => q)

set_option maxRecDepth 100000 in
theorem law_6 {I : Mem → Prop} {x o u b L t r : Nat} {xs : Nat → Int32} {x5 x6 : Value} {M : Mem} (hI : IOk I x o u (b, L, xs)) (hops : Ops I x o u) (hL : L ≤ 3072) (hin : 6 * t + 6 ≤ L ∧ L ≤ 3072) (hM : I M) (ih : ∀ (M2 : Mem) (x5 x6 : Value), I M2 → Go 1312 277 (100 * r) (1000 * r) 1834 [.ref b, .ref x, .ref o, .ref u, .int (nI (6 * t)), x5, x6] [] M2 (fun v _ => v = some (.int 1))) : Go 1312 277 (100 * (r + 1)) (1000 * (r + 1)) 558 [.ref b, .ref x, .ref o, .ref u, .int (nI (6 * t)), x5, x6] [] M (fun v _ => v = some (.int 1)) := by
  obtain ⟨hx, ho, hu, hu1, hs⟩ := hI M hM
  show Go 1312 277 _ _ 558 [.ref b, .ref x, .ref o, .ref u, .int (nI (6 * t)), x5, x6] [] M (fun v _ => v = some (.int 1))
  refine go_blk 6 [some (.int (xs (6 * t + 1)))] (pc' := 565) (vs' := [.ref b, .ref x, .ref o, .ref u, .int (nI (6 * t)), x5, x6]) (st' := [.int (xs (6 * t + 1)), .ref x]) (M' := M) (ps := [b = mSb M, vp_in ((nI (6 * t)) + 1) (mSl M), (Value.int (mSx M ((nI (6 * t)) + 1).toNatClampNeg)) = .int (xs (6 * t + 1))]) rfl ⟨(sc_b hs), (sc_v1 hs hin), congrArg Value.int (sc_x1 hs hin hL), trivial⟩ ?_
  refine go_callV rfl rfl rfl (by decide) rfl (show 0 + pMc (tbl 122) ≤ _ by show 0 ≤ 100 * (r + 1); omega) (show 0 + pMs (tbl 122) ≤ _ by show 0 ≤ 1000 * (r + 1); omega) hx ?_
  refine hops.2.2.2.2.2.2.1 M _ hM _ (fun r1 M1 ho1 hs1 hcap => ⟨ne_i, ?_⟩)
  show Go 1312 277 _ _ 568 [.ref b, .ref x, .ref o, .ref u, .int (nI (6 * t)), x5, x6] [.int r1] M1 (fun v _ => v = some (.int 1))
  refine go_blk 6 [some (.int (xs (6 * t + 1)))] (pc' := 575) (vs' := [.ref b, .ref x, .ref o, .ref u, .int (nI (6 * t)), x5, x6]) (st' := [.int (xs (6 * t + 1)), .ref o, .int r1]) (M' := M1) (ps := [b = mSb M1, vp_in ((nI (6 * t)) + 1) (mSl M1), (Value.int (mSx M1 ((nI (6 * t)) + 1).toNatClampNeg)) = .int (xs (6 * t + 1))]) rfl ⟨(sc_b (show mSc _ = _ from hs1.trans hs)), (sc_v1 (show mSc _ = _ from hs1.trans hs) hin), congrArg Value.int (sc_x1 (show mSc _ = _ from hs1.trans hs) hin hL), trivial⟩ ?_
  refine go_callV rfl rfl rfl (by decide) rfl (Nat.zero_le _) (Nat.zero_le _) ho1 ?_
  refine hcap _ (fun M2 hM2 => ⟨ne_i, ?_⟩)
  show Go 1312 277 _ _ 578 [.ref b, .ref x, .ref o, .ref u, .int (nI (6 * t)), x5, x6] [.int r1, .int r1] M2 (fun v _ => v = some (.int 1))
  refine go_icmp rfl (fun _ => ?_) (fun (z : ¬ (r1 = r1)) => absurd (show r1 = r1 from rfl) z)
  exact Go.mono (ih M2 (x5) (x6) hM2) (Nat.le_refl _) (show 100 * r ≤ 100 * (r + 1) - 0 - 0 by omega) (show 1000 * r ≤ 1000 * (r + 1) - 0 - 0 by omega) (fun _ _ q => q)

set_option maxRecDepth 100000 in
theorem law_7 {I : Mem → Prop} {x o u b L t r : Nat} {xs : Nat → Int32} {x5 x6 : Value} {M : Mem} (hI : IOk I x o u (b, L, xs)) (hops : Ops I x o u) (hL : L ≤ 3072) (hin : 6 * t + 6 ≤ L ∧ L ≤ 3072) (hM : I M) (ih : ∀ (M2 : Mem) (x5 x6 : Value), I M2 → Go 1312 277 (100 * r) (1000 * r) 1834 [.ref b, .ref x, .ref o, .ref u, .int (nI (6 * t)), x5, x6] [] M2 (fun v _ => v = some (.int 1))) : Go 1312 277 (100 * (r + 1)) (1000 * (r + 1)) 583 [.ref b, .ref x, .ref o, .ref u, .int (nI (6 * t)), x5, x6] [] M (fun v _ => v = some (.int 1)) := by
  obtain ⟨hx, ho, hu, hu1, hs⟩ := hI M hM
  show Go 1312 277 _ _ 583 [.ref b, .ref x, .ref o, .ref u, .int (nI (6 * t)), x5, x6] [] M (fun v _ => v = some (.int 1))
  refine go_blk 6 [some (.int (xs (6 * t + 1)))] (pc' := 590) (vs' := [.ref b, .ref x, .ref o, .ref u, .int (nI (6 * t)), x5, x6]) (st' := [.int (xs (6 * t + 1)), .ref x]) (M' := M) (ps := [b = mSb M, vp_in ((nI (6 * t)) + 1) (mSl M), (Value.int (mSx M ((nI (6 * t)) + 1).toNatClampNeg)) = .int (xs (6 * t + 1))]) rfl ⟨(sc_b hs), (sc_v1 hs hin), congrArg Value.int (sc_x1 hs hin hL), trivial⟩ ?_
  refine go_callV rfl rfl rfl (by decide) rfl (show 0 + pMc (tbl 123) ≤ _ by show 0 ≤ 100 * (r + 1); omega) (show 0 + pMs (tbl 123) ≤ _ by show 0 ≤ 1000 * (r + 1); omega) hx ?_
  refine hops.2.2.2.2.2.2.2.1 M _ hM _ (fun r1 M1 ho1 hs1 hcap => ⟨ne_i, ?_⟩)
  show Go 1312 277 _ _ 593 [.ref b, .ref x, .ref o, .ref u, .int (nI (6 * t)), x5, x6] [.int r1] M1 (fun v _ => v = some (.int 1))
  refine go_blk 6 [some (.int (xs (6 * t + 1)))] (pc' := 600) (vs' := [.ref b, .ref x, .ref o, .ref u, .int (nI (6 * t)), x5, x6]) (st' := [.int (xs (6 * t + 1)), .ref o, .int r1]) (M' := M1) (ps := [b = mSb M1, vp_in ((nI (6 * t)) + 1) (mSl M1), (Value.int (mSx M1 ((nI (6 * t)) + 1).toNatClampNeg)) = .int (xs (6 * t + 1))]) rfl ⟨(sc_b (show mSc _ = _ from hs1.trans hs)), (sc_v1 (show mSc _ = _ from hs1.trans hs) hin), congrArg Value.int (sc_x1 (show mSc _ = _ from hs1.trans hs) hin hL), trivial⟩ ?_
  refine go_callV rfl rfl rfl (by decide) rfl (Nat.zero_le _) (Nat.zero_le _) ho1 ?_
  refine hcap _ (fun M2 hM2 => ⟨ne_i, ?_⟩)
  show Go 1312 277 _ _ 603 [.ref b, .ref x, .ref o, .ref u, .int (nI (6 * t)), x5, x6] [.int r1, .int r1] M2 (fun v _ => v = some (.int 1))
  refine go_icmp rfl (fun _ => ?_) (fun (z : ¬ (r1 = r1)) => absurd (show r1 = r1 from rfl) z)
  exact Go.mono (ih M2 (x5) (x6) hM2) (Nat.le_refl _) (show 100 * r ≤ 100 * (r + 1) - 0 - 0 by omega) (show 1000 * r ≤ 1000 * (r + 1) - 0 - 0 by omega) (fun _ _ q => q)

set_option maxRecDepth 100000 in
theorem law_8 {I : Mem → Prop} {x o u b L t r : Nat} {xs : Nat → Int32} {x5 x6 : Value} {M : Mem} (hI : IOk I x o u (b, L, xs)) (hops : Ops I x o u) (hL : L ≤ 3072) (hin : 6 * t + 6 ≤ L ∧ L ≤ 3072) (hM : I M) (ih : ∀ (M2 : Mem) (x5 x6 : Value), I M2 → Go 1312 277 (100 * r) (1000 * r) 1834 [.ref b, .ref x, .ref o, .ref u, .int (nI (6 * t)), x5, x6] [] M2 (fun v _ => v = some (.int 1))) : Go 1312 277 (100 * (r + 1)) (1000 * (r + 1)) 608 [.ref b, .ref x, .ref o, .ref u, .int (nI (6 * t)), x5, x6] [] M (fun v _ => v = some (.int 1)) := by
  obtain ⟨hx, ho, hu, hu1, hs⟩ := hI M hM
  show Go 1312 277 _ _ 608 [.ref b, .ref x, .ref o, .ref u, .int (nI (6 * t)), x5, x6] [] M (fun v _ => v = some (.int 1))
  refine go_blk 11 [some (.int (xs (6 * t + 1))), some (.int (xs (6 * t + 2)))] (pc' := 621) (vs' := [.ref b, .ref x, .ref o, .ref u, .int (nI (6 * t)), x5, x6]) (st' := [.int (xs (6 * t + 2)), .int (xs (6 * t + 1)), .ref x]) (M' := M) (ps := [b = mSb M, vp_in ((nI (6 * t)) + 1) (mSl M), (Value.int (mSx M ((nI (6 * t)) + 1).toNatClampNeg)) = .int (xs (6 * t + 1)), b = mSb M, vp_in ((nI (6 * t)) + 2) (mSl M), (Value.int (mSx M ((nI (6 * t)) + 2).toNatClampNeg)) = .int (xs (6 * t + 2))]) rfl ⟨(sc_b hs), (sc_v1 hs hin), congrArg Value.int (sc_x1 hs hin hL), (sc_b hs), (sc_v2 hs hin), congrArg Value.int (sc_x2 hs hin hL), trivial⟩ ?_
  refine go_callV rfl rfl rfl (by decide) rfl (show 0 + pMc (tbl 124) ≤ _ by show 0 ≤ 100 * (r + 1); omega) (show 0 + pMs (tbl 124) ≤ _ by show 0 ≤ 1000 * (r + 1); omega) hx ?_
  refine hops.2.2.2.2.2.2.2.2.1 M _ _ hM _ (fun r1 M1 ho1 hs1 hcap => ⟨ne_i, ?_⟩)
  show Go 1312 277 _ _ 624 [.ref b, .ref x, .ref o, .ref u, .int (nI (6 * t)), x5, x6] [.int r1] M1 (fun v _ => v = some (.int 1))
  refine go_blk 11 [some (.int (xs (6 * t + 1))), some (.int (xs (6 * t + 2)))] (pc' := 637) (vs' := [.ref b, .ref x, .ref o, .ref u, .int (nI (6 * t)), x5, x6]) (st' := [.int (xs (6 * t + 2)), .int (xs (6 * t + 1)), .ref o, .int r1]) (M' := M1) (ps := [b = mSb M1, vp_in ((nI (6 * t)) + 1) (mSl M1), (Value.int (mSx M1 ((nI (6 * t)) + 1).toNatClampNeg)) = .int (xs (6 * t + 1)), b = mSb M1, vp_in ((nI (6 * t)) + 2) (mSl M1), (Value.int (mSx M1 ((nI (6 * t)) + 2).toNatClampNeg)) = .int (xs (6 * t + 2))]) rfl ⟨(sc_b (show mSc _ = _ from hs1.trans hs)), (sc_v1 (show mSc _ = _ from hs1.trans hs) hin), congrArg Value.int (sc_x1 (show mSc _ = _ from hs1.trans hs) hin hL), (sc_b (show mSc _ = _ from hs1.trans hs)), (sc_v2 (show mSc _ = _ from hs1.trans hs) hin), congrArg Value.int (sc_x2 (show mSc _ = _ from hs1.trans hs) hin hL), trivial⟩ ?_
  refine go_callV rfl rfl rfl (by decide) rfl (Nat.zero_le _) (Nat.zero_le _) ho1 ?_
  refine hcap _ (fun M2 hM2 => ⟨ne_i, ?_⟩)
  show Go 1312 277 _ _ 640 [.ref b, .ref x, .ref o, .ref u, .int (nI (6 * t)), x5, x6] [.int r1, .int r1] M2 (fun v _ => v = some (.int 1))
  refine go_icmp rfl (fun _ => ?_) (fun (z : ¬ (r1 = r1)) => absurd (show r1 = r1 from rfl) z)
  exact Go.mono (ih M2 (x5) (x6) hM2) (Nat.le_refl _) (show 100 * r ≤ 100 * (r + 1) - 0 - 0 by omega) (show 1000 * r ≤ 1000 * (r + 1) - 0 - 0 by omega) (fun _ _ q => q)

set_option maxRecDepth 100000 in
theorem law_9 {I : Mem → Prop} {x o u b L t r : Nat} {xs : Nat → Int32} {x5 x6 : Value} {M : Mem} (hI : IOk I x o u (b, L, xs)) (hops : Ops I x o u) (hL : L ≤ 3072) (hin : 6 * t + 6 ≤ L ∧ L ≤ 3072) (hM : I M) (ih : ∀ (M2 : Mem) (x5 x6 : Value), I M2 → Go 1312 277 (100 * r) (1000 * r) 1834 [.ref b, .ref x, .ref o, .ref u, .int (nI (6 * t)), x5, x6] [] M2 (fun v _ => v = some (.int 1))) : Go 1312 277 (100 * (r + 1)) (1000 * (r + 1)) 645 [.ref b, .ref x, .ref o, .ref u, .int (nI (6 * t)), x5, x6] [] M (fun v _ => v = some (.int 1)) := by
  obtain ⟨hx, ho, hu, hu1, hs⟩ := hI M hM
  show Go 1312 277 _ _ 645 [.ref b, .ref x, .ref o, .ref u, .int (nI (6 * t)), x5, x6] [] M (fun v _ => v = some (.int 1))
  refine go_blk 11 [some (.int (xs (6 * t + 1))), some (.int (xs (6 * t + 2)))] (pc' := 658) (vs' := [.ref b, .ref x, .ref o, .ref u, .int (nI (6 * t)), x5, x6]) (st' := [.int (xs (6 * t + 2)), .int (xs (6 * t + 1)), .ref x]) (M' := M) (ps := [b = mSb M, vp_in ((nI (6 * t)) + 1) (mSl M), (Value.int (mSx M ((nI (6 * t)) + 1).toNatClampNeg)) = .int (xs (6 * t + 1)), b = mSb M, vp_in ((nI (6 * t)) + 2) (mSl M), (Value.int (mSx M ((nI (6 * t)) + 2).toNatClampNeg)) = .int (xs (6 * t + 2))]) rfl ⟨(sc_b hs), (sc_v1 hs hin), congrArg Value.int (sc_x1 hs hin hL), (sc_b hs), (sc_v2 hs hin), congrArg Value.int (sc_x2 hs hin hL), trivial⟩ ?_
  refine go_callV rfl rfl rfl (by decide) rfl (show 0 + pMc (tbl 125) ≤ _ by show 0 ≤ 100 * (r + 1); omega) (show 0 + pMs (tbl 125) ≤ _ by show 0 ≤ 1000 * (r + 1); omega) hx ?_
  refine hops.2.2.2.2.2.2.2.2.2.1 M _ _ hM _ (fun r1 M1 ho1 hs1 hcap => ⟨ne_i, ?_⟩)
  show Go 1312 277 _ _ 661 [.ref b, .ref x, .ref o, .ref u, .int (nI (6 * t)), x5, x6] [.int r1] M1 (fun v _ => v = some (.int 1))
  refine go_blk 11 [some (.int (xs (6 * t + 1))), some (.int (xs (6 * t + 2)))] (pc' := 674) (vs' := [.ref b, .ref x, .ref o, .ref u, .int (nI (6 * t)), x5, x6]) (st' := [.int (xs (6 * t + 2)), .int (xs (6 * t + 1)), .ref o, .int r1]) (M' := M1) (ps := [b = mSb M1, vp_in ((nI (6 * t)) + 1) (mSl M1), (Value.int (mSx M1 ((nI (6 * t)) + 1).toNatClampNeg)) = .int (xs (6 * t + 1)), b = mSb M1, vp_in ((nI (6 * t)) + 2) (mSl M1), (Value.int (mSx M1 ((nI (6 * t)) + 2).toNatClampNeg)) = .int (xs (6 * t + 2))]) rfl ⟨(sc_b (show mSc _ = _ from hs1.trans hs)), (sc_v1 (show mSc _ = _ from hs1.trans hs) hin), congrArg Value.int (sc_x1 (show mSc _ = _ from hs1.trans hs) hin hL), (sc_b (show mSc _ = _ from hs1.trans hs)), (sc_v2 (show mSc _ = _ from hs1.trans hs) hin), congrArg Value.int (sc_x2 (show mSc _ = _ from hs1.trans hs) hin hL), trivial⟩ ?_
  refine go_callV rfl rfl rfl (by decide) rfl (Nat.zero_le _) (Nat.zero_le _) ho1 ?_
  refine hcap _ (fun M2 hM2 => ⟨ne_i, ?_⟩)
  show Go 1312 277 _ _ 677 [.ref b, .ref x, .ref o, .ref u, .int (nI (6 * t)), x5, x6] [.int r1, .int r1] M2 (fun v _ => v = some (.int 1))
  refine go_icmp rfl (fun _ => ?_) (fun (z : ¬ (r1 = r1)) => absurd (show r1 = r1 from rfl) z)
  exact Go.mono (ih M2 (x5) (x6) hM2) (Nat.le_refl _) (show 100 * r ≤ 100 * (r + 1) - 0 - 0 by omega) (show 1000 * r ≤ 1000 * (r + 1) - 0 - 0 by omega) (fun _ _ q => q)

set_option maxRecDepth 100000 in
theorem law_10 {I : Mem → Prop} {x o u b L t r : Nat} {xs : Nat → Int32} {x5 x6 : Value} {M : Mem} (hI : IOk I x o u (b, L, xs)) (hops : Ops I x o u) (hL : L ≤ 3072) (hin : 6 * t + 6 ≤ L ∧ L ≤ 3072) (hM : I M) (ih : ∀ (M2 : Mem) (x5 x6 : Value), I M2 → Go 1312 277 (100 * r) (1000 * r) 1834 [.ref b, .ref x, .ref o, .ref u, .int (nI (6 * t)), x5, x6] [] M2 (fun v _ => v = some (.int 1))) : Go 1312 277 (100 * (r + 1)) (1000 * (r + 1)) 682 [.ref b, .ref x, .ref o, .ref u, .int (nI (6 * t)), x5, x6] [] M (fun v _ => v = some (.int 1)) := by
  obtain ⟨hx, ho, hu, hu1, hs⟩ := hI M hM
  show Go 1312 277 _ _ 682 [.ref b, .ref x, .ref o, .ref u, .int (nI (6 * t)), x5, x6] [] M (fun v _ => v = some (.int 1))
  refine go_blk 6 [some (.int (xs (6 * t + 1)))] (pc' := 689) (vs' := [.ref b, .ref x, .ref o, .ref u, .int (nI (6 * t)), x5, x6]) (st' := [.int (xs (6 * t + 1)), .ref x]) (M' := M) (ps := [b = mSb M, vp_in ((nI (6 * t)) + 1) (mSl M), (Value.int (mSx M ((nI (6 * t)) + 1).toNatClampNeg)) = .int (xs (6 * t + 1))]) rfl ⟨(sc_b hs), (sc_v1 hs hin), congrArg Value.int (sc_x1 hs hin hL), trivial⟩ ?_
  refine go_callV rfl rfl rfl (by decide) rfl (show 0 + pMc (tbl 126) ≤ _ by show 3 ≤ 100 * (r + 1); omega) (show 0 + pMs (tbl 126) ≤ _ by show 22 ≤ 1000 * (r + 1); omega) hx ?_
  refine hops.2.2.2.2.2.2.2.2.2.2.1 M _ hM _ (fun r1 M1 ho1 hs1 hcap => ⟨ne_i, ?_⟩)
  show Go 1312 277 _ _ 692 [.ref b, .ref x, .ref o, .ref u, .int (nI (6 * t)), x5, x6] [.int r1] M1 (fun v _ => v = some (.int 1))
  refine go_blk 6 [some (.int (xs (6 * t + 1)))] (pc' := 699) (vs' := [.ref b, .ref x, .ref o, .ref u, .int (nI (6 * t)), x5, x6]) (st' := [.int (xs (6 * t + 1)), .ref o, .int r1]) (M' := M1) (ps := [b = mSb M1, vp_in ((nI (6 * t)) + 1) (mSl M1), (Value.int (mSx M1 ((nI (6 * t)) + 1).toNatClampNeg)) = .int (xs (6 * t + 1))]) rfl ⟨(sc_b (show mSc _ = _ from hs1.trans hs)), (sc_v1 (show mSc _ = _ from hs1.trans hs) hin), congrArg Value.int (sc_x1 (show mSc _ = _ from hs1.trans hs) hin hL), trivial⟩ ?_
  refine go_callV rfl rfl rfl (by decide) rfl (Nat.zero_le _) (Nat.zero_le _) ho1 ?_
  refine hcap _ (fun M2 hM2 => ⟨ne_i, ?_⟩)
  show Go 1312 277 _ _ 702 [.ref b, .ref x, .ref o, .ref u, .int (nI (6 * t)), x5, x6] [.int r1, .int r1] M2 (fun v _ => v = some (.int 1))
  refine go_icmp rfl (fun _ => ?_) (fun (z : ¬ (r1 = r1)) => absurd (show r1 = r1 from rfl) z)
  exact Go.mono (ih M2 (x5) (x6) hM2) (Nat.le_refl _) (show 100 * r ≤ 100 * (r + 1) - 3 - 0 by omega) (show 1000 * r ≤ 1000 * (r + 1) - 22 - 0 by omega) (fun _ _ q => q)

set_option maxRecDepth 100000 in
theorem law_11 {I : Mem → Prop} {x o u b L t r : Nat} {xs : Nat → Int32} {x5 x6 : Value} {M : Mem} (hI : IOk I x o u (b, L, xs)) (hops : Ops I x o u) (hL : L ≤ 3072) (hin : 6 * t + 6 ≤ L ∧ L ≤ 3072) (hM : I M) (ih : ∀ (M2 : Mem) (x5 x6 : Value), I M2 → Go 1312 277 (100 * r) (1000 * r) 1834 [.ref b, .ref x, .ref o, .ref u, .int (nI (6 * t)), x5, x6] [] M2 (fun v _ => v = some (.int 1))) : Go 1312 277 (100 * (r + 1)) (1000 * (r + 1)) 707 [.ref b, .ref x, .ref o, .ref u, .int (nI (6 * t)), x5, x6] [] M (fun v _ => v = some (.int 1)) := by
  obtain ⟨hx, ho, hu, hu1, hs⟩ := hI M hM
  show Go 1312 277 _ _ 707 [.ref b, .ref x, .ref o, .ref u, .int (nI (6 * t)), x5, x6] [] M (fun v _ => v = some (.int 1))
  refine go_blk 16 [some (.int (xs (6 * t + 1))), some (.int (xs (6 * t + 2))), some (.int (xs (6 * t + 3)))] (pc' := 726) (vs' := [.ref b, .ref x, .ref o, .ref u, .int (nI (6 * t)), x5, x6]) (st' := [.int (xs (6 * t + 3)), .int (xs (6 * t + 2)), .int (xs (6 * t + 1)), .ref x]) (M' := M) (ps := [b = mSb M, vp_in ((nI (6 * t)) + 1) (mSl M), (Value.int (mSx M ((nI (6 * t)) + 1).toNatClampNeg)) = .int (xs (6 * t + 1)), b = mSb M, vp_in ((nI (6 * t)) + 2) (mSl M), (Value.int (mSx M ((nI (6 * t)) + 2).toNatClampNeg)) = .int (xs (6 * t + 2)), b = mSb M, vp_in ((nI (6 * t)) + 3) (mSl M), (Value.int (mSx M ((nI (6 * t)) + 3).toNatClampNeg)) = .int (xs (6 * t + 3))]) rfl ⟨(sc_b hs), (sc_v1 hs hin), congrArg Value.int (sc_x1 hs hin hL), (sc_b hs), (sc_v2 hs hin), congrArg Value.int (sc_x2 hs hin hL), (sc_b hs), (sc_v3 hs hin), congrArg Value.int (sc_x3 hs hin hL), trivial⟩ ?_
  refine go_callV rfl rfl rfl (by decide) rfl (show 0 + pMc (tbl 127) ≤ _ by show 0 ≤ 100 * (r + 1); omega) (show 0 + pMs (tbl 127) ≤ _ by show 0 ≤ 1000 * (r + 1); omega) hx ?_
  refine hops.2.2.2.2.2.2.2.2.2.2.2.1 M _ _ _ hM _ (fun r1 M1 ho1 hs1 hcap => ⟨ne_i, ?_⟩)
  show Go 1312 277 _ _ 729 [.ref b, .ref x, .ref o, .ref u, .int (nI (6 * t)), x5, x6] [.int r1] M1 (fun v _ => v = some (.int 1))
  refine go_blk 16 [some (.int (xs (6 * t + 1))), some (.int (xs (6 * t + 2))), some (.int (xs (6 * t + 3)))] (pc' := 748) (vs' := [.ref b, .ref x, .ref o, .ref u, .int (nI (6 * t)), x5, x6]) (st' := [.int (xs (6 * t + 3)), .int (xs (6 * t + 2)), .int (xs (6 * t + 1)), .ref o, .int r1]) (M' := M1) (ps := [b = mSb M1, vp_in ((nI (6 * t)) + 1) (mSl M1), (Value.int (mSx M1 ((nI (6 * t)) + 1).toNatClampNeg)) = .int (xs (6 * t + 1)), b = mSb M1, vp_in ((nI (6 * t)) + 2) (mSl M1), (Value.int (mSx M1 ((nI (6 * t)) + 2).toNatClampNeg)) = .int (xs (6 * t + 2)), b = mSb M1, vp_in ((nI (6 * t)) + 3) (mSl M1), (Value.int (mSx M1 ((nI (6 * t)) + 3).toNatClampNeg)) = .int (xs (6 * t + 3))]) rfl ⟨(sc_b (show mSc _ = _ from hs1.trans hs)), (sc_v1 (show mSc _ = _ from hs1.trans hs) hin), congrArg Value.int (sc_x1 (show mSc _ = _ from hs1.trans hs) hin hL), (sc_b (show mSc _ = _ from hs1.trans hs)), (sc_v2 (show mSc _ = _ from hs1.trans hs) hin), congrArg Value.int (sc_x2 (show mSc _ = _ from hs1.trans hs) hin hL), (sc_b (show mSc _ = _ from hs1.trans hs)), (sc_v3 (show mSc _ = _ from hs1.trans hs) hin), congrArg Value.int (sc_x3 (show mSc _ = _ from hs1.trans hs) hin hL), trivial⟩ ?_
  refine go_callV rfl rfl rfl (by decide) rfl (Nat.zero_le _) (Nat.zero_le _) ho1 ?_
  refine hcap _ (fun M2 hM2 => ⟨ne_i, ?_⟩)
  show Go 1312 277 _ _ 751 [.ref b, .ref x, .ref o, .ref u, .int (nI (6 * t)), x5, x6] [.int r1, .int r1] M2 (fun v _ => v = some (.int 1))
  refine go_icmp rfl (fun _ => ?_) (fun (z : ¬ (r1 = r1)) => absurd (show r1 = r1 from rfl) z)
  exact Go.mono (ih M2 (x5) (x6) hM2) (Nat.le_refl _) (show 100 * r ≤ 100 * (r + 1) - 0 - 0 by omega) (show 1000 * r ≤ 1000 * (r + 1) - 0 - 0 by omega) (fun _ _ q => q)

set_option maxRecDepth 100000 in
theorem law_12 {I : Mem → Prop} {x o u b L t r : Nat} {xs : Nat → Int32} {x5 x6 : Value} {M : Mem} (hI : IOk I x o u (b, L, xs)) (hops : Ops I x o u) (hL : L ≤ 3072) (hin : 6 * t + 6 ≤ L ∧ L ≤ 3072) (hM : I M) (ih : ∀ (M2 : Mem) (x5 x6 : Value), I M2 → Go 1312 277 (100 * r) (1000 * r) 1834 [.ref b, .ref x, .ref o, .ref u, .int (nI (6 * t)), x5, x6] [] M2 (fun v _ => v = some (.int 1))) : Go 1312 277 (100 * (r + 1)) (1000 * (r + 1)) 756 [.ref b, .ref x, .ref o, .ref u, .int (nI (6 * t)), x5, x6] [] M (fun v _ => v = some (.int 1)) := by
  obtain ⟨hx, ho, hu, hu1, hs⟩ := hI M hM
  show Go 1312 277 _ _ 756 [.ref b, .ref x, .ref o, .ref u, .int (nI (6 * t)), x5, x6] [] M (fun v _ => v = some (.int 1))
  refine go_blk 6 [some (.int (xs (6 * t + 1)))] (pc' := 763) (vs' := [.ref b, .ref x, .ref o, .ref u, .int (nI (6 * t)), x5, x6]) (st' := [.int (xs (6 * t + 1)), .ref x]) (M' := M) (ps := [b = mSb M, vp_in ((nI (6 * t)) + 1) (mSl M), (Value.int (mSx M ((nI (6 * t)) + 1).toNatClampNeg)) = .int (xs (6 * t + 1))]) rfl ⟨(sc_b hs), (sc_v1 hs hin), congrArg Value.int (sc_x1 hs hin hL), trivial⟩ ?_
  refine go_callV rfl rfl rfl (by decide) rfl (show 0 + pMc (tbl 128) ≤ _ by show 0 ≤ 100 * (r + 1); omega) (show 0 + pMs (tbl 128) ≤ _ by show 0 ≤ 1000 * (r + 1); omega) hx ?_
  refine hops.2.2.2.2.2.2.2.2.2.2.2.2.1 M _ hM _ (fun r1 M1 ho1 hs1 hcap => ⟨ne_i, ?_⟩)
  show Go 1312 277 _ _ 766 [.ref b, .ref x, .ref o, .ref u, .int (nI (6 * t)), x5, x6] [.int r1] M1 (fun v _ => v = some (.int 1))
  refine go_blk 6 [some (.int (xs (6 * t + 1)))] (pc' := 773) (vs' := [.ref b, .ref x, .ref o, .ref u, .int (nI (6 * t)), x5, x6]) (st' := [.int (xs (6 * t + 1)), .ref o, .int r1]) (M' := M1) (ps := [b = mSb M1, vp_in ((nI (6 * t)) + 1) (mSl M1), (Value.int (mSx M1 ((nI (6 * t)) + 1).toNatClampNeg)) = .int (xs (6 * t + 1))]) rfl ⟨(sc_b (show mSc _ = _ from hs1.trans hs)), (sc_v1 (show mSc _ = _ from hs1.trans hs) hin), congrArg Value.int (sc_x1 (show mSc _ = _ from hs1.trans hs) hin hL), trivial⟩ ?_
  refine go_callV rfl rfl rfl (by decide) rfl (Nat.zero_le _) (Nat.zero_le _) ho1 ?_
  refine hcap _ (fun M2 hM2 => ⟨ne_i, ?_⟩)
  show Go 1312 277 _ _ 776 [.ref b, .ref x, .ref o, .ref u, .int (nI (6 * t)), x5, x6] [.int r1, .int r1] M2 (fun v _ => v = some (.int 1))
  refine go_icmp rfl (fun _ => ?_) (fun (z : ¬ (r1 = r1)) => absurd (show r1 = r1 from rfl) z)
  exact Go.mono (ih M2 (x5) (x6) hM2) (Nat.le_refl _) (show 100 * r ≤ 100 * (r + 1) - 0 - 0 by omega) (show 1000 * r ≤ 1000 * (r + 1) - 0 - 0 by omega) (fun _ _ q => q)

set_option maxRecDepth 100000 in
theorem law_13 {I : Mem → Prop} {x o u b L t r : Nat} {xs : Nat → Int32} {x5 x6 : Value} {M : Mem} (hI : IOk I x o u (b, L, xs)) (hops : Ops I x o u) (hL : L ≤ 3072) (hin : 6 * t + 6 ≤ L ∧ L ≤ 3072) (hM : I M) (ih : ∀ (M2 : Mem) (x5 x6 : Value), I M2 → Go 1312 277 (100 * r) (1000 * r) 1834 [.ref b, .ref x, .ref o, .ref u, .int (nI (6 * t)), x5, x6] [] M2 (fun v _ => v = some (.int 1))) : Go 1312 277 (100 * (r + 1)) (1000 * (r + 1)) 781 [.ref b, .ref x, .ref o, .ref u, .int (nI (6 * t)), x5, x6] [] M (fun v _ => v = some (.int 1)) := by
  obtain ⟨hx, ho, hu, hu1, hs⟩ := hI M hM
  show Go 1312 277 _ _ 781 [.ref b, .ref x, .ref o, .ref u, .int (nI (6 * t)), x5, x6] [] M (fun v _ => v = some (.int 1))
  refine go_blk 1 [] (pc' := 782) (vs' := [.ref b, .ref x, .ref o, .ref u, .int (nI (6 * t)), x5, x6]) (st' := [.ref x]) (M' := M) (ps := []) rfl trivial ?_
  refine go_callV rfl rfl rfl (by decide) rfl (show 0 + pMc (tbl 129) ≤ _ by show 7 ≤ 100 * (r + 1); omega) (show 0 + pMs (tbl 129) ≤ _ by show 84 ≤ 1000 * (r + 1); omega) hx ?_
  refine hops.2.2.2.2.2.2.2.2.2.2.2.2.2.1 M hM _ (fun r1 M1 ho1 hs1 hcap => ⟨ne_i, ?_⟩)
  show Go 1312 277 _ _ 785 [.ref b, .ref x, .ref o, .ref u, .int (nI (6 * t)), x5, x6] [.int r1] M1 (fun v _ => v = some (.int 1))
  refine go_blk 1 [] (pc' := 786) (vs' := [.ref b, .ref x, .ref o, .ref u, .int (nI (6 * t)), x5, x6]) (st' := [.ref o, .int r1]) (M' := M1) (ps := []) rfl trivial ?_
  refine go_callV rfl rfl rfl (by decide) rfl (Nat.zero_le _) (Nat.zero_le _) ho1 ?_
  refine hcap _ (fun M2 hM2 => ⟨ne_i, ?_⟩)
  show Go 1312 277 _ _ 789 [.ref b, .ref x, .ref o, .ref u, .int (nI (6 * t)), x5, x6] [.int r1, .int r1] M2 (fun v _ => v = some (.int 1))
  refine go_icmp rfl (fun _ => ?_) (fun (z : ¬ (r1 = r1)) => absurd (show r1 = r1 from rfl) z)
  exact Go.mono (ih M2 (x5) (x6) hM2) (Nat.le_refl _) (show 100 * r ≤ 100 * (r + 1) - 7 - 0 by omega) (show 1000 * r ≤ 1000 * (r + 1) - 84 - 0 by omega) (fun _ _ q => q)

set_option maxRecDepth 100000 in
theorem law_14 {I : Mem → Prop} {x o u b L t r : Nat} {xs : Nat → Int32} {x5 x6 : Value} {M : Mem} (hI : IOk I x o u (b, L, xs)) (hops : Ops I x o u) (hL : L ≤ 3072) (hin : 6 * t + 6 ≤ L ∧ L ≤ 3072) (hM : I M) (ih : ∀ (M2 : Mem) (x5 x6 : Value), I M2 → Go 1312 277 (100 * r) (1000 * r) 1834 [.ref b, .ref x, .ref o, .ref u, .int (nI (6 * t)), x5, x6] [] M2 (fun v _ => v = some (.int 1))) : Go 1312 277 (100 * (r + 1)) (1000 * (r + 1)) 794 [.ref b, .ref x, .ref o, .ref u, .int (nI (6 * t)), x5, x6] [] M (fun v _ => v = some (.int 1)) := by
  obtain ⟨hx, ho, hu, hu1, hs⟩ := hI M hM
  show Go 1312 277 _ _ 794 [.ref b, .ref x, .ref o, .ref u, .int (nI (6 * t)), x5, x6] [] M (fun v _ => v = some (.int 1))
  refine go_blk 1 [] (pc' := 795) (vs' := [.ref b, .ref x, .ref o, .ref u, .int (nI (6 * t)), x5, x6]) (st' := [.ref x]) (M' := M) (ps := []) rfl trivial ?_
  refine go_callV rfl rfl rfl (by decide) rfl (show 0 + pMc (tbl 130) ≤ _ by show 0 ≤ 100 * (r + 1); omega) (show 0 + pMs (tbl 130) ≤ _ by show 0 ≤ 1000 * (r + 1); omega) hx ?_
  refine hops.2.2.2.2.2.2.2.2.2.2.2.2.2.2.1 M hM _ (fun r1 M1 ho1 hs1 hcap => ⟨ne_i, ?_⟩)
  show Go 1312 277 _ _ 798 [.ref b, .ref x, .ref o, .ref u, .int (nI (6 * t)), x5, x6] [.int r1] M1 (fun v _ => v = some (.int 1))
  refine go_blk 1 [] (pc' := 799) (vs' := [.ref b, .ref x, .ref o, .ref u, .int (nI (6 * t)), x5, x6]) (st' := [.ref o, .int r1]) (M' := M1) (ps := []) rfl trivial ?_
  refine go_callV rfl rfl rfl (by decide) rfl (Nat.zero_le _) (Nat.zero_le _) ho1 ?_
  refine hcap _ (fun M2 hM2 => ⟨ne_i, ?_⟩)
  show Go 1312 277 _ _ 802 [.ref b, .ref x, .ref o, .ref u, .int (nI (6 * t)), x5, x6] [.int r1, .int r1] M2 (fun v _ => v = some (.int 1))
  refine go_icmp rfl (fun _ => ?_) (fun (z : ¬ (r1 = r1)) => absurd (show r1 = r1 from rfl) z)
  exact Go.mono (ih M2 (x5) (x6) hM2) (Nat.le_refl _) (show 100 * r ≤ 100 * (r + 1) - 0 - 0 by omega) (show 1000 * r ≤ 1000 * (r + 1) - 0 - 0 by omega) (fun _ _ q => q)

set_option maxRecDepth 100000 in
theorem law_15 {I : Mem → Prop} {x o u b L t r : Nat} {xs : Nat → Int32} {x5 x6 : Value} {M : Mem} (hI : IOk I x o u (b, L, xs)) (hops : Ops I x o u) (hL : L ≤ 3072) (hin : 6 * t + 6 ≤ L ∧ L ≤ 3072) (hM : I M) (ih : ∀ (M2 : Mem) (x5 x6 : Value), I M2 → Go 1312 277 (100 * r) (1000 * r) 1834 [.ref b, .ref x, .ref o, .ref u, .int (nI (6 * t)), x5, x6] [] M2 (fun v _ => v = some (.int 1))) : Go 1312 277 (100 * (r + 1)) (1000 * (r + 1)) 807 [.ref b, .ref x, .ref o, .ref u, .int (nI (6 * t)), x5, x6] [] M (fun v _ => v = some (.int 1)) := by
  obtain ⟨hx, ho, hu, hu1, hs⟩ := hI M hM
  show Go 1312 277 _ _ 807 [.ref b, .ref x, .ref o, .ref u, .int (nI (6 * t)), x5, x6] [] M (fun v _ => v = some (.int 1))
  refine go_blk 11 [some (.int (xs (6 * t + 1))), some (.int (xs (6 * t + 2)))] (pc' := 820) (vs' := [.ref b, .ref x, .ref o, .ref u, .int (nI (6 * t)), x5, x6]) (st' := [.int (xs (6 * t + 2)), .int (xs (6 * t + 1)), .ref x]) (M' := M) (ps := [b = mSb M, vp_in ((nI (6 * t)) + 1) (mSl M), (Value.int (mSx M ((nI (6 * t)) + 1).toNatClampNeg)) = .int (xs (6 * t + 1)), b = mSb M, vp_in ((nI (6 * t)) + 2) (mSl M), (Value.int (mSx M ((nI (6 * t)) + 2).toNatClampNeg)) = .int (xs (6 * t + 2))]) rfl ⟨(sc_b hs), (sc_v1 hs hin), congrArg Value.int (sc_x1 hs hin hL), (sc_b hs), (sc_v2 hs hin), congrArg Value.int (sc_x2 hs hin hL), trivial⟩ ?_
  refine go_callV rfl rfl rfl (by decide) rfl (show 0 + pMc (tbl 131) ≤ _ by show 0 ≤ 100 * (r + 1); omega) (show 0 + pMs (tbl 131) ≤ _ by show 0 ≤ 1000 * (r + 1); omega) hx ?_
  refine hops.2.2.2.2.2.2.2.2.2.2.2.2.2.2.2.1 M _ _ hM _ (fun r1 M1 ho1 hs1 hcap => ⟨ne_i, ?_⟩)
  show Go 1312 277 _ _ 823 [.ref b, .ref x, .ref o, .ref u, .int (nI (6 * t)), x5, x6] [.int r1] M1 (fun v _ => v = some (.int 1))
  refine go_blk 11 [some (.int (xs (6 * t + 1))), some (.int (xs (6 * t + 2)))] (pc' := 836) (vs' := [.ref b, .ref x, .ref o, .ref u, .int (nI (6 * t)), x5, x6]) (st' := [.int (xs (6 * t + 2)), .int (xs (6 * t + 1)), .ref o, .int r1]) (M' := M1) (ps := [b = mSb M1, vp_in ((nI (6 * t)) + 1) (mSl M1), (Value.int (mSx M1 ((nI (6 * t)) + 1).toNatClampNeg)) = .int (xs (6 * t + 1)), b = mSb M1, vp_in ((nI (6 * t)) + 2) (mSl M1), (Value.int (mSx M1 ((nI (6 * t)) + 2).toNatClampNeg)) = .int (xs (6 * t + 2))]) rfl ⟨(sc_b (show mSc _ = _ from hs1.trans hs)), (sc_v1 (show mSc _ = _ from hs1.trans hs) hin), congrArg Value.int (sc_x1 (show mSc _ = _ from hs1.trans hs) hin hL), (sc_b (show mSc _ = _ from hs1.trans hs)), (sc_v2 (show mSc _ = _ from hs1.trans hs) hin), congrArg Value.int (sc_x2 (show mSc _ = _ from hs1.trans hs) hin hL), trivial⟩ ?_
  refine go_callV rfl rfl rfl (by decide) rfl (Nat.zero_le _) (Nat.zero_le _) ho1 ?_
  refine hcap _ (fun M2 hM2 => ⟨ne_i, ?_⟩)
  show Go 1312 277 _ _ 839 [.ref b, .ref x, .ref o, .ref u, .int (nI (6 * t)), x5, x6] [.int r1, .int r1] M2 (fun v _ => v = some (.int 1))
  refine go_icmp rfl (fun _ => ?_) (fun (z : ¬ (r1 = r1)) => absurd (show r1 = r1 from rfl) z)
  exact Go.mono (ih M2 (x5) (x6) hM2) (Nat.le_refl _) (show 100 * r ≤ 100 * (r + 1) - 0 - 0 by omega) (show 1000 * r ≤ 1000 * (r + 1) - 0 - 0 by omega) (fun _ _ q => q)

set_option maxRecDepth 100000 in
theorem law_16 {I : Mem → Prop} {x o u b L t r : Nat} {xs : Nat → Int32} {x5 x6 : Value} {M : Mem} (hI : IOk I x o u (b, L, xs)) (hops : Ops I x o u) (hL : L ≤ 3072) (hin : 6 * t + 6 ≤ L ∧ L ≤ 3072) (hM : I M) (ih : ∀ (M2 : Mem) (x5 x6 : Value), I M2 → Go 1312 277 (100 * r) (1000 * r) 1834 [.ref b, .ref x, .ref o, .ref u, .int (nI (6 * t)), x5, x6] [] M2 (fun v _ => v = some (.int 1))) : Go 1312 277 (100 * (r + 1)) (1000 * (r + 1)) 844 [.ref b, .ref x, .ref o, .ref u, .int (nI (6 * t)), x5, x6] [] M (fun v _ => v = some (.int 1)) := by
  obtain ⟨hx, ho, hu, hu1, hs⟩ := hI M hM
  show Go 1312 277 _ _ 844 [.ref b, .ref x, .ref o, .ref u, .int (nI (6 * t)), x5, x6] [] M (fun v _ => v = some (.int 1))
  refine go_blk 11 [some (.int (xs (6 * t + 1))), some (.int (xs (6 * t + 2)))] (pc' := 857) (vs' := [.ref b, .ref x, .ref o, .ref u, .int (nI (6 * t)), x5, x6]) (st' := [.int (xs (6 * t + 2)), .int (xs (6 * t + 1)), .ref x]) (M' := M) (ps := [b = mSb M, vp_in ((nI (6 * t)) + 1) (mSl M), (Value.int (mSx M ((nI (6 * t)) + 1).toNatClampNeg)) = .int (xs (6 * t + 1)), b = mSb M, vp_in ((nI (6 * t)) + 2) (mSl M), (Value.int (mSx M ((nI (6 * t)) + 2).toNatClampNeg)) = .int (xs (6 * t + 2))]) rfl ⟨(sc_b hs), (sc_v1 hs hin), congrArg Value.int (sc_x1 hs hin hL), (sc_b hs), (sc_v2 hs hin), congrArg Value.int (sc_x2 hs hin hL), trivial⟩ ?_
  refine go_callV rfl rfl rfl (by decide) rfl (show 0 + pMc (tbl 132) ≤ _ by show 0 ≤ 100 * (r + 1); omega) (show 0 + pMs (tbl 132) ≤ _ by show 0 ≤ 1000 * (r + 1); omega) hx ?_
  refine hops.2.2.2.2.2.2.2.2.2.2.2.2.2.2.2.2.1 M _ _ hM _ (fun r1 M1 ho1 hs1 hcap => ⟨ne_i, ?_⟩)
  show Go 1312 277 _ _ 860 [.ref b, .ref x, .ref o, .ref u, .int (nI (6 * t)), x5, x6] [.int r1] M1 (fun v _ => v = some (.int 1))
  refine go_blk 11 [some (.int (xs (6 * t + 1))), some (.int (xs (6 * t + 2)))] (pc' := 873) (vs' := [.ref b, .ref x, .ref o, .ref u, .int (nI (6 * t)), x5, x6]) (st' := [.int (xs (6 * t + 2)), .int (xs (6 * t + 1)), .ref o, .int r1]) (M' := M1) (ps := [b = mSb M1, vp_in ((nI (6 * t)) + 1) (mSl M1), (Value.int (mSx M1 ((nI (6 * t)) + 1).toNatClampNeg)) = .int (xs (6 * t + 1)), b = mSb M1, vp_in ((nI (6 * t)) + 2) (mSl M1), (Value.int (mSx M1 ((nI (6 * t)) + 2).toNatClampNeg)) = .int (xs (6 * t + 2))]) rfl ⟨(sc_b (show mSc _ = _ from hs1.trans hs)), (sc_v1 (show mSc _ = _ from hs1.trans hs) hin), congrArg Value.int (sc_x1 (show mSc _ = _ from hs1.trans hs) hin hL), (sc_b (show mSc _ = _ from hs1.trans hs)), (sc_v2 (show mSc _ = _ from hs1.trans hs) hin), congrArg Value.int (sc_x2 (show mSc _ = _ from hs1.trans hs) hin hL), trivial⟩ ?_
  refine go_callV rfl rfl rfl (by decide) rfl (Nat.zero_le _) (Nat.zero_le _) ho1 ?_
  refine hcap _ (fun M2 hM2 => ⟨ne_i, ?_⟩)
  show Go 1312 277 _ _ 876 [.ref b, .ref x, .ref o, .ref u, .int (nI (6 * t)), x5, x6] [.int r1, .int r1] M2 (fun v _ => v = some (.int 1))
  refine go_icmp rfl (fun _ => ?_) (fun (z : ¬ (r1 = r1)) => absurd (show r1 = r1 from rfl) z)
  exact Go.mono (ih M2 (x5) (x6) hM2) (Nat.le_refl _) (show 100 * r ≤ 100 * (r + 1) - 0 - 0 by omega) (show 1000 * r ≤ 1000 * (r + 1) - 0 - 0 by omega) (fun _ _ q => q)

set_option maxRecDepth 100000 in
theorem law_17 {I : Mem → Prop} {x o u b L t r : Nat} {xs : Nat → Int32} {x5 x6 : Value} {M : Mem} (hI : IOk I x o u (b, L, xs)) (hops : Ops I x o u) (hL : L ≤ 3072) (hin : 6 * t + 6 ≤ L ∧ L ≤ 3072) (hM : I M) (ih : ∀ (M2 : Mem) (x5 x6 : Value), I M2 → Go 1312 277 (100 * r) (1000 * r) 1834 [.ref b, .ref x, .ref o, .ref u, .int (nI (6 * t)), x5, x6] [] M2 (fun v _ => v = some (.int 1))) : Go 1312 277 (100 * (r + 1)) (1000 * (r + 1)) 881 [.ref b, .ref x, .ref o, .ref u, .int (nI (6 * t)), x5, x6] [] M (fun v _ => v = some (.int 1)) := by
  obtain ⟨hx, ho, hu, hu1, hs⟩ := hI M hM
  show Go 1312 277 _ _ 881 [.ref b, .ref x, .ref o, .ref u, .int (nI (6 * t)), x5, x6] [] M (fun v _ => v = some (.int 1))
  refine go_blk 6 [some (.int (xs (6 * t + 1)))] (pc' := 888) (vs' := [.ref b, .ref x, .ref o, .ref u, .int (nI (6 * t)), x5, x6]) (st' := [.int (xs (6 * t + 1)), .ref x]) (M' := M) (ps := [b = mSb M, vp_in ((nI (6 * t)) + 1) (mSl M), (Value.int (mSx M ((nI (6 * t)) + 1).toNatClampNeg)) = .int (xs (6 * t + 1))]) rfl ⟨(sc_b hs), (sc_v1 hs hin), congrArg Value.int (sc_x1 hs hin hL), trivial⟩ ?_
  refine go_callV rfl rfl rfl (by decide) rfl (show 0 + pMc (tbl 133) ≤ _ by show 0 ≤ 100 * (r + 1); omega) (show 0 + pMs (tbl 133) ≤ _ by show 0 ≤ 1000 * (r + 1); omega) hx ?_
  refine hops.2.2.2.2.2.2.2.2.2.2.2.2.2.2.2.2.2.1 M _ hM _ (fun r1 M1 ho1 hs1 hcap => ⟨ne_i, ?_⟩)
  show Go 1312 277 _ _ 891 [.ref b, .ref x, .ref o, .ref u, .int (nI (6 * t)), x5, x6] [.int r1] M1 (fun v _ => v = some (.int 1))
  refine go_blk 6 [some (.int (xs (6 * t + 1)))] (pc' := 898) (vs' := [.ref b, .ref x, .ref o, .ref u, .int (nI (6 * t)), x5, x6]) (st' := [.int (xs (6 * t + 1)), .ref o, .int r1]) (M' := M1) (ps := [b = mSb M1, vp_in ((nI (6 * t)) + 1) (mSl M1), (Value.int (mSx M1 ((nI (6 * t)) + 1).toNatClampNeg)) = .int (xs (6 * t + 1))]) rfl ⟨(sc_b (show mSc _ = _ from hs1.trans hs)), (sc_v1 (show mSc _ = _ from hs1.trans hs) hin), congrArg Value.int (sc_x1 (show mSc _ = _ from hs1.trans hs) hin hL), trivial⟩ ?_
  refine go_callV rfl rfl rfl (by decide) rfl (Nat.zero_le _) (Nat.zero_le _) ho1 ?_
  refine hcap _ (fun M2 hM2 => ⟨ne_i, ?_⟩)
  show Go 1312 277 _ _ 901 [.ref b, .ref x, .ref o, .ref u, .int (nI (6 * t)), x5, x6] [.int r1, .int r1] M2 (fun v _ => v = some (.int 1))
  refine go_icmp rfl (fun _ => ?_) (fun (z : ¬ (r1 = r1)) => absurd (show r1 = r1 from rfl) z)
  exact Go.mono (ih M2 (x5) (x6) hM2) (Nat.le_refl _) (show 100 * r ≤ 100 * (r + 1) - 0 - 0 by omega) (show 1000 * r ≤ 1000 * (r + 1) - 0 - 0 by omega) (fun _ _ q => q)

set_option maxRecDepth 100000 in
theorem law_18 {I : Mem → Prop} {x o u b L t r : Nat} {xs : Nat → Int32} {x5 x6 : Value} {M : Mem} (hI : IOk I x o u (b, L, xs)) (hops : Ops I x o u) (hL : L ≤ 3072) (hin : 6 * t + 6 ≤ L ∧ L ≤ 3072) (hM : I M) (ih : ∀ (M2 : Mem) (x5 x6 : Value), I M2 → Go 1312 277 (100 * r) (1000 * r) 1834 [.ref b, .ref x, .ref o, .ref u, .int (nI (6 * t)), x5, x6] [] M2 (fun v _ => v = some (.int 1))) : Go 1312 277 (100 * (r + 1)) (1000 * (r + 1)) 906 [.ref b, .ref x, .ref o, .ref u, .int (nI (6 * t)), x5, x6] [] M (fun v _ => v = some (.int 1)) := by
  obtain ⟨hx, ho, hu, hu1, hs⟩ := hI M hM
  show Go 1312 277 _ _ 906 [.ref b, .ref x, .ref o, .ref u, .int (nI (6 * t)), x5, x6] [] M (fun v _ => v = some (.int 1))
  refine go_blk 1 [] (pc' := 907) (vs' := [.ref b, .ref x, .ref o, .ref u, .int (nI (6 * t)), x5, x6]) (st' := [.ref x]) (M' := M) (ps := []) rfl trivial ?_
  refine go_callV rfl rfl rfl (by decide) rfl (show 0 + pMc (tbl 134) ≤ _ by show 0 ≤ 100 * (r + 1); omega) (show 0 + pMs (tbl 134) ≤ _ by show 0 ≤ 1000 * (r + 1); omega) hx ?_
  refine hops.2.2.2.2.2.2.2.2.2.2.2.2.2.2.2.2.2.2.1 M hM _ (fun r1 M1 ho1 hs1 hcap => ⟨ne_i, ?_⟩)
  show Go 1312 277 _ _ 910 [.ref b, .ref x, .ref o, .ref u, .int (nI (6 * t)), x5, x6] [.int r1] M1 (fun v _ => v = some (.int 1))
  refine go_blk 1 [] (pc' := 911) (vs' := [.ref b, .ref x, .ref o, .ref u, .int (nI (6 * t)), x5, x6]) (st' := [.ref o, .int r1]) (M' := M1) (ps := []) rfl trivial ?_
  refine go_callV rfl rfl rfl (by decide) rfl (Nat.zero_le _) (Nat.zero_le _) ho1 ?_
  refine hcap _ (fun M2 hM2 => ⟨ne_i, ?_⟩)
  show Go 1312 277 _ _ 914 [.ref b, .ref x, .ref o, .ref u, .int (nI (6 * t)), x5, x6] [.int r1, .int r1] M2 (fun v _ => v = some (.int 1))
  refine go_icmp rfl (fun _ => ?_) (fun (z : ¬ (r1 = r1)) => absurd (show r1 = r1 from rfl) z)
  exact Go.mono (ih M2 (x5) (x6) hM2) (Nat.le_refl _) (show 100 * r ≤ 100 * (r + 1) - 0 - 0 by omega) (show 1000 * r ≤ 1000 * (r + 1) - 0 - 0 by omega) (fun _ _ q => q)

set_option maxRecDepth 100000 in
theorem law_19 {I : Mem → Prop} {x o u b L t r : Nat} {xs : Nat → Int32} {x5 x6 : Value} {M : Mem} (hI : IOk I x o u (b, L, xs)) (hops : Ops I x o u) (hL : L ≤ 3072) (hin : 6 * t + 6 ≤ L ∧ L ≤ 3072) (hM : I M) (ih : ∀ (M2 : Mem) (x5 x6 : Value), I M2 → Go 1312 277 (100 * r) (1000 * r) 1834 [.ref b, .ref x, .ref o, .ref u, .int (nI (6 * t)), x5, x6] [] M2 (fun v _ => v = some (.int 1))) : Go 1312 277 (100 * (r + 1)) (1000 * (r + 1)) 919 [.ref b, .ref x, .ref o, .ref u, .int (nI (6 * t)), x5, x6] [] M (fun v _ => v = some (.int 1)) := by
  obtain ⟨hx, ho, hu, hu1, hs⟩ := hI M hM
  show Go 1312 277 _ _ 919 [.ref b, .ref x, .ref o, .ref u, .int (nI (6 * t)), x5, x6] [] M (fun v _ => v = some (.int 1))
  refine go_blk 11 [some (.int (xs (6 * t + 1))), some (.int (xs (6 * t + 2)))] (pc' := 932) (vs' := [.ref b, .ref x, .ref o, .ref u, .int (nI (6 * t)), x5, x6]) (st' := [.int (xs (6 * t + 2)), .int (xs (6 * t + 1)), .ref x]) (M' := M) (ps := [b = mSb M, vp_in ((nI (6 * t)) + 1) (mSl M), (Value.int (mSx M ((nI (6 * t)) + 1).toNatClampNeg)) = .int (xs (6 * t + 1)), b = mSb M, vp_in ((nI (6 * t)) + 2) (mSl M), (Value.int (mSx M ((nI (6 * t)) + 2).toNatClampNeg)) = .int (xs (6 * t + 2))]) rfl ⟨(sc_b hs), (sc_v1 hs hin), congrArg Value.int (sc_x1 hs hin hL), (sc_b hs), (sc_v2 hs hin), congrArg Value.int (sc_x2 hs hin hL), trivial⟩ ?_
  refine go_callV rfl rfl rfl (by decide) rfl (show 0 + pMc (tbl 135) ≤ _ by show 0 ≤ 100 * (r + 1); omega) (show 0 + pMs (tbl 135) ≤ _ by show 0 ≤ 1000 * (r + 1); omega) hx ?_
  refine hops.2.2.2.2.2.2.2.2.2.2.2.2.2.2.2.2.2.2.2.1 M _ _ hM _ (fun r1 M1 ho1 hs1 hcap => ⟨ne_i, ?_⟩)
  show Go 1312 277 _ _ 935 [.ref b, .ref x, .ref o, .ref u, .int (nI (6 * t)), x5, x6] [.int r1] M1 (fun v _ => v = some (.int 1))
  refine go_blk 11 [some (.int (xs (6 * t + 1))), some (.int (xs (6 * t + 2)))] (pc' := 948) (vs' := [.ref b, .ref x, .ref o, .ref u, .int (nI (6 * t)), x5, x6]) (st' := [.int (xs (6 * t + 2)), .int (xs (6 * t + 1)), .ref o, .int r1]) (M' := M1) (ps := [b = mSb M1, vp_in ((nI (6 * t)) + 1) (mSl M1), (Value.int (mSx M1 ((nI (6 * t)) + 1).toNatClampNeg)) = .int (xs (6 * t + 1)), b = mSb M1, vp_in ((nI (6 * t)) + 2) (mSl M1), (Value.int (mSx M1 ((nI (6 * t)) + 2).toNatClampNeg)) = .int (xs (6 * t + 2))]) rfl ⟨(sc_b (show mSc _ = _ from hs1.trans hs)), (sc_v1 (show mSc _ = _ from hs1.trans hs) hin), congrArg Value.int (sc_x1 (show mSc _ = _ from hs1.trans hs) hin hL), (sc_b (show mSc _ = _ from hs1.trans hs)), (sc_v2 (show mSc _ = _ from hs1.trans hs) hin), congrArg Value.int (sc_x2 (show mSc _ = _ from hs1.trans hs) hin hL), trivial⟩ ?_
  refine go_callV rfl rfl rfl (by decide) rfl (Nat.zero_le _) (Nat.zero_le _) ho1 ?_
  refine hcap _ (fun M2 hM2 => ⟨ne_i, ?_⟩)
  show Go 1312 277 _ _ 951 [.ref b, .ref x, .ref o, .ref u, .int (nI (6 * t)), x5, x6] [.int r1, .int r1] M2 (fun v _ => v = some (.int 1))
  refine go_icmp rfl (fun _ => ?_) (fun (z : ¬ (r1 = r1)) => absurd (show r1 = r1 from rfl) z)
  exact Go.mono (ih M2 (x5) (x6) hM2) (Nat.le_refl _) (show 100 * r ≤ 100 * (r + 1) - 0 - 0 by omega) (show 1000 * r ≤ 1000 * (r + 1) - 0 - 0 by omega) (fun _ _ q => q)

set_option maxRecDepth 100000 in
theorem law_20 {I : Mem → Prop} {x o u b L t r : Nat} {xs : Nat → Int32} {x5 x6 : Value} {M : Mem} (hI : IOk I x o u (b, L, xs)) (hops : Ops I x o u) (hL : L ≤ 3072) (hin : 6 * t + 6 ≤ L ∧ L ≤ 3072) (hM : I M) (ih : ∀ (M2 : Mem) (x5 x6 : Value), I M2 → Go 1312 277 (100 * r) (1000 * r) 1834 [.ref b, .ref x, .ref o, .ref u, .int (nI (6 * t)), x5, x6] [] M2 (fun v _ => v = some (.int 1))) : Go 1312 277 (100 * (r + 1)) (1000 * (r + 1)) 956 [.ref b, .ref x, .ref o, .ref u, .int (nI (6 * t)), x5, x6] [] M (fun v _ => v = some (.int 1)) := by
  obtain ⟨hx, ho, hu, hu1, hs⟩ := hI M hM
  show Go 1312 277 _ _ 956 [.ref b, .ref x, .ref o, .ref u, .int (nI (6 * t)), x5, x6] [] M (fun v _ => v = some (.int 1))
  refine go_blk 6 [some (.int (xs (6 * t + 1)))] (pc' := 963) (vs' := [.ref b, .ref x, .ref o, .ref u, .int (nI (6 * t)), x5, x6]) (st' := [.int (xs (6 * t + 1)), .ref x]) (M' := M) (ps := [b = mSb M, vp_in ((nI (6 * t)) + 1) (mSl M), (Value.int (mSx M ((nI (6 * t)) + 1).toNatClampNeg)) = .int (xs (6 * t + 1))]) rfl ⟨(sc_b hs), (sc_v1 hs hin), congrArg Value.int (sc_x1 hs hin hL), trivial⟩ ?_
  refine go_callV rfl rfl rfl (by decide) rfl (show 0 + pMc (tbl 136) ≤ _ by show 0 ≤ 100 * (r + 1); omega) (show 0 + pMs (tbl 136) ≤ _ by show 0 ≤ 1000 * (r + 1); omega) hx ?_
  refine hops.2.2.2.2.2.2.2.2.2.2.2.2.2.2.2.2.2.2.2.2.1 M _ hM _ (fun r1 M1 ho1 hs1 hcap => ⟨ne_i, ?_⟩)
  show Go 1312 277 _ _ 966 [.ref b, .ref x, .ref o, .ref u, .int (nI (6 * t)), x5, x6] [.int r1] M1 (fun v _ => v = some (.int 1))
  refine go_blk 6 [some (.int (xs (6 * t + 1)))] (pc' := 973) (vs' := [.ref b, .ref x, .ref o, .ref u, .int (nI (6 * t)), x5, x6]) (st' := [.int (xs (6 * t + 1)), .ref o, .int r1]) (M' := M1) (ps := [b = mSb M1, vp_in ((nI (6 * t)) + 1) (mSl M1), (Value.int (mSx M1 ((nI (6 * t)) + 1).toNatClampNeg)) = .int (xs (6 * t + 1))]) rfl ⟨(sc_b (show mSc _ = _ from hs1.trans hs)), (sc_v1 (show mSc _ = _ from hs1.trans hs) hin), congrArg Value.int (sc_x1 (show mSc _ = _ from hs1.trans hs) hin hL), trivial⟩ ?_
  refine go_callV rfl rfl rfl (by decide) rfl (Nat.zero_le _) (Nat.zero_le _) ho1 ?_
  refine hcap _ (fun M2 hM2 => ⟨ne_i, ?_⟩)
  show Go 1312 277 _ _ 976 [.ref b, .ref x, .ref o, .ref u, .int (nI (6 * t)), x5, x6] [.int r1, .int r1] M2 (fun v _ => v = some (.int 1))
  refine go_icmp rfl (fun _ => ?_) (fun (z : ¬ (r1 = r1)) => absurd (show r1 = r1 from rfl) z)
  exact Go.mono (ih M2 (x5) (x6) hM2) (Nat.le_refl _) (show 100 * r ≤ 100 * (r + 1) - 0 - 0 by omega) (show 1000 * r ≤ 1000 * (r + 1) - 0 - 0 by omega) (fun _ _ q => q)

set_option maxRecDepth 100000 in
theorem law_21 {I : Mem → Prop} {x o u b L t r : Nat} {xs : Nat → Int32} {x5 x6 : Value} {M : Mem} (hI : IOk I x o u (b, L, xs)) (hops : Ops I x o u) (hL : L ≤ 3072) (hin : 6 * t + 6 ≤ L ∧ L ≤ 3072) (hM : I M) (ih : ∀ (M2 : Mem) (x5 x6 : Value), I M2 → Go 1312 277 (100 * r) (1000 * r) 1834 [.ref b, .ref x, .ref o, .ref u, .int (nI (6 * t)), x5, x6] [] M2 (fun v _ => v = some (.int 1))) : Go 1312 277 (100 * (r + 1)) (1000 * (r + 1)) 981 [.ref b, .ref x, .ref o, .ref u, .int (nI (6 * t)), x5, x6] [] M (fun v _ => v = some (.int 1)) := by
  obtain ⟨hx, ho, hu, hu1, hs⟩ := hI M hM
  show Go 1312 277 _ _ 981 [.ref b, .ref x, .ref o, .ref u, .int (nI (6 * t)), x5, x6] [] M (fun v _ => v = some (.int 1))
  refine go_blk 12 [some (.int (xs (6 * t + 1))), some (.int (xs (6 * t + 2)))] (pc' := 995) (vs' := [.ref b, .ref x, .ref o, .ref u, .int (nI (6 * t)), x5, x6]) (st' := [.ref u, .int (xs (6 * t + 2)), .int (xs (6 * t + 1)), .ref x]) (M' := M) (ps := [b = mSb M, vp_in ((nI (6 * t)) + 1) (mSl M), (Value.int (mSx M ((nI (6 * t)) + 1).toNatClampNeg)) = .int (xs (6 * t + 1)), b = mSb M, vp_in ((nI (6 * t)) + 2) (mSl M), (Value.int (mSx M ((nI (6 * t)) + 2).toNatClampNeg)) = .int (xs (6 * t + 2))]) rfl ⟨(sc_b hs), (sc_v1 hs hin), congrArg Value.int (sc_x1 hs hin hL), (sc_b hs), (sc_v2 hs hin), congrArg Value.int (sc_x2 hs hin hL), trivial⟩ ?_
  refine go_abt rfl (by decide) (by decide) (by omega) (by omega) hu (by rw [hu1]; exact Nat.le_refl 1) hx ?_
  refine hops.2.2.2.2.2.2.2.2.2.2.2.2.2.2.2.2.2.2.2.2.2.1 M _ _ hM _ (fun r1 M1 ho1 hu9 hs1 hcap => Or.inl ⟨r1, rfl, hu9, ?_⟩) (fun M1 ho1 hs1 hcap => Or.inr ⟨rfl, ?_⟩)
  · -- 0
    show Go 1312 277 _ _ 998 [.ref b, .ref x, .ref o, .ref u, .int (nI (6 * t)), x5, x6] [.int 0] (sJ M1 u 0 r1.toInt64) (fun v _ => v = some (.int 1))
    refine go_blk 12 [some (.int (xs (6 * t + 1))), some (.int (xs (6 * t + 2)))] (pc' := 1013) (vs' := [.ref b, .ref x, .ref o, .ref u, .int (nI (6 * t)), .int 0, x6]) (st' := [.int (xs (6 * t + 2)), .int (xs (6 * t + 1)), .ref o]) (M' := (sJ M1 u 0 r1.toInt64)) (ps := [b = mSb (sJ M1 u 0 r1.toInt64), vp_in ((nI (6 * t)) + 1) (mSl (sJ M1 u 0 r1.toInt64)), (Value.int (mSx (sJ M1 u 0 r1.toInt64) ((nI (6 * t)) + 1).toNatClampNeg)) = .int (xs (6 * t + 1)), b = mSb (sJ M1 u 0 r1.toInt64), vp_in ((nI (6 * t)) + 2) (mSl (sJ M1 u 0 r1.toInt64)), (Value.int (mSx (sJ M1 u 0 r1.toInt64) ((nI (6 * t)) + 2).toNatClampNeg)) = .int (xs (6 * t + 2))]) rfl ⟨(sc_b (show mSc _ = _ from hs1.trans hs)), (sc_v1 (show mSc _ = _ from hs1.trans hs) hin), congrArg Value.int (sc_x1 (show mSc _ = _ from hs1.trans hs) hin hL), (sc_b (show mSc _ = _ from hs1.trans hs)), (sc_v2 (show mSc _ = _ from hs1.trans hs) hin), congrArg Value.int (sc_x2 (show mSc _ = _ from hs1.trans hs) hin hL), trivial⟩ ?_
    refine go_callV rfl rfl rfl (by decide) rfl (Nat.zero_le _) (Nat.zero_le _) ho1 ?_
    refine hcap _ (fun M2 hM2 ht hj => ⟨ne_i, ?_⟩)
    show Go 1312 277 _ _ 1016 [.ref b, .ref x, .ref o, .ref u, .int (nI (6 * t)), .int 0, x6] [.int r1] M2 (fun v _ => v = some (.int 1))
    refine go_blk 2 [] (pc' := 1019) (vs' := [.ref b, .ref x, .ref o, .ref u, .int (nI (6 * t)), .int 0, .int r1]) (st' := [.ref o]) (M' := M2) (ps := []) rfl trivial ?_
    refine go_callV rfl rfl rfl (by decide) rfl (Nat.zero_le _) (Nat.zero_le _) (hI M2 hM2).2.1 ?_
    refine s_Mo_thrown (hI M2 hM2).2.1 ⟨ne_i, ?_⟩
    show Go 1312 277 _ _ 1022 [.ref b, .ref x, .ref o, .ref u, .int (nI (6 * t)), .int 0, .int r1] [.int (mI M2 o 0)] M2 (fun v _ => v = some (.int 1))
    refine go_blk 1 [] (pc' := 1024) (vs' := [.ref b, .ref x, .ref o, .ref u, .int (nI (6 * t)), .int 0, .int r1]) (st' := [.int 0, .int (mI M2 o 0)]) (M' := M2) (ps := []) rfl trivial ?_
    refine go_icmp rfl (fun _ => ?_) (fun (z : ¬ ((mI M2 o 0) = 0)) => absurd (show (mI M2 o 0) = 0 from ht) z)
    refine go_blk 1 [] (pc' := 1031) (vs' := [.ref b, .ref x, .ref o, .ref u, .int (nI (6 * t)), .int 0, .int r1]) (st' := [.int 0]) (M' := M2) (ps := []) rfl trivial ?_
    refine go_if rfl (fun (z : ¬ (0 : Int32) = 0) => absurd z (show ¬ (¬ (0 : Int32) = 0) from (by decide))) (fun _ => ?_)
    refine go_blk 6 [] (pc' := 1041) (vs' := [.ref b, .ref x, .ref o, .ref u, .int (nI (6 * t)), .int 0, .int r1]) (st' := [.int (lg_cmp (mJ M2 u ((0 : Int32).toNatClampNeg)) r1.toInt64)]) (M' := M2) (ps := [ob (M2) u 16, vp_in 0 (mN (M2) u)]) rfl ⟨(hI M2 hM2).2.2.1, (by rw [(hI M2 hM2).2.2.2.1]; exact vp_in_nI (n := 0) (by decide) (by decide)), trivial⟩ ?_
    refine go_if rfl (fun _ => ?_) (fun (z : ¬ ((lg_cmp (mJ M2 u ((0 : Int32).toNatClampNeg)) r1.toInt64) = 0)) => absurd (show (lg_cmp (mJ M2 u ((0 : Int32).toNatClampNeg)) r1.toInt64) = 0 from (lg_self hj)) z)
    refine go_blk 1 [] (pc' := 1834) (vs' := [.ref b, .ref x, .ref o, .ref u, .int (nI (6 * t)), .int 0, .int r1]) (st' := []) (M' := M2) (ps := []) rfl trivial ?_
    exact Go.mono (ih M2 (.int 0) (.int r1) hM2) (Nat.le_refl _) (show 100 * r ≤ 100 * (r + 1) - 100 - 0 - 0 by omega) (show 1000 * r ≤ 1000 * (r + 1) - 1000 - 0 - 0 by omega) (fun _ _ q => q)
  · -- 1
    show Go 1312 277 _ _ 998 [.ref b, .ref x, .ref o, .ref u, .int (nI (6 * t)), x5, x6] [.int 1] M1 (fun v _ => v = some (.int 1))
    refine go_blk 12 [some (.int (xs (6 * t + 1))), some (.int (xs (6 * t + 2)))] (pc' := 1013) (vs' := [.ref b, .ref x, .ref o, .ref u, .int (nI (6 * t)), .int 1, x6]) (st' := [.int (xs (6 * t + 2)), .int (xs (6 * t + 1)), .ref o]) (M' := M1) (ps := [b = mSb M1, vp_in ((nI (6 * t)) + 1) (mSl M1), (Value.int (mSx M1 ((nI (6 * t)) + 1).toNatClampNeg)) = .int (xs (6 * t + 1)), b = mSb M1, vp_in ((nI (6 * t)) + 2) (mSl M1), (Value.int (mSx M1 ((nI (6 * t)) + 2).toNatClampNeg)) = .int (xs (6 * t + 2))]) rfl ⟨(sc_b (show mSc _ = _ from hs1.trans hs)), (sc_v1 (show mSc _ = _ from hs1.trans hs) hin), congrArg Value.int (sc_x1 (show mSc _ = _ from hs1.trans hs) hin hL), (sc_b (show mSc _ = _ from hs1.trans hs)), (sc_v2 (show mSc _ = _ from hs1.trans hs) hin), congrArg Value.int (sc_x2 (show mSc _ = _ from hs1.trans hs) hin hL), trivial⟩ ?_
    refine go_callV rfl rfl rfl (by decide) rfl (Nat.zero_le _) (Nat.zero_le _) ho1 ?_
    refine hcap _ (fun M2 v2 hM2 ht => ⟨ne_i, ?_⟩)
    show Go 1312 277 _ _ 1016 [.ref b, .ref x, .ref o, .ref u, .int (nI (6 * t)), .int 1, x6] [.int v2] M2 (fun v _ => v = some (.int 1))
    refine go_blk 2 [] (pc' := 1019) (vs' := [.ref b, .ref x, .ref o, .ref u, .int (nI (6 * t)), .int 1, .int v2]) (st' := [.ref o]) (M' := M2) (ps := []) rfl trivial ?_
    refine go_callV rfl rfl rfl (by decide) rfl (Nat.zero_le _) (Nat.zero_le _) (hI M2 hM2).2.1 ?_
    refine s_Mo_thrown (hI M2 hM2).2.1 ⟨ne_i, ?_⟩
    show Go 1312 277 _ _ 1022 [.ref b, .ref x, .ref o, .ref u, .int (nI (6 * t)), .int 1, .int v2] [.int (mI M2 o 0)] M2 (fun v _ => v = some (.int 1))
    refine go_blk 1 [] (pc' := 1024) (vs' := [.ref b, .ref x, .ref o, .ref u, .int (nI (6 * t)), .int 1, .int v2]) (st' := [.int 1, .int (mI M2 o 0)]) (M' := M2) (ps := []) rfl trivial ?_
    refine go_icmp rfl (fun _ => ?_) (fun (z : ¬ ((mI M2 o 0) = 1)) => absurd (show (mI M2 o 0) = 1 from ht) z)
    refine go_blk 1 [] (pc' := 1031) (vs' := [.ref b, .ref x, .ref o, .ref u, .int (nI (6 * t)), .int 1, .int v2]) (st' := [.int 1]) (M' := M2) (ps := []) rfl trivial ?_
    refine go_if rfl (fun _ => ?_) (fun (z : ¬ (¬ (1 : Int32) = 0)) => absurd (show ¬ (1 : Int32) = 0 from (by decide)) z)
    refine go_blk 1 [] (pc' := 1834) (vs' := [.ref b, .ref x, .ref o, .ref u, .int (nI (6 * t)), .int 1, .int v2]) (st' := []) (M' := M2) (ps := []) rfl trivial ?_
    exact Go.mono (ih M2 (.int 1) (.int v2) hM2) (Nat.le_refl _) (show 100 * r ≤ 100 * (r + 1) - 100 - 0 - 0 by omega) (show 1000 * r ≤ 1000 * (r + 1) - 1000 - 0 - 0 by omega) (fun _ _ q => q)

set_option maxRecDepth 100000 in
theorem law_22 {I : Mem → Prop} {x o u b L t r : Nat} {xs : Nat → Int32} {x5 x6 : Value} {M : Mem} (hI : IOk I x o u (b, L, xs)) (hops : Ops I x o u) (hL : L ≤ 3072) (hin : 6 * t + 6 ≤ L ∧ L ≤ 3072) (hM : I M) (ih : ∀ (M2 : Mem) (x5 x6 : Value), I M2 → Go 1312 277 (100 * r) (1000 * r) 1834 [.ref b, .ref x, .ref o, .ref u, .int (nI (6 * t)), x5, x6] [] M2 (fun v _ => v = some (.int 1))) : Go 1312 277 (100 * (r + 1)) (1000 * (r + 1)) 1049 [.ref b, .ref x, .ref o, .ref u, .int (nI (6 * t)), x5, x6] [] M (fun v _ => v = some (.int 1)) := by
  obtain ⟨hx, ho, hu, hu1, hs⟩ := hI M hM
  show Go 1312 277 _ _ 1049 [.ref b, .ref x, .ref o, .ref u, .int (nI (6 * t)), x5, x6] [] M (fun v _ => v = some (.int 1))
  refine go_blk 16 [some (.int (xs (6 * t + 1))), some (.int (xs (6 * t + 2))), some (.int (xs (6 * t + 3)))] (pc' := 1068) (vs' := [.ref b, .ref x, .ref o, .ref u, .int (nI (6 * t)), x5, x6]) (st' := [.int (xs (6 * t + 3)), .int (xs (6 * t + 2)), .int (xs (6 * t + 1)), .ref x]) (M' := M) (ps := [b = mSb M, vp_in ((nI (6 * t)) + 1) (mSl M), (Value.int (mSx M ((nI (6 * t)) + 1).toNatClampNeg)) = .int (xs (6 * t + 1)), b = mSb M, vp_in ((nI (6 * t)) + 2) (mSl M), (Value.int (mSx M ((nI (6 * t)) + 2).toNatClampNeg)) = .int (xs (6 * t + 2)), b = mSb M, vp_in ((nI (6 * t)) + 3) (mSl M), (Value.int (mSx M ((nI (6 * t)) + 3).toNatClampNeg)) = .int (xs (6 * t + 3))]) rfl ⟨(sc_b hs), (sc_v1 hs hin), congrArg Value.int (sc_x1 hs hin hL), (sc_b hs), (sc_v2 hs hin), congrArg Value.int (sc_x2 hs hin hL), (sc_b hs), (sc_v3 hs hin), congrArg Value.int (sc_x3 hs hin hL), trivial⟩ ?_
  refine go_callV rfl rfl rfl (by decide) rfl (show 0 + pMc (tbl 138) ≤ _ by show 0 ≤ 100 * (r + 1); omega) (show 0 + pMs (tbl 138) ≤ _ by show 0 ≤ 1000 * (r + 1); omega) hx ?_
  refine hops.2.2.2.2.2.2.2.2.2.2.2.2.2.2.2.2.2.2.2.2.2.2.1 M _ _ _ hM _ (fun r1 M1 ho1 hs1 hcap => ⟨ne_i, ?_⟩)
  show Go 1312 277 _ _ 1071 [.ref b, .ref x, .ref o, .ref u, .int (nI (6 * t)), x5, x6] [.int r1] M1 (fun v _ => v = some (.int 1))
  refine go_blk 16 [some (.int (xs (6 * t + 1))), some (.int (xs (6 * t + 2))), some (.int (xs (6 * t + 3)))] (pc' := 1090) (vs' := [.ref b, .ref x, .ref o, .ref u, .int (nI (6 * t)), x5, x6]) (st' := [.int (xs (6 * t + 3)), .int (xs (6 * t + 2)), .int (xs (6 * t + 1)), .ref o, .int r1]) (M' := M1) (ps := [b = mSb M1, vp_in ((nI (6 * t)) + 1) (mSl M1), (Value.int (mSx M1 ((nI (6 * t)) + 1).toNatClampNeg)) = .int (xs (6 * t + 1)), b = mSb M1, vp_in ((nI (6 * t)) + 2) (mSl M1), (Value.int (mSx M1 ((nI (6 * t)) + 2).toNatClampNeg)) = .int (xs (6 * t + 2)), b = mSb M1, vp_in ((nI (6 * t)) + 3) (mSl M1), (Value.int (mSx M1 ((nI (6 * t)) + 3).toNatClampNeg)) = .int (xs (6 * t + 3))]) rfl ⟨(sc_b (show mSc _ = _ from hs1.trans hs)), (sc_v1 (show mSc _ = _ from hs1.trans hs) hin), congrArg Value.int (sc_x1 (show mSc _ = _ from hs1.trans hs) hin hL), (sc_b (show mSc _ = _ from hs1.trans hs)), (sc_v2 (show mSc _ = _ from hs1.trans hs) hin), congrArg Value.int (sc_x2 (show mSc _ = _ from hs1.trans hs) hin hL), (sc_b (show mSc _ = _ from hs1.trans hs)), (sc_v3 (show mSc _ = _ from hs1.trans hs) hin), congrArg Value.int (sc_x3 (show mSc _ = _ from hs1.trans hs) hin hL), trivial⟩ ?_
  refine go_callV rfl rfl rfl (by decide) rfl (Nat.zero_le _) (Nat.zero_le _) ho1 ?_
  refine hcap _ (fun M2 hM2 => ⟨ne_i, ?_⟩)
  show Go 1312 277 _ _ 1093 [.ref b, .ref x, .ref o, .ref u, .int (nI (6 * t)), x5, x6] [.int r1, .int r1] M2 (fun v _ => v = some (.int 1))
  refine go_icmp rfl (fun _ => ?_) (fun (z : ¬ (r1 = r1)) => absurd (show r1 = r1 from rfl) z)
  exact Go.mono (ih M2 (x5) (x6) hM2) (Nat.le_refl _) (show 100 * r ≤ 100 * (r + 1) - 0 - 0 by omega) (show 1000 * r ≤ 1000 * (r + 1) - 0 - 0 by omega) (fun _ _ q => q)

set_option maxRecDepth 100000 in
theorem law_23 {I : Mem → Prop} {x o u b L t r : Nat} {xs : Nat → Int32} {x5 x6 : Value} {M : Mem} (hI : IOk I x o u (b, L, xs)) (hops : Ops I x o u) (hL : L ≤ 3072) (hin : 6 * t + 6 ≤ L ∧ L ≤ 3072) (hM : I M) (ih : ∀ (M2 : Mem) (x5 x6 : Value), I M2 → Go 1312 277 (100 * r) (1000 * r) 1834 [.ref b, .ref x, .ref o, .ref u, .int (nI (6 * t)), x5, x6] [] M2 (fun v _ => v = some (.int 1))) : Go 1312 277 (100 * (r + 1)) (1000 * (r + 1)) 1098 [.ref b, .ref x, .ref o, .ref u, .int (nI (6 * t)), x5, x6] [] M (fun v _ => v = some (.int 1)) := by
  obtain ⟨hx, ho, hu, hu1, hs⟩ := hI M hM
  show Go 1312 277 _ _ 1098 [.ref b, .ref x, .ref o, .ref u, .int (nI (6 * t)), x5, x6] [] M (fun v _ => v = some (.int 1))
  refine go_blk 11 [some (.int (xs (6 * t + 1))), some (.int (xs (6 * t + 2)))] (pc' := 1111) (vs' := [.ref b, .ref x, .ref o, .ref u, .int (nI (6 * t)), x5, x6]) (st' := [.int (xs (6 * t + 2)), .int (xs (6 * t + 1)), .ref x]) (M' := M) (ps := [b = mSb M, vp_in ((nI (6 * t)) + 1) (mSl M), (Value.int (mSx M ((nI (6 * t)) + 1).toNatClampNeg)) = .int (xs (6 * t + 1)), b = mSb M, vp_in ((nI (6 * t)) + 2) (mSl M), (Value.int (mSx M ((nI (6 * t)) + 2).toNatClampNeg)) = .int (xs (6 * t + 2))]) rfl ⟨(sc_b hs), (sc_v1 hs hin), congrArg Value.int (sc_x1 hs hin hL), (sc_b hs), (sc_v2 hs hin), congrArg Value.int (sc_x2 hs hin hL), trivial⟩ ?_
  refine go_callV rfl rfl rfl (by decide) rfl (show 0 + pMc (tbl 139) ≤ _ by show 0 ≤ 100 * (r + 1); omega) (show 0 + pMs (tbl 139) ≤ _ by show 0 ≤ 1000 * (r + 1); omega) hx ?_
  refine hops.2.2.2.2.2.2.2.2.2.2.2.2.2.2.2.2.2.2.2.2.2.2.2.1 M _ _ hM _ (fun r1 M1 ho1 hs1 hcap => ⟨ne_i, ?_⟩)
  show Go 1312 277 _ _ 1114 [.ref b, .ref x, .ref o, .ref u, .int (nI (6 * t)), x5, x6] [.int r1] M1 (fun v _ => v = some (.int 1))
  refine go_blk 11 [some (.int (xs (6 * t + 1))), some (.int (xs (6 * t + 2)))] (pc' := 1127) (vs' := [.ref b, .ref x, .ref o, .ref u, .int (nI (6 * t)), x5, x6]) (st' := [.int (xs (6 * t + 2)), .int (xs (6 * t + 1)), .ref o, .int r1]) (M' := M1) (ps := [b = mSb M1, vp_in ((nI (6 * t)) + 1) (mSl M1), (Value.int (mSx M1 ((nI (6 * t)) + 1).toNatClampNeg)) = .int (xs (6 * t + 1)), b = mSb M1, vp_in ((nI (6 * t)) + 2) (mSl M1), (Value.int (mSx M1 ((nI (6 * t)) + 2).toNatClampNeg)) = .int (xs (6 * t + 2))]) rfl ⟨(sc_b (show mSc _ = _ from hs1.trans hs)), (sc_v1 (show mSc _ = _ from hs1.trans hs) hin), congrArg Value.int (sc_x1 (show mSc _ = _ from hs1.trans hs) hin hL), (sc_b (show mSc _ = _ from hs1.trans hs)), (sc_v2 (show mSc _ = _ from hs1.trans hs) hin), congrArg Value.int (sc_x2 (show mSc _ = _ from hs1.trans hs) hin hL), trivial⟩ ?_
  refine go_callV rfl rfl rfl (by decide) rfl (Nat.zero_le _) (Nat.zero_le _) ho1 ?_
  refine hcap _ (fun M2 hM2 => ⟨ne_i, ?_⟩)
  show Go 1312 277 _ _ 1130 [.ref b, .ref x, .ref o, .ref u, .int (nI (6 * t)), x5, x6] [.int r1, .int r1] M2 (fun v _ => v = some (.int 1))
  refine go_icmp rfl (fun _ => ?_) (fun (z : ¬ (r1 = r1)) => absurd (show r1 = r1 from rfl) z)
  exact Go.mono (ih M2 (x5) (x6) hM2) (Nat.le_refl _) (show 100 * r ≤ 100 * (r + 1) - 0 - 0 by omega) (show 1000 * r ≤ 1000 * (r + 1) - 0 - 0 by omega) (fun _ _ q => q)

set_option maxRecDepth 100000 in
theorem law_24 {I : Mem → Prop} {x o u b L t r : Nat} {xs : Nat → Int32} {x5 x6 : Value} {M : Mem} (hI : IOk I x o u (b, L, xs)) (hops : Ops I x o u) (hL : L ≤ 3072) (hin : 6 * t + 6 ≤ L ∧ L ≤ 3072) (hM : I M) (ih : ∀ (M2 : Mem) (x5 x6 : Value), I M2 → Go 1312 277 (100 * r) (1000 * r) 1834 [.ref b, .ref x, .ref o, .ref u, .int (nI (6 * t)), x5, x6] [] M2 (fun v _ => v = some (.int 1))) : Go 1312 277 (100 * (r + 1)) (1000 * (r + 1)) 1135 [.ref b, .ref x, .ref o, .ref u, .int (nI (6 * t)), x5, x6] [] M (fun v _ => v = some (.int 1)) := by
  obtain ⟨hx, ho, hu, hu1, hs⟩ := hI M hM
  show Go 1312 277 _ _ 1135 [.ref b, .ref x, .ref o, .ref u, .int (nI (6 * t)), x5, x6] [] M (fun v _ => v = some (.int 1))
  refine go_blk 6 [some (.int (xs (6 * t + 1)))] (pc' := 1142) (vs' := [.ref b, .ref x, .ref o, .ref u, .int (nI (6 * t)), x5, x6]) (st' := [.int (xs (6 * t + 1)), .ref x]) (M' := M) (ps := [b = mSb M, vp_in ((nI (6 * t)) + 1) (mSl M), (Value.int (mSx M ((nI (6 * t)) + 1).toNatClampNeg)) = .int (xs (6 * t + 1))]) rfl ⟨(sc_b hs), (sc_v1 hs hin), congrArg Value.int (sc_x1 hs hin hL), trivial⟩ ?_
  refine go_callV rfl rfl rfl (by decide) rfl (show 0 + pMc (tbl 140) ≤ _ by show 0 ≤ 100 * (r + 1); omega) (show 0 + pMs (tbl 140) ≤ _ by show 0 ≤ 1000 * (r + 1); omega) hx ?_
  refine hops.2.2.2.2.2.2.2.2.2.2.2.2.2.2.2.2.2.2.2.2.2.2.2.2.1 M _ hM _ (fun r1 M1 ho1 hs1 hcap => ⟨ne_i, ?_⟩)
  show Go 1312 277 _ _ 1145 [.ref b, .ref x, .ref o, .ref u, .int (nI (6 * t)), x5, x6] [.int r1] M1 (fun v _ => v = some (.int 1))
  refine go_blk 6 [some (.int (xs (6 * t + 1)))] (pc' := 1152) (vs' := [.ref b, .ref x, .ref o, .ref u, .int (nI (6 * t)), x5, x6]) (st' := [.int (xs (6 * t + 1)), .ref o, .int r1]) (M' := M1) (ps := [b = mSb M1, vp_in ((nI (6 * t)) + 1) (mSl M1), (Value.int (mSx M1 ((nI (6 * t)) + 1).toNatClampNeg)) = .int (xs (6 * t + 1))]) rfl ⟨(sc_b (show mSc _ = _ from hs1.trans hs)), (sc_v1 (show mSc _ = _ from hs1.trans hs) hin), congrArg Value.int (sc_x1 (show mSc _ = _ from hs1.trans hs) hin hL), trivial⟩ ?_
  refine go_callV rfl rfl rfl (by decide) rfl (Nat.zero_le _) (Nat.zero_le _) ho1 ?_
  refine hcap _ (fun M2 hM2 => ⟨ne_i, ?_⟩)
  show Go 1312 277 _ _ 1155 [.ref b, .ref x, .ref o, .ref u, .int (nI (6 * t)), x5, x6] [.int r1, .int r1] M2 (fun v _ => v = some (.int 1))
  refine go_icmp rfl (fun _ => ?_) (fun (z : ¬ (r1 = r1)) => absurd (show r1 = r1 from rfl) z)
  exact Go.mono (ih M2 (x5) (x6) hM2) (Nat.le_refl _) (show 100 * r ≤ 100 * (r + 1) - 0 - 0 by omega) (show 1000 * r ≤ 1000 * (r + 1) - 0 - 0 by omega) (fun _ _ q => q)

set_option maxRecDepth 100000 in
theorem law_25 {I : Mem → Prop} {x o u b L t r : Nat} {xs : Nat → Int32} {x5 x6 : Value} {M : Mem} (hI : IOk I x o u (b, L, xs)) (hops : Ops I x o u) (hL : L ≤ 3072) (hin : 6 * t + 6 ≤ L ∧ L ≤ 3072) (hM : I M) (ih : ∀ (M2 : Mem) (x5 x6 : Value), I M2 → Go 1312 277 (100 * r) (1000 * r) 1834 [.ref b, .ref x, .ref o, .ref u, .int (nI (6 * t)), x5, x6] [] M2 (fun v _ => v = some (.int 1))) : Go 1312 277 (100 * (r + 1)) (1000 * (r + 1)) 1160 [.ref b, .ref x, .ref o, .ref u, .int (nI (6 * t)), x5, x6] [] M (fun v _ => v = some (.int 1)) := by
  obtain ⟨hx, ho, hu, hu1, hs⟩ := hI M hM
  show Go 1312 277 _ _ 1160 [.ref b, .ref x, .ref o, .ref u, .int (nI (6 * t)), x5, x6] [] M (fun v _ => v = some (.int 1))
  refine go_blk 1 [] (pc' := 1161) (vs' := [.ref b, .ref x, .ref o, .ref u, .int (nI (6 * t)), x5, x6]) (st' := [.ref x]) (M' := M) (ps := []) rfl trivial ?_
  refine go_callV rfl rfl rfl (by decide) rfl (show 0 + pMc (tbl 141) ≤ _ by show 0 ≤ 100 * (r + 1); omega) (show 0 + pMs (tbl 141) ≤ _ by show 0 ≤ 1000 * (r + 1); omega) hx ?_
  refine hops.2.2.2.2.2.2.2.2.2.2.2.2.2.2.2.2.2.2.2.2.2.2.2.2.2.1 M hM _ (fun r1 M1 ho1 hs1 hcap => ⟨ne_i, ?_⟩)
  show Go 1312 277 _ _ 1164 [.ref b, .ref x, .ref o, .ref u, .int (nI (6 * t)), x5, x6] [.int r1] M1 (fun v _ => v = some (.int 1))
  refine go_blk 1 [] (pc' := 1165) (vs' := [.ref b, .ref x, .ref o, .ref u, .int (nI (6 * t)), x5, x6]) (st' := [.ref o, .int r1]) (M' := M1) (ps := []) rfl trivial ?_
  refine go_callV rfl rfl rfl (by decide) rfl (Nat.zero_le _) (Nat.zero_le _) ho1 ?_
  refine hcap _ (fun M2 hM2 => ⟨ne_i, ?_⟩)
  show Go 1312 277 _ _ 1168 [.ref b, .ref x, .ref o, .ref u, .int (nI (6 * t)), x5, x6] [.int r1, .int r1] M2 (fun v _ => v = some (.int 1))
  refine go_icmp rfl (fun _ => ?_) (fun (z : ¬ (r1 = r1)) => absurd (show r1 = r1 from rfl) z)
  exact Go.mono (ih M2 (x5) (x6) hM2) (Nat.le_refl _) (show 100 * r ≤ 100 * (r + 1) - 0 - 0 by omega) (show 1000 * r ≤ 1000 * (r + 1) - 0 - 0 by omega) (fun _ _ q => q)

set_option maxRecDepth 100000 in
theorem law_26 {I : Mem → Prop} {x o u b L t r : Nat} {xs : Nat → Int32} {x5 x6 : Value} {M : Mem} (hI : IOk I x o u (b, L, xs)) (hops : Ops I x o u) (hL : L ≤ 3072) (hin : 6 * t + 6 ≤ L ∧ L ≤ 3072) (hM : I M) (ih : ∀ (M2 : Mem) (x5 x6 : Value), I M2 → Go 1312 277 (100 * r) (1000 * r) 1834 [.ref b, .ref x, .ref o, .ref u, .int (nI (6 * t)), x5, x6] [] M2 (fun v _ => v = some (.int 1))) : Go 1312 277 (100 * (r + 1)) (1000 * (r + 1)) 1173 [.ref b, .ref x, .ref o, .ref u, .int (nI (6 * t)), x5, x6] [] M (fun v _ => v = some (.int 1)) := by
  obtain ⟨hx, ho, hu, hu1, hs⟩ := hI M hM
  show Go 1312 277 _ _ 1173 [.ref b, .ref x, .ref o, .ref u, .int (nI (6 * t)), x5, x6] [] M (fun v _ => v = some (.int 1))
  refine go_blk 26 [some (.int (xs (6 * t + 1))), some (.int (xs (6 * t + 2))), some (.int (xs (6 * t + 3))), some (.int (xs (6 * t + 4))), some (.int (xs (6 * t + 5)))] (pc' := 1204) (vs' := [.ref b, .ref x, .ref o, .ref u, .int (nI (6 * t)), x5, x6]) (st' := [.int (xs (6 * t + 5)), .int (xs (6 * t + 4)), .int (xs (6 * t + 3)), .int (xs (6 * t + 2)), .int (xs (6 * t + 1)), .ref x]) (M' := M) (ps := [b = mSb M, vp_in ((nI (6 * t)) + 1) (mSl M), (Value.int (mSx M ((nI (6 * t)) + 1).toNatClampNeg)) = .int (xs (6 * t + 1)), b = mSb M, vp_in ((nI (6 * t)) + 2) (mSl M), (Value.int (mSx M ((nI (6 * t)) + 2).toNatClampNeg)) = .int (xs (6 * t + 2)), b = mSb M, vp_in ((nI (6 * t)) + 3) (mSl M), (Value.int (mSx M ((nI (6 * t)) + 3).toNatClampNeg)) = .int (xs (6 * t + 3)), b = mSb M, vp_in ((nI (6 * t)) + 4) (mSl M), (Value.int (mSx M ((nI (6 * t)) + 4).toNatClampNeg)) = .int (xs (6 * t + 4)), b = mSb M, vp_in ((nI (6 * t)) + 5) (mSl M), (Value.int (mSx M ((nI (6 * t)) + 5).toNatClampNeg)) = .int (xs (6 * t + 5))]) rfl ⟨(sc_b hs), (sc_v1 hs hin), congrArg Value.int (sc_x1 hs hin hL), (sc_b hs), (sc_v2 hs hin), congrArg Value.int (sc_x2 hs hin hL), (sc_b hs), (sc_v3 hs hin), congrArg Value.int (sc_x3 hs hin hL), (sc_b hs), (sc_v4 hs hin), congrArg Value.int (sc_x4 hs hin hL), (sc_b hs), (sc_v5 hs hin), congrArg Value.int (sc_x5 hs hin hL), trivial⟩ ?_
  refine go_callV rfl rfl rfl (by decide) rfl (show 0 + pMc (tbl 142) ≤ _ by show 0 ≤ 100 * (r + 1); omega) (show 0 + pMs (tbl 142) ≤ _ by show 0 ≤ 1000 * (r + 1); omega) hx ?_
  refine hops.2.2.2.2.2.2.2.2.2.2.2.2.2.2.2.2.2.2.2.2.2.2.2.2.2.2.1 M _ _ _ _ _ hM _ (fun r1 M1 ho1 hs1 hcap => ⟨ne_i, ?_⟩)
  show Go 1312 277 _ _ 1207 [.ref b, .ref x, .ref o, .ref u, .int (nI (6 * t)), x5, x6] [.int r1] M1 (fun v _ => v = some (.int 1))
  refine go_blk 26 [some (.int (xs (6 * t + 1))), some (.int (xs (6 * t + 2))), some (.int (xs (6 * t + 3))), some (.int (xs (6 * t + 4))), some (.int (xs (6 * t + 5)))] (pc' := 1238) (vs' := [.ref b, .ref x, .ref o, .ref u, .int (nI (6 * t)), x5, x6]) (st' := [.int (xs (6 * t + 5)), .int (xs (6 * t + 4)), .int (xs (6 * t + 3)), .int (xs (6 * t + 2)), .int (xs (6 * t + 1)), .ref o, .int r1]) (M' := M1) (ps := [b = mSb M1, vp_in ((nI (6 * t)) + 1) (mSl M1), (Value.int (mSx M1 ((nI (6 * t)) + 1).toNatClampNeg)) = .int (xs (6 * t + 1)), b = mSb M1, vp_in ((nI (6 * t)) + 2) (mSl M1), (Value.int (mSx M1 ((nI (6 * t)) + 2).toNatClampNeg)) = .int (xs (6 * t + 2)), b = mSb M1, vp_in ((nI (6 * t)) + 3) (mSl M1), (Value.int (mSx M1 ((nI (6 * t)) + 3).toNatClampNeg)) = .int (xs (6 * t + 3)), b = mSb M1, vp_in ((nI (6 * t)) + 4) (mSl M1), (Value.int (mSx M1 ((nI (6 * t)) + 4).toNatClampNeg)) = .int (xs (6 * t + 4)), b = mSb M1, vp_in ((nI (6 * t)) + 5) (mSl M1), (Value.int (mSx M1 ((nI (6 * t)) + 5).toNatClampNeg)) = .int (xs (6 * t + 5))]) rfl ⟨(sc_b (show mSc _ = _ from hs1.trans hs)), (sc_v1 (show mSc _ = _ from hs1.trans hs) hin), congrArg Value.int (sc_x1 (show mSc _ = _ from hs1.trans hs) hin hL), (sc_b (show mSc _ = _ from hs1.trans hs)), (sc_v2 (show mSc _ = _ from hs1.trans hs) hin), congrArg Value.int (sc_x2 (show mSc _ = _ from hs1.trans hs) hin hL), (sc_b (show mSc _ = _ from hs1.trans hs)), (sc_v3 (show mSc _ = _ from hs1.trans hs) hin), congrArg Value.int (sc_x3 (show mSc _ = _ from hs1.trans hs) hin hL), (sc_b (show mSc _ = _ from hs1.trans hs)), (sc_v4 (show mSc _ = _ from hs1.trans hs) hin), congrArg Value.int (sc_x4 (show mSc _ = _ from hs1.trans hs) hin hL), (sc_b (show mSc _ = _ from hs1.trans hs)), (sc_v5 (show mSc _ = _ from hs1.trans hs) hin), congrArg Value.int (sc_x5 (show mSc _ = _ from hs1.trans hs) hin hL), trivial⟩ ?_
  refine go_callV rfl rfl rfl (by decide) rfl (Nat.zero_le _) (Nat.zero_le _) ho1 ?_
  refine hcap _ (fun M2 hM2 => ⟨ne_i, ?_⟩)
  show Go 1312 277 _ _ 1241 [.ref b, .ref x, .ref o, .ref u, .int (nI (6 * t)), x5, x6] [.int r1, .int r1] M2 (fun v _ => v = some (.int 1))
  refine go_icmp rfl (fun _ => ?_) (fun (z : ¬ (r1 = r1)) => absurd (show r1 = r1 from rfl) z)
  exact Go.mono (ih M2 (x5) (x6) hM2) (Nat.le_refl _) (show 100 * r ≤ 100 * (r + 1) - 0 - 0 by omega) (show 1000 * r ≤ 1000 * (r + 1) - 0 - 0 by omega) (fun _ _ q => q)

set_option maxRecDepth 100000 in
theorem law_27 {I : Mem → Prop} {x o u b L t r : Nat} {xs : Nat → Int32} {x5 x6 : Value} {M : Mem} (hI : IOk I x o u (b, L, xs)) (hops : Ops I x o u) (hL : L ≤ 3072) (hin : 6 * t + 6 ≤ L ∧ L ≤ 3072) (hM : I M) (ih : ∀ (M2 : Mem) (x5 x6 : Value), I M2 → Go 1312 277 (100 * r) (1000 * r) 1834 [.ref b, .ref x, .ref o, .ref u, .int (nI (6 * t)), x5, x6] [] M2 (fun v _ => v = some (.int 1))) : Go 1312 277 (100 * (r + 1)) (1000 * (r + 1)) 1246 [.ref b, .ref x, .ref o, .ref u, .int (nI (6 * t)), x5, x6] [] M (fun v _ => v = some (.int 1)) := by
  obtain ⟨hx, ho, hu, hu1, hs⟩ := hI M hM
  show Go 1312 277 _ _ 1246 [.ref b, .ref x, .ref o, .ref u, .int (nI (6 * t)), x5, x6] [] M (fun v _ => v = some (.int 1))
  refine go_blk 6 [some (.int (xs (6 * t + 1)))] (pc' := 1253) (vs' := [.ref b, .ref x, .ref o, .ref u, .int (nI (6 * t)), x5, x6]) (st' := [.int (xs (6 * t + 1)), .ref x]) (M' := M) (ps := [b = mSb M, vp_in ((nI (6 * t)) + 1) (mSl M), (Value.int (mSx M ((nI (6 * t)) + 1).toNatClampNeg)) = .int (xs (6 * t + 1))]) rfl ⟨(sc_b hs), (sc_v1 hs hin), congrArg Value.int (sc_x1 hs hin hL), trivial⟩ ?_
  refine go_callV rfl rfl rfl (by decide) rfl (show 0 + pMc (tbl 143) ≤ _ by show 0 ≤ 100 * (r + 1); omega) (show 0 + pMs (tbl 143) ≤ _ by show 0 ≤ 1000 * (r + 1); omega) hx ?_
  refine hops.2.2.2.2.2.2.2.2.2.2.2.2.2.2.2.2.2.2.2.2.2.2.2.2.2.2.2.1 M _ hM _ (fun r1 M1 ho1 hs1 hcap => ⟨ne_i, ?_⟩)
  show Go 1312 277 _ _ 1256 [.ref b, .ref x, .ref o, .ref u, .int (nI (6 * t)), x5, x6] [.int r1] M1 (fun v _ => v = some (.int 1))
  refine go_blk 6 [some (.int (xs (6 * t + 1)))] (pc' := 1263) (vs' := [.ref b, .ref x, .ref o, .ref u, .int (nI (6 * t)), x5, x6]) (st' := [.int (xs (6 * t + 1)), .ref o, .int r1]) (M' := M1) (ps := [b = mSb M1, vp_in ((nI (6 * t)) + 1) (mSl M1), (Value.int (mSx M1 ((nI (6 * t)) + 1).toNatClampNeg)) = .int (xs (6 * t + 1))]) rfl ⟨(sc_b (show mSc _ = _ from hs1.trans hs)), (sc_v1 (show mSc _ = _ from hs1.trans hs) hin), congrArg Value.int (sc_x1 (show mSc _ = _ from hs1.trans hs) hin hL), trivial⟩ ?_
  refine go_callV rfl rfl rfl (by decide) rfl (Nat.zero_le _) (Nat.zero_le _) ho1 ?_
  refine hcap _ (fun M2 hM2 => ⟨ne_i, ?_⟩)
  show Go 1312 277 _ _ 1266 [.ref b, .ref x, .ref o, .ref u, .int (nI (6 * t)), x5, x6] [.int r1, .int r1] M2 (fun v _ => v = some (.int 1))
  refine go_icmp rfl (fun _ => ?_) (fun (z : ¬ (r1 = r1)) => absurd (show r1 = r1 from rfl) z)
  exact Go.mono (ih M2 (x5) (x6) hM2) (Nat.le_refl _) (show 100 * r ≤ 100 * (r + 1) - 0 - 0 by omega) (show 1000 * r ≤ 1000 * (r + 1) - 0 - 0 by omega) (fun _ _ q => q)

set_option maxRecDepth 100000 in
theorem law_28 {I : Mem → Prop} {x o u b L t r : Nat} {xs : Nat → Int32} {x5 x6 : Value} {M : Mem} (hI : IOk I x o u (b, L, xs)) (hops : Ops I x o u) (hL : L ≤ 3072) (hin : 6 * t + 6 ≤ L ∧ L ≤ 3072) (hM : I M) (ih : ∀ (M2 : Mem) (x5 x6 : Value), I M2 → Go 1312 277 (100 * r) (1000 * r) 1834 [.ref b, .ref x, .ref o, .ref u, .int (nI (6 * t)), x5, x6] [] M2 (fun v _ => v = some (.int 1))) : Go 1312 277 (100 * (r + 1)) (1000 * (r + 1)) 1271 [.ref b, .ref x, .ref o, .ref u, .int (nI (6 * t)), x5, x6] [] M (fun v _ => v = some (.int 1)) := by
  obtain ⟨hx, ho, hu, hu1, hs⟩ := hI M hM
  show Go 1312 277 _ _ 1271 [.ref b, .ref x, .ref o, .ref u, .int (nI (6 * t)), x5, x6] [] M (fun v _ => v = some (.int 1))
  refine go_blk 1 [] (pc' := 1272) (vs' := [.ref b, .ref x, .ref o, .ref u, .int (nI (6 * t)), x5, x6]) (st' := [.ref x]) (M' := M) (ps := []) rfl trivial ?_
  refine go_callV rfl rfl rfl (by decide) rfl (show 0 + pMc (tbl 144) ≤ _ by show 0 ≤ 100 * (r + 1); omega) (show 0 + pMs (tbl 144) ≤ _ by show 0 ≤ 1000 * (r + 1); omega) hx ?_
  refine hops.2.2.2.2.2.2.2.2.2.2.2.2.2.2.2.2.2.2.2.2.2.2.2.2.2.2.2.2.1 M hM _ (fun r1 M1 ho1 hs1 hcap => ⟨ne_i, ?_⟩)
  show Go 1312 277 _ _ 1275 [.ref b, .ref x, .ref o, .ref u, .int (nI (6 * t)), x5, x6] [.int r1] M1 (fun v _ => v = some (.int 1))
  refine go_blk 1 [] (pc' := 1276) (vs' := [.ref b, .ref x, .ref o, .ref u, .int (nI (6 * t)), x5, x6]) (st' := [.ref o, .int r1]) (M' := M1) (ps := []) rfl trivial ?_
  refine go_callV rfl rfl rfl (by decide) rfl (Nat.zero_le _) (Nat.zero_le _) ho1 ?_
  refine hcap _ (fun M2 hM2 => ⟨ne_i, ?_⟩)
  show Go 1312 277 _ _ 1279 [.ref b, .ref x, .ref o, .ref u, .int (nI (6 * t)), x5, x6] [.int r1, .int r1] M2 (fun v _ => v = some (.int 1))
  refine go_icmp rfl (fun _ => ?_) (fun (z : ¬ (r1 = r1)) => absurd (show r1 = r1 from rfl) z)
  exact Go.mono (ih M2 (x5) (x6) hM2) (Nat.le_refl _) (show 100 * r ≤ 100 * (r + 1) - 0 - 0 by omega) (show 1000 * r ≤ 1000 * (r + 1) - 0 - 0 by omega) (fun _ _ q => q)

set_option maxRecDepth 100000 in
theorem law_29 {I : Mem → Prop} {x o u b L t r : Nat} {xs : Nat → Int32} {x5 x6 : Value} {M : Mem} (hI : IOk I x o u (b, L, xs)) (hops : Ops I x o u) (hL : L ≤ 3072) (hin : 6 * t + 6 ≤ L ∧ L ≤ 3072) (hM : I M) (ih : ∀ (M2 : Mem) (x5 x6 : Value), I M2 → Go 1312 277 (100 * r) (1000 * r) 1834 [.ref b, .ref x, .ref o, .ref u, .int (nI (6 * t)), x5, x6] [] M2 (fun v _ => v = some (.int 1))) : Go 1312 277 (100 * (r + 1)) (1000 * (r + 1)) 1284 [.ref b, .ref x, .ref o, .ref u, .int (nI (6 * t)), x5, x6] [] M (fun v _ => v = some (.int 1)) := by
  obtain ⟨hx, ho, hu, hu1, hs⟩ := hI M hM
  show Go 1312 277 _ _ 1284 [.ref b, .ref x, .ref o, .ref u, .int (nI (6 * t)), x5, x6] [] M (fun v _ => v = some (.int 1))
  refine go_blk 6 [some (.int (xs (6 * t + 1)))] (pc' := 1291) (vs' := [.ref b, .ref x, .ref o, .ref u, .int (nI (6 * t)), x5, x6]) (st' := [.int (xs (6 * t + 1)), .ref x]) (M' := M) (ps := [b = mSb M, vp_in ((nI (6 * t)) + 1) (mSl M), (Value.int (mSx M ((nI (6 * t)) + 1).toNatClampNeg)) = .int (xs (6 * t + 1))]) rfl ⟨(sc_b hs), (sc_v1 hs hin), congrArg Value.int (sc_x1 hs hin hL), trivial⟩ ?_
  refine go_callV rfl rfl rfl (by decide) rfl (show 0 + pMc (tbl 145) ≤ _ by show 2 ≤ 100 * (r + 1); omega) (show 0 + pMs (tbl 145) ≤ _ by show 129 ≤ 1000 * (r + 1); omega) hx ?_
  refine hops.2.2.2.2.2.2.2.2.2.2.2.2.2.2.2.2.2.2.2.2.2.2.2.2.2.2.2.2.2.1 M _ hM _ (fun r1 M1 ho1 hs1 hcap => ⟨ne_i, ?_⟩)
  show Go 1312 277 _ _ 1294 [.ref b, .ref x, .ref o, .ref u, .int (nI (6 * t)), x5, x6] [.int r1] M1 (fun v _ => v = some (.int 1))
  refine go_blk 6 [some (.int (xs (6 * t + 1)))] (pc' := 1301) (vs' := [.ref b, .ref x, .ref o, .ref u, .int (nI (6 * t)), x5, x6]) (st' := [.int (xs (6 * t + 1)), .ref o, .int r1]) (M' := M1) (ps := [b = mSb M1, vp_in ((nI (6 * t)) + 1) (mSl M1), (Value.int (mSx M1 ((nI (6 * t)) + 1).toNatClampNeg)) = .int (xs (6 * t + 1))]) rfl ⟨(sc_b (show mSc _ = _ from hs1.trans hs)), (sc_v1 (show mSc _ = _ from hs1.trans hs) hin), congrArg Value.int (sc_x1 (show mSc _ = _ from hs1.trans hs) hin hL), trivial⟩ ?_
  refine go_callV rfl rfl rfl (by decide) rfl (Nat.zero_le _) (Nat.zero_le _) ho1 ?_
  refine hcap _ (fun M2 hM2 => ⟨ne_i, ?_⟩)
  show Go 1312 277 _ _ 1304 [.ref b, .ref x, .ref o, .ref u, .int (nI (6 * t)), x5, x6] [.int r1, .int r1] M2 (fun v _ => v = some (.int 1))
  refine go_icmp rfl (fun _ => ?_) (fun (z : ¬ (r1 = r1)) => absurd (show r1 = r1 from rfl) z)
  exact Go.mono (ih M2 (x5) (x6) hM2) (Nat.le_refl _) (show 100 * r ≤ 100 * (r + 1) - 2 - 0 by omega) (show 1000 * r ≤ 1000 * (r + 1) - 129 - 0 by omega) (fun _ _ q => q)

set_option maxRecDepth 100000 in
theorem law_30 {I : Mem → Prop} {x o u b L t r : Nat} {xs : Nat → Int32} {x5 x6 : Value} {M : Mem} (hI : IOk I x o u (b, L, xs)) (hops : Ops I x o u) (hL : L ≤ 3072) (hin : 6 * t + 6 ≤ L ∧ L ≤ 3072) (hM : I M) (ih : ∀ (M2 : Mem) (x5 x6 : Value), I M2 → Go 1312 277 (100 * r) (1000 * r) 1834 [.ref b, .ref x, .ref o, .ref u, .int (nI (6 * t)), x5, x6] [] M2 (fun v _ => v = some (.int 1))) : Go 1312 277 (100 * (r + 1)) (1000 * (r + 1)) 1309 [.ref b, .ref x, .ref o, .ref u, .int (nI (6 * t)), x5, x6] [] M (fun v _ => v = some (.int 1)) := by
  obtain ⟨hx, ho, hu, hu1, hs⟩ := hI M hM
  show Go 1312 277 _ _ 1309 [.ref b, .ref x, .ref o, .ref u, .int (nI (6 * t)), x5, x6] [] M (fun v _ => v = some (.int 1))
  refine go_blk 11 [some (.int (xs (6 * t + 1))), some (.int (xs (6 * t + 2)))] (pc' := 1322) (vs' := [.ref b, .ref x, .ref o, .ref u, .int (nI (6 * t)), x5, x6]) (st' := [.int (xs (6 * t + 2)), .int (xs (6 * t + 1)), .ref x]) (M' := M) (ps := [b = mSb M, vp_in ((nI (6 * t)) + 1) (mSl M), (Value.int (mSx M ((nI (6 * t)) + 1).toNatClampNeg)) = .int (xs (6 * t + 1)), b = mSb M, vp_in ((nI (6 * t)) + 2) (mSl M), (Value.int (mSx M ((nI (6 * t)) + 2).toNatClampNeg)) = .int (xs (6 * t + 2))]) rfl ⟨(sc_b hs), (sc_v1 hs hin), congrArg Value.int (sc_x1 hs hin hL), (sc_b hs), (sc_v2 hs hin), congrArg Value.int (sc_x2 hs hin hL), trivial⟩ ?_
  refine go_callV rfl rfl rfl (by decide) rfl (show 0 + pMc (tbl 146) ≤ _ by show 0 ≤ 100 * (r + 1); omega) (show 0 + pMs (tbl 146) ≤ _ by show 0 ≤ 1000 * (r + 1); omega) hx ?_
  refine hops.2.2.2.2.2.2.2.2.2.2.2.2.2.2.2.2.2.2.2.2.2.2.2.2.2.2.2.2.2.2.1 M _ _ hM _ (fun r1 M1 ho1 hs1 hcap => ⟨ne_i, ?_⟩)
  show Go 1312 277 _ _ 1325 [.ref b, .ref x, .ref o, .ref u, .int (nI (6 * t)), x5, x6] [.int r1] M1 (fun v _ => v = some (.int 1))
  refine go_blk 11 [some (.int (xs (6 * t + 1))), some (.int (xs (6 * t + 2)))] (pc' := 1338) (vs' := [.ref b, .ref x, .ref o, .ref u, .int (nI (6 * t)), x5, x6]) (st' := [.int (xs (6 * t + 2)), .int (xs (6 * t + 1)), .ref o, .int r1]) (M' := M1) (ps := [b = mSb M1, vp_in ((nI (6 * t)) + 1) (mSl M1), (Value.int (mSx M1 ((nI (6 * t)) + 1).toNatClampNeg)) = .int (xs (6 * t + 1)), b = mSb M1, vp_in ((nI (6 * t)) + 2) (mSl M1), (Value.int (mSx M1 ((nI (6 * t)) + 2).toNatClampNeg)) = .int (xs (6 * t + 2))]) rfl ⟨(sc_b (show mSc _ = _ from hs1.trans hs)), (sc_v1 (show mSc _ = _ from hs1.trans hs) hin), congrArg Value.int (sc_x1 (show mSc _ = _ from hs1.trans hs) hin hL), (sc_b (show mSc _ = _ from hs1.trans hs)), (sc_v2 (show mSc _ = _ from hs1.trans hs) hin), congrArg Value.int (sc_x2 (show mSc _ = _ from hs1.trans hs) hin hL), trivial⟩ ?_
  refine go_callV rfl rfl rfl (by decide) rfl (Nat.zero_le _) (Nat.zero_le _) ho1 ?_
  refine hcap _ (fun M2 hM2 => ⟨ne_i, ?_⟩)
  show Go 1312 277 _ _ 1341 [.ref b, .ref x, .ref o, .ref u, .int (nI (6 * t)), x5, x6] [.int r1, .int r1] M2 (fun v _ => v = some (.int 1))
  refine go_icmp rfl (fun _ => ?_) (fun (z : ¬ (r1 = r1)) => absurd (show r1 = r1 from rfl) z)
  exact Go.mono (ih M2 (x5) (x6) hM2) (Nat.le_refl _) (show 100 * r ≤ 100 * (r + 1) - 0 - 0 by omega) (show 1000 * r ≤ 1000 * (r + 1) - 0 - 0 by omega) (fun _ _ q => q)

set_option maxRecDepth 100000 in
theorem law_31 {I : Mem → Prop} {x o u b L t r : Nat} {xs : Nat → Int32} {x5 x6 : Value} {M : Mem} (hI : IOk I x o u (b, L, xs)) (hops : Ops I x o u) (hL : L ≤ 3072) (hin : 6 * t + 6 ≤ L ∧ L ≤ 3072) (hM : I M) (ih : ∀ (M2 : Mem) (x5 x6 : Value), I M2 → Go 1312 277 (100 * r) (1000 * r) 1834 [.ref b, .ref x, .ref o, .ref u, .int (nI (6 * t)), x5, x6] [] M2 (fun v _ => v = some (.int 1))) : Go 1312 277 (100 * (r + 1)) (1000 * (r + 1)) 1346 [.ref b, .ref x, .ref o, .ref u, .int (nI (6 * t)), x5, x6] [] M (fun v _ => v = some (.int 1)) := by
  obtain ⟨hx, ho, hu, hu1, hs⟩ := hI M hM
  show Go 1312 277 _ _ 1346 [.ref b, .ref x, .ref o, .ref u, .int (nI (6 * t)), x5, x6] [] M (fun v _ => v = some (.int 1))
  refine go_blk 16 [some (.int (xs (6 * t + 1))), some (.int (xs (6 * t + 2))), some (.int (xs (6 * t + 3)))] (pc' := 1365) (vs' := [.ref b, .ref x, .ref o, .ref u, .int (nI (6 * t)), x5, x6]) (st' := [.int (xs (6 * t + 3)), .int (xs (6 * t + 2)), .int (xs (6 * t + 1)), .ref x]) (M' := M) (ps := [b = mSb M, vp_in ((nI (6 * t)) + 1) (mSl M), (Value.int (mSx M ((nI (6 * t)) + 1).toNatClampNeg)) = .int (xs (6 * t + 1)), b = mSb M, vp_in ((nI (6 * t)) + 2) (mSl M), (Value.int (mSx M ((nI (6 * t)) + 2).toNatClampNeg)) = .int (xs (6 * t + 2)), b = mSb M, vp_in ((nI (6 * t)) + 3) (mSl M), (Value.int (mSx M ((nI (6 * t)) + 3).toNatClampNeg)) = .int (xs (6 * t + 3))]) rfl ⟨(sc_b hs), (sc_v1 hs hin), congrArg Value.int (sc_x1 hs hin hL), (sc_b hs), (sc_v2 hs hin), congrArg Value.int (sc_x2 hs hin hL), (sc_b hs), (sc_v3 hs hin), congrArg Value.int (sc_x3 hs hin hL), trivial⟩ ?_
  refine go_callV rfl rfl rfl (by decide) rfl (show 0 + pMc (tbl 147) ≤ _ by show 0 ≤ 100 * (r + 1); omega) (show 0 + pMs (tbl 147) ≤ _ by show 0 ≤ 1000 * (r + 1); omega) hx ?_
  refine hops.2.2.2.2.2.2.2.2.2.2.2.2.2.2.2.2.2.2.2.2.2.2.2.2.2.2.2.2.2.2.2.1 M _ _ _ hM _ (fun r1 M1 ho1 hs1 hcap => ⟨ne_i, ?_⟩)
  show Go 1312 277 _ _ 1368 [.ref b, .ref x, .ref o, .ref u, .int (nI (6 * t)), x5, x6] [.int r1] M1 (fun v _ => v = some (.int 1))
  refine go_blk 16 [some (.int (xs (6 * t + 1))), some (.int (xs (6 * t + 2))), some (.int (xs (6 * t + 3)))] (pc' := 1387) (vs' := [.ref b, .ref x, .ref o, .ref u, .int (nI (6 * t)), x5, x6]) (st' := [.int (xs (6 * t + 3)), .int (xs (6 * t + 2)), .int (xs (6 * t + 1)), .ref o, .int r1]) (M' := M1) (ps := [b = mSb M1, vp_in ((nI (6 * t)) + 1) (mSl M1), (Value.int (mSx M1 ((nI (6 * t)) + 1).toNatClampNeg)) = .int (xs (6 * t + 1)), b = mSb M1, vp_in ((nI (6 * t)) + 2) (mSl M1), (Value.int (mSx M1 ((nI (6 * t)) + 2).toNatClampNeg)) = .int (xs (6 * t + 2)), b = mSb M1, vp_in ((nI (6 * t)) + 3) (mSl M1), (Value.int (mSx M1 ((nI (6 * t)) + 3).toNatClampNeg)) = .int (xs (6 * t + 3))]) rfl ⟨(sc_b (show mSc _ = _ from hs1.trans hs)), (sc_v1 (show mSc _ = _ from hs1.trans hs) hin), congrArg Value.int (sc_x1 (show mSc _ = _ from hs1.trans hs) hin hL), (sc_b (show mSc _ = _ from hs1.trans hs)), (sc_v2 (show mSc _ = _ from hs1.trans hs) hin), congrArg Value.int (sc_x2 (show mSc _ = _ from hs1.trans hs) hin hL), (sc_b (show mSc _ = _ from hs1.trans hs)), (sc_v3 (show mSc _ = _ from hs1.trans hs) hin), congrArg Value.int (sc_x3 (show mSc _ = _ from hs1.trans hs) hin hL), trivial⟩ ?_
  refine go_callV rfl rfl rfl (by decide) rfl (Nat.zero_le _) (Nat.zero_le _) ho1 ?_
  refine hcap _ (fun M2 hM2 => ⟨ne_i, ?_⟩)
  show Go 1312 277 _ _ 1390 [.ref b, .ref x, .ref o, .ref u, .int (nI (6 * t)), x5, x6] [.int r1, .int r1] M2 (fun v _ => v = some (.int 1))
  refine go_icmp rfl (fun _ => ?_) (fun (z : ¬ (r1 = r1)) => absurd (show r1 = r1 from rfl) z)
  exact Go.mono (ih M2 (x5) (x6) hM2) (Nat.le_refl _) (show 100 * r ≤ 100 * (r + 1) - 0 - 0 by omega) (show 1000 * r ≤ 1000 * (r + 1) - 0 - 0 by omega) (fun _ _ q => q)

set_option maxRecDepth 100000 in
theorem law_32 {I : Mem → Prop} {x o u b L t r : Nat} {xs : Nat → Int32} {x5 x6 : Value} {M : Mem} (hI : IOk I x o u (b, L, xs)) (hops : Ops I x o u) (hL : L ≤ 3072) (hin : 6 * t + 6 ≤ L ∧ L ≤ 3072) (hM : I M) (ih : ∀ (M2 : Mem) (x5 x6 : Value), I M2 → Go 1312 277 (100 * r) (1000 * r) 1834 [.ref b, .ref x, .ref o, .ref u, .int (nI (6 * t)), x5, x6] [] M2 (fun v _ => v = some (.int 1))) : Go 1312 277 (100 * (r + 1)) (1000 * (r + 1)) 1395 [.ref b, .ref x, .ref o, .ref u, .int (nI (6 * t)), x5, x6] [] M (fun v _ => v = some (.int 1)) := by
  obtain ⟨hx, ho, hu, hu1, hs⟩ := hI M hM
  show Go 1312 277 _ _ 1395 [.ref b, .ref x, .ref o, .ref u, .int (nI (6 * t)), x5, x6] [] M (fun v _ => v = some (.int 1))
  refine go_blk 11 [some (.int (xs (6 * t + 1))), some (.int (xs (6 * t + 2)))] (pc' := 1408) (vs' := [.ref b, .ref x, .ref o, .ref u, .int (nI (6 * t)), x5, x6]) (st' := [.int (xs (6 * t + 2)), .int (xs (6 * t + 1)), .ref x]) (M' := M) (ps := [b = mSb M, vp_in ((nI (6 * t)) + 1) (mSl M), (Value.int (mSx M ((nI (6 * t)) + 1).toNatClampNeg)) = .int (xs (6 * t + 1)), b = mSb M, vp_in ((nI (6 * t)) + 2) (mSl M), (Value.int (mSx M ((nI (6 * t)) + 2).toNatClampNeg)) = .int (xs (6 * t + 2))]) rfl ⟨(sc_b hs), (sc_v1 hs hin), congrArg Value.int (sc_x1 hs hin hL), (sc_b hs), (sc_v2 hs hin), congrArg Value.int (sc_x2 hs hin hL), trivial⟩ ?_
  refine go_callV rfl rfl rfl (by decide) rfl (show 0 + pMc (tbl 148) ≤ _ by show 0 ≤ 100 * (r + 1); omega) (show 0 + pMs (tbl 148) ≤ _ by show 0 ≤ 1000 * (r + 1); omega) hx ?_
  refine hops.2.2.2.2.2.2.2.2.2.2.2.2.2.2.2.2.2.2.2.2.2.2.2.2.2.2.2.2.2.2.2.2.1 M _ _ hM _ (fun r1 M1 ho1 hs1 hcap => ⟨ne_i, ?_⟩)
  show Go 1312 277 _ _ 1411 [.ref b, .ref x, .ref o, .ref u, .int (nI (6 * t)), x5, x6] [.int r1] M1 (fun v _ => v = some (.int 1))
  refine go_blk 11 [some (.int (xs (6 * t + 1))), some (.int (xs (6 * t + 2)))] (pc' := 1424) (vs' := [.ref b, .ref x, .ref o, .ref u, .int (nI (6 * t)), x5, x6]) (st' := [.int (xs (6 * t + 2)), .int (xs (6 * t + 1)), .ref o, .int r1]) (M' := M1) (ps := [b = mSb M1, vp_in ((nI (6 * t)) + 1) (mSl M1), (Value.int (mSx M1 ((nI (6 * t)) + 1).toNatClampNeg)) = .int (xs (6 * t + 1)), b = mSb M1, vp_in ((nI (6 * t)) + 2) (mSl M1), (Value.int (mSx M1 ((nI (6 * t)) + 2).toNatClampNeg)) = .int (xs (6 * t + 2))]) rfl ⟨(sc_b (show mSc _ = _ from hs1.trans hs)), (sc_v1 (show mSc _ = _ from hs1.trans hs) hin), congrArg Value.int (sc_x1 (show mSc _ = _ from hs1.trans hs) hin hL), (sc_b (show mSc _ = _ from hs1.trans hs)), (sc_v2 (show mSc _ = _ from hs1.trans hs) hin), congrArg Value.int (sc_x2 (show mSc _ = _ from hs1.trans hs) hin hL), trivial⟩ ?_
  refine go_callV rfl rfl rfl (by decide) rfl (Nat.zero_le _) (Nat.zero_le _) ho1 ?_
  refine hcap _ (fun M2 hM2 => ⟨ne_i, ?_⟩)
  show Go 1312 277 _ _ 1427 [.ref b, .ref x, .ref o, .ref u, .int (nI (6 * t)), x5, x6] [.int r1, .int r1] M2 (fun v _ => v = some (.int 1))
  refine go_icmp rfl (fun _ => ?_) (fun (z : ¬ (r1 = r1)) => absurd (show r1 = r1 from rfl) z)
  exact Go.mono (ih M2 (x5) (x6) hM2) (Nat.le_refl _) (show 100 * r ≤ 100 * (r + 1) - 0 - 0 by omega) (show 1000 * r ≤ 1000 * (r + 1) - 0 - 0 by omega) (fun _ _ q => q)

set_option maxRecDepth 100000 in
theorem law_33 {I : Mem → Prop} {x o u b L t r : Nat} {xs : Nat → Int32} {x5 x6 : Value} {M : Mem} (hI : IOk I x o u (b, L, xs)) (hops : Ops I x o u) (hL : L ≤ 3072) (hin : 6 * t + 6 ≤ L ∧ L ≤ 3072) (hM : I M) (ih : ∀ (M2 : Mem) (x5 x6 : Value), I M2 → Go 1312 277 (100 * r) (1000 * r) 1834 [.ref b, .ref x, .ref o, .ref u, .int (nI (6 * t)), x5, x6] [] M2 (fun v _ => v = some (.int 1))) : Go 1312 277 (100 * (r + 1)) (1000 * (r + 1)) 1432 [.ref b, .ref x, .ref o, .ref u, .int (nI (6 * t)), x5, x6] [] M (fun v _ => v = some (.int 1)) := by
  obtain ⟨hx, ho, hu, hu1, hs⟩ := hI M hM
  show Go 1312 277 _ _ 1432 [.ref b, .ref x, .ref o, .ref u, .int (nI (6 * t)), x5, x6] [] M (fun v _ => v = some (.int 1))
  refine go_blk 21 [some (.int (xs (6 * t + 1))), some (.int (xs (6 * t + 2))), some (.int (xs (6 * t + 3))), some (.int (xs (6 * t + 4)))] (pc' := 1457) (vs' := [.ref b, .ref x, .ref o, .ref u, .int (nI (6 * t)), x5, x6]) (st' := [.int (xs (6 * t + 4)), .int (xs (6 * t + 3)), .int (xs (6 * t + 2)), .int (xs (6 * t + 1)), .ref x]) (M' := M) (ps := [b = mSb M, vp_in ((nI (6 * t)) + 1) (mSl M), (Value.int (mSx M ((nI (6 * t)) + 1).toNatClampNeg)) = .int (xs (6 * t + 1)), b = mSb M, vp_in ((nI (6 * t)) + 2) (mSl M), (Value.int (mSx M ((nI (6 * t)) + 2).toNatClampNeg)) = .int (xs (6 * t + 2)), b = mSb M, vp_in ((nI (6 * t)) + 3) (mSl M), (Value.int (mSx M ((nI (6 * t)) + 3).toNatClampNeg)) = .int (xs (6 * t + 3)), b = mSb M, vp_in ((nI (6 * t)) + 4) (mSl M), (Value.int (mSx M ((nI (6 * t)) + 4).toNatClampNeg)) = .int (xs (6 * t + 4))]) rfl ⟨(sc_b hs), (sc_v1 hs hin), congrArg Value.int (sc_x1 hs hin hL), (sc_b hs), (sc_v2 hs hin), congrArg Value.int (sc_x2 hs hin hL), (sc_b hs), (sc_v3 hs hin), congrArg Value.int (sc_x3 hs hin hL), (sc_b hs), (sc_v4 hs hin), congrArg Value.int (sc_x4 hs hin hL), trivial⟩ ?_
  refine go_callV rfl rfl rfl (by decide) rfl (show 0 + pMc (tbl 149) ≤ _ by show 0 ≤ 100 * (r + 1); omega) (show 0 + pMs (tbl 149) ≤ _ by show 0 ≤ 1000 * (r + 1); omega) hx ?_
  refine hops.2.2.2.2.2.2.2.2.2.2.2.2.2.2.2.2.2.2.2.2.2.2.2.2.2.2.2.2.2.2.2.2.2.1 M _ _ _ _ hM _ (fun r1 M1 ho1 hs1 hcap => ⟨ne_i, ?_⟩)
  show Go 1312 277 _ _ 1460 [.ref b, .ref x, .ref o, .ref u, .int (nI (6 * t)), x5, x6] [.int r1] M1 (fun v _ => v = some (.int 1))
  refine go_blk 21 [some (.int (xs (6 * t + 1))), some (.int (xs (6 * t + 2))), some (.int (xs (6 * t + 3))), some (.int (xs (6 * t + 4)))] (pc' := 1485) (vs' := [.ref b, .ref x, .ref o, .ref u, .int (nI (6 * t)), x5, x6]) (st' := [.int (xs (6 * t + 4)), .int (xs (6 * t + 3)), .int (xs (6 * t + 2)), .int (xs (6 * t + 1)), .ref o, .int r1]) (M' := M1) (ps := [b = mSb M1, vp_in ((nI (6 * t)) + 1) (mSl M1), (Value.int (mSx M1 ((nI (6 * t)) + 1).toNatClampNeg)) = .int (xs (6 * t + 1)), b = mSb M1, vp_in ((nI (6 * t)) + 2) (mSl M1), (Value.int (mSx M1 ((nI (6 * t)) + 2).toNatClampNeg)) = .int (xs (6 * t + 2)), b = mSb M1, vp_in ((nI (6 * t)) + 3) (mSl M1), (Value.int (mSx M1 ((nI (6 * t)) + 3).toNatClampNeg)) = .int (xs (6 * t + 3)), b = mSb M1, vp_in ((nI (6 * t)) + 4) (mSl M1), (Value.int (mSx M1 ((nI (6 * t)) + 4).toNatClampNeg)) = .int (xs (6 * t + 4))]) rfl ⟨(sc_b (show mSc _ = _ from hs1.trans hs)), (sc_v1 (show mSc _ = _ from hs1.trans hs) hin), congrArg Value.int (sc_x1 (show mSc _ = _ from hs1.trans hs) hin hL), (sc_b (show mSc _ = _ from hs1.trans hs)), (sc_v2 (show mSc _ = _ from hs1.trans hs) hin), congrArg Value.int (sc_x2 (show mSc _ = _ from hs1.trans hs) hin hL), (sc_b (show mSc _ = _ from hs1.trans hs)), (sc_v3 (show mSc _ = _ from hs1.trans hs) hin), congrArg Value.int (sc_x3 (show mSc _ = _ from hs1.trans hs) hin hL), (sc_b (show mSc _ = _ from hs1.trans hs)), (sc_v4 (show mSc _ = _ from hs1.trans hs) hin), congrArg Value.int (sc_x4 (show mSc _ = _ from hs1.trans hs) hin hL), trivial⟩ ?_
  refine go_callV rfl rfl rfl (by decide) rfl (Nat.zero_le _) (Nat.zero_le _) ho1 ?_
  refine hcap _ (fun M2 hM2 => ⟨ne_i, ?_⟩)
  show Go 1312 277 _ _ 1488 [.ref b, .ref x, .ref o, .ref u, .int (nI (6 * t)), x5, x6] [.int r1, .int r1] M2 (fun v _ => v = some (.int 1))
  refine go_icmp rfl (fun _ => ?_) (fun (z : ¬ (r1 = r1)) => absurd (show r1 = r1 from rfl) z)
  exact Go.mono (ih M2 (x5) (x6) hM2) (Nat.le_refl _) (show 100 * r ≤ 100 * (r + 1) - 0 - 0 by omega) (show 1000 * r ≤ 1000 * (r + 1) - 0 - 0 by omega) (fun _ _ q => q)

set_option maxRecDepth 100000 in
theorem law_34 {I : Mem → Prop} {x o u b L t r : Nat} {xs : Nat → Int32} {x5 x6 : Value} {M : Mem} (hI : IOk I x o u (b, L, xs)) (hops : Ops I x o u) (hL : L ≤ 3072) (hin : 6 * t + 6 ≤ L ∧ L ≤ 3072) (hM : I M) (ih : ∀ (M2 : Mem) (x5 x6 : Value), I M2 → Go 1312 277 (100 * r) (1000 * r) 1834 [.ref b, .ref x, .ref o, .ref u, .int (nI (6 * t)), x5, x6] [] M2 (fun v _ => v = some (.int 1))) : Go 1312 277 (100 * (r + 1)) (1000 * (r + 1)) 1493 [.ref b, .ref x, .ref o, .ref u, .int (nI (6 * t)), x5, x6] [] M (fun v _ => v = some (.int 1)) := by
  obtain ⟨hx, ho, hu, hu1, hs⟩ := hI M hM
  show Go 1312 277 _ _ 1493 [.ref b, .ref x, .ref o, .ref u, .int (nI (6 * t)), x5, x6] [] M (fun v _ => v = some (.int 1))
  refine go_blk 11 [some (.int (xs (6 * t + 1))), some (.int (xs (6 * t + 2)))] (pc' := 1506) (vs' := [.ref b, .ref x, .ref o, .ref u, .int (nI (6 * t)), x5, x6]) (st' := [.int (xs (6 * t + 2)), .int (xs (6 * t + 1)), .ref x]) (M' := M) (ps := [b = mSb M, vp_in ((nI (6 * t)) + 1) (mSl M), (Value.int (mSx M ((nI (6 * t)) + 1).toNatClampNeg)) = .int (xs (6 * t + 1)), b = mSb M, vp_in ((nI (6 * t)) + 2) (mSl M), (Value.int (mSx M ((nI (6 * t)) + 2).toNatClampNeg)) = .int (xs (6 * t + 2))]) rfl ⟨(sc_b hs), (sc_v1 hs hin), congrArg Value.int (sc_x1 hs hin hL), (sc_b hs), (sc_v2 hs hin), congrArg Value.int (sc_x2 hs hin hL), trivial⟩ ?_
  refine go_callV rfl rfl rfl (by decide) rfl (show 0 + pMc (tbl 150) ≤ _ by show 0 ≤ 100 * (r + 1); omega) (show 0 + pMs (tbl 150) ≤ _ by show 0 ≤ 1000 * (r + 1); omega) hx ?_
  refine hops.2.2.2.2.2.2.2.2.2.2.2.2.2.2.2.2.2.2.2.2.2.2.2.2.2.2.2.2.2.2.2.2.2.2.1 M _ _ hM _ (fun r1 M1 ho1 hs1 hcap => ⟨ne_i, ?_⟩)
  show Go 1312 277 _ _ 1509 [.ref b, .ref x, .ref o, .ref u, .int (nI (6 * t)), x5, x6] [.int r1] M1 (fun v _ => v = some (.int 1))
  refine go_blk 11 [some (.int (xs (6 * t + 1))), some (.int (xs (6 * t + 2)))] (pc' := 1522) (vs' := [.ref b, .ref x, .ref o, .ref u, .int (nI (6 * t)), x5, x6]) (st' := [.int (xs (6 * t + 2)), .int (xs (6 * t + 1)), .ref o, .int r1]) (M' := M1) (ps := [b = mSb M1, vp_in ((nI (6 * t)) + 1) (mSl M1), (Value.int (mSx M1 ((nI (6 * t)) + 1).toNatClampNeg)) = .int (xs (6 * t + 1)), b = mSb M1, vp_in ((nI (6 * t)) + 2) (mSl M1), (Value.int (mSx M1 ((nI (6 * t)) + 2).toNatClampNeg)) = .int (xs (6 * t + 2))]) rfl ⟨(sc_b (show mSc _ = _ from hs1.trans hs)), (sc_v1 (show mSc _ = _ from hs1.trans hs) hin), congrArg Value.int (sc_x1 (show mSc _ = _ from hs1.trans hs) hin hL), (sc_b (show mSc _ = _ from hs1.trans hs)), (sc_v2 (show mSc _ = _ from hs1.trans hs) hin), congrArg Value.int (sc_x2 (show mSc _ = _ from hs1.trans hs) hin hL), trivial⟩ ?_
  refine go_callV rfl rfl rfl (by decide) rfl (Nat.zero_le _) (Nat.zero_le _) ho1 ?_
  refine hcap _ (fun M2 hM2 => ⟨ne_i, ?_⟩)
  show Go 1312 277 _ _ 1525 [.ref b, .ref x, .ref o, .ref u, .int (nI (6 * t)), x5, x6] [.int r1, .int r1] M2 (fun v _ => v = some (.int 1))
  refine go_icmp rfl (fun _ => ?_) (fun (z : ¬ (r1 = r1)) => absurd (show r1 = r1 from rfl) z)
  exact Go.mono (ih M2 (x5) (x6) hM2) (Nat.le_refl _) (show 100 * r ≤ 100 * (r + 1) - 0 - 0 by omega) (show 1000 * r ≤ 1000 * (r + 1) - 0 - 0 by omega) (fun _ _ q => q)

set_option maxRecDepth 100000 in
theorem law_35 {I : Mem → Prop} {x o u b L t r : Nat} {xs : Nat → Int32} {x5 x6 : Value} {M : Mem} (hI : IOk I x o u (b, L, xs)) (hops : Ops I x o u) (hL : L ≤ 3072) (hin : 6 * t + 6 ≤ L ∧ L ≤ 3072) (hM : I M) (ih : ∀ (M2 : Mem) (x5 x6 : Value), I M2 → Go 1312 277 (100 * r) (1000 * r) 1834 [.ref b, .ref x, .ref o, .ref u, .int (nI (6 * t)), x5, x6] [] M2 (fun v _ => v = some (.int 1))) : Go 1312 277 (100 * (r + 1)) (1000 * (r + 1)) 1530 [.ref b, .ref x, .ref o, .ref u, .int (nI (6 * t)), x5, x6] [] M (fun v _ => v = some (.int 1)) := by
  obtain ⟨hx, ho, hu, hu1, hs⟩ := hI M hM
  show Go 1312 277 _ _ 1530 [.ref b, .ref x, .ref o, .ref u, .int (nI (6 * t)), x5, x6] [] M (fun v _ => v = some (.int 1))
  refine go_blk 11 [some (.int (xs (6 * t + 1))), some (.int (xs (6 * t + 2)))] (pc' := 1543) (vs' := [.ref b, .ref x, .ref o, .ref u, .int (nI (6 * t)), x5, x6]) (st' := [.int (xs (6 * t + 2)), .int (xs (6 * t + 1)), .ref x]) (M' := M) (ps := [b = mSb M, vp_in ((nI (6 * t)) + 1) (mSl M), (Value.int (mSx M ((nI (6 * t)) + 1).toNatClampNeg)) = .int (xs (6 * t + 1)), b = mSb M, vp_in ((nI (6 * t)) + 2) (mSl M), (Value.int (mSx M ((nI (6 * t)) + 2).toNatClampNeg)) = .int (xs (6 * t + 2))]) rfl ⟨(sc_b hs), (sc_v1 hs hin), congrArg Value.int (sc_x1 hs hin hL), (sc_b hs), (sc_v2 hs hin), congrArg Value.int (sc_x2 hs hin hL), trivial⟩ ?_
  refine go_callV rfl rfl rfl (by decide) rfl (show 0 + pMc (tbl 151) ≤ _ by show 0 ≤ 100 * (r + 1); omega) (show 0 + pMs (tbl 151) ≤ _ by show 0 ≤ 1000 * (r + 1); omega) hx ?_
  refine hops.2.2.2.2.2.2.2.2.2.2.2.2.2.2.2.2.2.2.2.2.2.2.2.2.2.2.2.2.2.2.2.2.2.2.2.1 M _ _ hM _ (fun r1 M1 ho1 hs1 hcap => ⟨ne_i, ?_⟩)
  show Go 1312 277 _ _ 1546 [.ref b, .ref x, .ref o, .ref u, .int (nI (6 * t)), x5, x6] [.int r1] M1 (fun v _ => v = some (.int 1))
  refine go_blk 11 [some (.int (xs (6 * t + 1))), some (.int (xs (6 * t + 2)))] (pc' := 1559) (vs' := [.ref b, .ref x, .ref o, .ref u, .int (nI (6 * t)), x5, x6]) (st' := [.int (xs (6 * t + 2)), .int (xs (6 * t + 1)), .ref o, .int r1]) (M' := M1) (ps := [b = mSb M1, vp_in ((nI (6 * t)) + 1) (mSl M1), (Value.int (mSx M1 ((nI (6 * t)) + 1).toNatClampNeg)) = .int (xs (6 * t + 1)), b = mSb M1, vp_in ((nI (6 * t)) + 2) (mSl M1), (Value.int (mSx M1 ((nI (6 * t)) + 2).toNatClampNeg)) = .int (xs (6 * t + 2))]) rfl ⟨(sc_b (show mSc _ = _ from hs1.trans hs)), (sc_v1 (show mSc _ = _ from hs1.trans hs) hin), congrArg Value.int (sc_x1 (show mSc _ = _ from hs1.trans hs) hin hL), (sc_b (show mSc _ = _ from hs1.trans hs)), (sc_v2 (show mSc _ = _ from hs1.trans hs) hin), congrArg Value.int (sc_x2 (show mSc _ = _ from hs1.trans hs) hin hL), trivial⟩ ?_
  refine go_callV rfl rfl rfl (by decide) rfl (Nat.zero_le _) (Nat.zero_le _) ho1 ?_
  refine hcap _ (fun M2 hM2 => ⟨ne_i, ?_⟩)
  show Go 1312 277 _ _ 1562 [.ref b, .ref x, .ref o, .ref u, .int (nI (6 * t)), x5, x6] [.int r1, .int r1] M2 (fun v _ => v = some (.int 1))
  refine go_icmp rfl (fun _ => ?_) (fun (z : ¬ (r1 = r1)) => absurd (show r1 = r1 from rfl) z)
  exact Go.mono (ih M2 (x5) (x6) hM2) (Nat.le_refl _) (show 100 * r ≤ 100 * (r + 1) - 0 - 0 by omega) (show 1000 * r ≤ 1000 * (r + 1) - 0 - 0 by omega) (fun _ _ q => q)

set_option maxRecDepth 100000 in
theorem law_36 {I : Mem → Prop} {x o u b L t r : Nat} {xs : Nat → Int32} {x5 x6 : Value} {M : Mem} (hI : IOk I x o u (b, L, xs)) (hops : Ops I x o u) (hL : L ≤ 3072) (hin : 6 * t + 6 ≤ L ∧ L ≤ 3072) (hM : I M) (ih : ∀ (M2 : Mem) (x5 x6 : Value), I M2 → Go 1312 277 (100 * r) (1000 * r) 1834 [.ref b, .ref x, .ref o, .ref u, .int (nI (6 * t)), x5, x6] [] M2 (fun v _ => v = some (.int 1))) : Go 1312 277 (100 * (r + 1)) (1000 * (r + 1)) 1567 [.ref b, .ref x, .ref o, .ref u, .int (nI (6 * t)), x5, x6] [] M (fun v _ => v = some (.int 1)) := by
  obtain ⟨hx, ho, hu, hu1, hs⟩ := hI M hM
  show Go 1312 277 _ _ 1567 [.ref b, .ref x, .ref o, .ref u, .int (nI (6 * t)), x5, x6] [] M (fun v _ => v = some (.int 1))
  refine go_blk 6 [some (.int (xs (6 * t + 1)))] (pc' := 1574) (vs' := [.ref b, .ref x, .ref o, .ref u, .int (nI (6 * t)), x5, x6]) (st' := [.int (xs (6 * t + 1)), .ref x]) (M' := M) (ps := [b = mSb M, vp_in ((nI (6 * t)) + 1) (mSl M), (Value.int (mSx M ((nI (6 * t)) + 1).toNatClampNeg)) = .int (xs (6 * t + 1))]) rfl ⟨(sc_b hs), (sc_v1 hs hin), congrArg Value.int (sc_x1 hs hin hL), trivial⟩ ?_
  refine go_callV rfl rfl rfl (by decide) rfl (show 0 + pMc (tbl 152) ≤ _ by show 0 ≤ 100 * (r + 1); omega) (show 0 + pMs (tbl 152) ≤ _ by show 0 ≤ 1000 * (r + 1); omega) hx ?_
  refine hops.2.2.2.2.2.2.2.2.2.2.2.2.2.2.2.2.2.2.2.2.2.2.2.2.2.2.2.2.2.2.2.2.2.2.2.2.1 M _ hM _ (fun r1 M1 ho1 hs1 hcap => ⟨ne_i, ?_⟩)
  show Go 1312 277 _ _ 1577 [.ref b, .ref x, .ref o, .ref u, .int (nI (6 * t)), x5, x6] [.int r1] M1 (fun v _ => v = some (.int 1))
  refine go_blk 6 [some (.int (xs (6 * t + 1)))] (pc' := 1584) (vs' := [.ref b, .ref x, .ref o, .ref u, .int (nI (6 * t)), x5, x6]) (st' := [.int (xs (6 * t + 1)), .ref o, .int r1]) (M' := M1) (ps := [b = mSb M1, vp_in ((nI (6 * t)) + 1) (mSl M1), (Value.int (mSx M1 ((nI (6 * t)) + 1).toNatClampNeg)) = .int (xs (6 * t + 1))]) rfl ⟨(sc_b (show mSc _ = _ from hs1.trans hs)), (sc_v1 (show mSc _ = _ from hs1.trans hs) hin), congrArg Value.int (sc_x1 (show mSc _ = _ from hs1.trans hs) hin hL), trivial⟩ ?_
  refine go_callV rfl rfl rfl (by decide) rfl (Nat.zero_le _) (Nat.zero_le _) ho1 ?_
  refine hcap _ (fun M2 hM2 => ⟨ne_i, ?_⟩)
  show Go 1312 277 _ _ 1587 [.ref b, .ref x, .ref o, .ref u, .int (nI (6 * t)), x5, x6] [.int r1, .int r1] M2 (fun v _ => v = some (.int 1))
  refine go_icmp rfl (fun _ => ?_) (fun (z : ¬ (r1 = r1)) => absurd (show r1 = r1 from rfl) z)
  exact Go.mono (ih M2 (x5) (x6) hM2) (Nat.le_refl _) (show 100 * r ≤ 100 * (r + 1) - 0 - 0 by omega) (show 1000 * r ≤ 1000 * (r + 1) - 0 - 0 by omega) (fun _ _ q => q)

set_option maxRecDepth 100000 in
theorem law_37 {I : Mem → Prop} {x o u b L t r : Nat} {xs : Nat → Int32} {x5 x6 : Value} {M : Mem} (hI : IOk I x o u (b, L, xs)) (hops : Ops I x o u) (hL : L ≤ 3072) (hin : 6 * t + 6 ≤ L ∧ L ≤ 3072) (hM : I M) (ih : ∀ (M2 : Mem) (x5 x6 : Value), I M2 → Go 1312 277 (100 * r) (1000 * r) 1834 [.ref b, .ref x, .ref o, .ref u, .int (nI (6 * t)), x5, x6] [] M2 (fun v _ => v = some (.int 1))) : Go 1312 277 (100 * (r + 1)) (1000 * (r + 1)) 1592 [.ref b, .ref x, .ref o, .ref u, .int (nI (6 * t)), x5, x6] [] M (fun v _ => v = some (.int 1)) := by
  obtain ⟨hx, ho, hu, hu1, hs⟩ := hI M hM
  show Go 1312 277 _ _ 1592 [.ref b, .ref x, .ref o, .ref u, .int (nI (6 * t)), x5, x6] [] M (fun v _ => v = some (.int 1))
  refine go_blk 11 [some (.int (xs (6 * t + 1))), some (.int (xs (6 * t + 2)))] (pc' := 1605) (vs' := [.ref b, .ref x, .ref o, .ref u, .int (nI (6 * t)), x5, x6]) (st' := [.int (xs (6 * t + 2)), .int (xs (6 * t + 1)), .ref x]) (M' := M) (ps := [b = mSb M, vp_in ((nI (6 * t)) + 1) (mSl M), (Value.int (mSx M ((nI (6 * t)) + 1).toNatClampNeg)) = .int (xs (6 * t + 1)), b = mSb M, vp_in ((nI (6 * t)) + 2) (mSl M), (Value.int (mSx M ((nI (6 * t)) + 2).toNatClampNeg)) = .int (xs (6 * t + 2))]) rfl ⟨(sc_b hs), (sc_v1 hs hin), congrArg Value.int (sc_x1 hs hin hL), (sc_b hs), (sc_v2 hs hin), congrArg Value.int (sc_x2 hs hin hL), trivial⟩ ?_
  refine go_callV rfl rfl rfl (by decide) rfl (show 0 + pMc (tbl 153) ≤ _ by show 0 ≤ 100 * (r + 1); omega) (show 0 + pMs (tbl 153) ≤ _ by show 0 ≤ 1000 * (r + 1); omega) hx ?_
  refine hops.2.2.2.2.2.2.2.2.2.2.2.2.2.2.2.2.2.2.2.2.2.2.2.2.2.2.2.2.2.2.2.2.2.2.2.2.2.1 M _ _ hM _ (fun r1 M1 ho1 hs1 hcap => ⟨ne_i, ?_⟩)
  show Go 1312 277 _ _ 1608 [.ref b, .ref x, .ref o, .ref u, .int (nI (6 * t)), x5, x6] [.int r1] M1 (fun v _ => v = some (.int 1))
  refine go_blk 11 [some (.int (xs (6 * t + 1))), some (.int (xs (6 * t + 2)))] (pc' := 1621) (vs' := [.ref b, .ref x, .ref o, .ref u, .int (nI (6 * t)), x5, x6]) (st' := [.int (xs (6 * t + 2)), .int (xs (6 * t + 1)), .ref o, .int r1]) (M' := M1) (ps := [b = mSb M1, vp_in ((nI (6 * t)) + 1) (mSl M1), (Value.int (mSx M1 ((nI (6 * t)) + 1).toNatClampNeg)) = .int (xs (6 * t + 1)), b = mSb M1, vp_in ((nI (6 * t)) + 2) (mSl M1), (Value.int (mSx M1 ((nI (6 * t)) + 2).toNatClampNeg)) = .int (xs (6 * t + 2))]) rfl ⟨(sc_b (show mSc _ = _ from hs1.trans hs)), (sc_v1 (show mSc _ = _ from hs1.trans hs) hin), congrArg Value.int (sc_x1 (show mSc _ = _ from hs1.trans hs) hin hL), (sc_b (show mSc _ = _ from hs1.trans hs)), (sc_v2 (show mSc _ = _ from hs1.trans hs) hin), congrArg Value.int (sc_x2 (show mSc _ = _ from hs1.trans hs) hin hL), trivial⟩ ?_
  refine go_callV rfl rfl rfl (by decide) rfl (Nat.zero_le _) (Nat.zero_le _) ho1 ?_
  refine hcap _ (fun M2 hM2 => ⟨ne_i, ?_⟩)
  show Go 1312 277 _ _ 1624 [.ref b, .ref x, .ref o, .ref u, .int (nI (6 * t)), x5, x6] [.int r1, .int r1] M2 (fun v _ => v = some (.int 1))
  refine go_icmp rfl (fun _ => ?_) (fun (z : ¬ (r1 = r1)) => absurd (show r1 = r1 from rfl) z)
  exact Go.mono (ih M2 (x5) (x6) hM2) (Nat.le_refl _) (show 100 * r ≤ 100 * (r + 1) - 0 - 0 by omega) (show 1000 * r ≤ 1000 * (r + 1) - 0 - 0 by omega) (fun _ _ q => q)

set_option maxRecDepth 100000 in
theorem law_38 {I : Mem → Prop} {x o u b L t r : Nat} {xs : Nat → Int32} {x5 x6 : Value} {M : Mem} (hI : IOk I x o u (b, L, xs)) (hops : Ops I x o u) (hL : L ≤ 3072) (hin : 6 * t + 6 ≤ L ∧ L ≤ 3072) (hM : I M) (ih : ∀ (M2 : Mem) (x5 x6 : Value), I M2 → Go 1312 277 (100 * r) (1000 * r) 1834 [.ref b, .ref x, .ref o, .ref u, .int (nI (6 * t)), x5, x6] [] M2 (fun v _ => v = some (.int 1))) : Go 1312 277 (100 * (r + 1)) (1000 * (r + 1)) 1629 [.ref b, .ref x, .ref o, .ref u, .int (nI (6 * t)), x5, x6] [] M (fun v _ => v = some (.int 1)) := by
  obtain ⟨hx, ho, hu, hu1, hs⟩ := hI M hM
  show Go 1312 277 _ _ 1629 [.ref b, .ref x, .ref o, .ref u, .int (nI (6 * t)), x5, x6] [] M (fun v _ => v = some (.int 1))
  refine go_blk 11 [some (.int (xs (6 * t + 1))), some (.int (xs (6 * t + 2)))] (pc' := 1642) (vs' := [.ref b, .ref x, .ref o, .ref u, .int (nI (6 * t)), x5, x6]) (st' := [.int (xs (6 * t + 2)), .int (xs (6 * t + 1)), .ref x]) (M' := M) (ps := [b = mSb M, vp_in ((nI (6 * t)) + 1) (mSl M), (Value.int (mSx M ((nI (6 * t)) + 1).toNatClampNeg)) = .int (xs (6 * t + 1)), b = mSb M, vp_in ((nI (6 * t)) + 2) (mSl M), (Value.int (mSx M ((nI (6 * t)) + 2).toNatClampNeg)) = .int (xs (6 * t + 2))]) rfl ⟨(sc_b hs), (sc_v1 hs hin), congrArg Value.int (sc_x1 hs hin hL), (sc_b hs), (sc_v2 hs hin), congrArg Value.int (sc_x2 hs hin hL), trivial⟩ ?_
  refine go_callV rfl rfl rfl (by decide) rfl (show 0 + pMc (tbl 154) ≤ _ by show 0 ≤ 100 * (r + 1); omega) (show 0 + pMs (tbl 154) ≤ _ by show 0 ≤ 1000 * (r + 1); omega) hx ?_
  refine hops.2.2.2.2.2.2.2.2.2.2.2.2.2.2.2.2.2.2.2.2.2.2.2.2.2.2.2.2.2.2.2.2.2.2.2.2.2.2.1 M _ _ hM _ (fun r1 M1 ho1 hs1 hcap => ⟨ne_i, ?_⟩)
  show Go 1312 277 _ _ 1645 [.ref b, .ref x, .ref o, .ref u, .int (nI (6 * t)), x5, x6] [.int r1] M1 (fun v _ => v = some (.int 1))
  refine go_blk 11 [some (.int (xs (6 * t + 1))), some (.int (xs (6 * t + 2)))] (pc' := 1658) (vs' := [.ref b, .ref x, .ref o, .ref u, .int (nI (6 * t)), x5, x6]) (st' := [.int (xs (6 * t + 2)), .int (xs (6 * t + 1)), .ref o, .int r1]) (M' := M1) (ps := [b = mSb M1, vp_in ((nI (6 * t)) + 1) (mSl M1), (Value.int (mSx M1 ((nI (6 * t)) + 1).toNatClampNeg)) = .int (xs (6 * t + 1)), b = mSb M1, vp_in ((nI (6 * t)) + 2) (mSl M1), (Value.int (mSx M1 ((nI (6 * t)) + 2).toNatClampNeg)) = .int (xs (6 * t + 2))]) rfl ⟨(sc_b (show mSc _ = _ from hs1.trans hs)), (sc_v1 (show mSc _ = _ from hs1.trans hs) hin), congrArg Value.int (sc_x1 (show mSc _ = _ from hs1.trans hs) hin hL), (sc_b (show mSc _ = _ from hs1.trans hs)), (sc_v2 (show mSc _ = _ from hs1.trans hs) hin), congrArg Value.int (sc_x2 (show mSc _ = _ from hs1.trans hs) hin hL), trivial⟩ ?_
  refine go_callV rfl rfl rfl (by decide) rfl (Nat.zero_le _) (Nat.zero_le _) ho1 ?_
  refine hcap _ (fun M2 hM2 => ⟨ne_i, ?_⟩)
  show Go 1312 277 _ _ 1661 [.ref b, .ref x, .ref o, .ref u, .int (nI (6 * t)), x5, x6] [.int r1, .int r1] M2 (fun v _ => v = some (.int 1))
  refine go_icmp rfl (fun _ => ?_) (fun (z : ¬ (r1 = r1)) => absurd (show r1 = r1 from rfl) z)
  exact Go.mono (ih M2 (x5) (x6) hM2) (Nat.le_refl _) (show 100 * r ≤ 100 * (r + 1) - 0 - 0 by omega) (show 1000 * r ≤ 1000 * (r + 1) - 0 - 0 by omega) (fun _ _ q => q)

set_option maxRecDepth 100000 in
theorem law_39 {I : Mem → Prop} {x o u b L t r : Nat} {xs : Nat → Int32} {x5 x6 : Value} {M : Mem} (hI : IOk I x o u (b, L, xs)) (hops : Ops I x o u) (hL : L ≤ 3072) (hin : 6 * t + 6 ≤ L ∧ L ≤ 3072) (hM : I M) (ih : ∀ (M2 : Mem) (x5 x6 : Value), I M2 → Go 1312 277 (100 * r) (1000 * r) 1834 [.ref b, .ref x, .ref o, .ref u, .int (nI (6 * t)), x5, x6] [] M2 (fun v _ => v = some (.int 1))) : Go 1312 277 (100 * (r + 1)) (1000 * (r + 1)) 1666 [.ref b, .ref x, .ref o, .ref u, .int (nI (6 * t)), x5, x6] [] M (fun v _ => v = some (.int 1)) := by
  obtain ⟨hx, ho, hu, hu1, hs⟩ := hI M hM
  show Go 1312 277 _ _ 1666 [.ref b, .ref x, .ref o, .ref u, .int (nI (6 * t)), x5, x6] [] M (fun v _ => v = some (.int 1))
  refine go_blk 23 [some (.int (xs (6 * t + 1))), some (.int (xs (6 * t + 2))), some (.int (xs (6 * t + 3)))] (pc' := 1695) (vs' := [.ref b, .ref x, .ref o, .ref u, .int (nI (6 * t)), x5, x6]) (st' := [.long ((((xs (6 * t + 2)).toInt64) <<< ((32 : Int32).toInt64 &&& 63)) ||| (((xs (6 * t + 3)).toInt64) &&& 4294967295)), .int (xs (6 * t + 1)), .ref x]) (M' := M) (ps := [b = mSb M, vp_in ((nI (6 * t)) + 1) (mSl M), (Value.int (mSx M ((nI (6 * t)) + 1).toNatClampNeg)) = .int (xs (6 * t + 1)), b = mSb M, vp_in ((nI (6 * t)) + 2) (mSl M), (Value.int (mSx M ((nI (6 * t)) + 2).toNatClampNeg)) = .int (xs (6 * t + 2)), b = mSb M, vp_in ((nI (6 * t)) + 3) (mSl M), (Value.int (mSx M ((nI (6 * t)) + 3).toNatClampNeg)) = .int (xs (6 * t + 3))]) rfl ⟨(sc_b hs), (sc_v1 hs hin), congrArg Value.int (sc_x1 hs hin hL), (sc_b hs), (sc_v2 hs hin), congrArg Value.int (sc_x2 hs hin hL), (sc_b hs), (sc_v3 hs hin), congrArg Value.int (sc_x3 hs hin hL), trivial⟩ ?_
  refine go_callV rfl rfl rfl (by decide) rfl (show 0 + pMc (tbl 155) ≤ _ by show 0 ≤ 100 * (r + 1); omega) (show 0 + pMs (tbl 155) ≤ _ by show 0 ≤ 1000 * (r + 1); omega) hx ?_
  refine hops.2.2.2.2.2.2.2.2.2.2.2.2.2.2.2.2.2.2.2.2.2.2.2.2.2.2.2.2.2.2.2.2.2.2.2.2.2.2.2.1 M _ _ hM _ (fun r1 M1 ho1 hs1 hcap => ⟨ne_i, ?_⟩)
  show Go 1312 277 _ _ 1698 [.ref b, .ref x, .ref o, .ref u, .int (nI (6 * t)), x5, x6] [.int r1] M1 (fun v _ => v = some (.int 1))
  refine go_blk 23 [some (.int (xs (6 * t + 1))), some (.int (xs (6 * t + 2))), some (.int (xs (6 * t + 3)))] (pc' := 1727) (vs' := [.ref b, .ref x, .ref o, .ref u, .int (nI (6 * t)), x5, x6]) (st' := [.long ((((xs (6 * t + 2)).toInt64) <<< ((32 : Int32).toInt64 &&& 63)) ||| (((xs (6 * t + 3)).toInt64) &&& 4294967295)), .int (xs (6 * t + 1)), .ref o, .int r1]) (M' := M1) (ps := [b = mSb M1, vp_in ((nI (6 * t)) + 1) (mSl M1), (Value.int (mSx M1 ((nI (6 * t)) + 1).toNatClampNeg)) = .int (xs (6 * t + 1)), b = mSb M1, vp_in ((nI (6 * t)) + 2) (mSl M1), (Value.int (mSx M1 ((nI (6 * t)) + 2).toNatClampNeg)) = .int (xs (6 * t + 2)), b = mSb M1, vp_in ((nI (6 * t)) + 3) (mSl M1), (Value.int (mSx M1 ((nI (6 * t)) + 3).toNatClampNeg)) = .int (xs (6 * t + 3))]) rfl ⟨(sc_b (show mSc _ = _ from hs1.trans hs)), (sc_v1 (show mSc _ = _ from hs1.trans hs) hin), congrArg Value.int (sc_x1 (show mSc _ = _ from hs1.trans hs) hin hL), (sc_b (show mSc _ = _ from hs1.trans hs)), (sc_v2 (show mSc _ = _ from hs1.trans hs) hin), congrArg Value.int (sc_x2 (show mSc _ = _ from hs1.trans hs) hin hL), (sc_b (show mSc _ = _ from hs1.trans hs)), (sc_v3 (show mSc _ = _ from hs1.trans hs) hin), congrArg Value.int (sc_x3 (show mSc _ = _ from hs1.trans hs) hin hL), trivial⟩ ?_
  refine go_callV rfl rfl rfl (by decide) rfl (Nat.zero_le _) (Nat.zero_le _) ho1 ?_
  refine hcap _ (fun M2 hM2 => ⟨ne_i, ?_⟩)
  show Go 1312 277 _ _ 1730 [.ref b, .ref x, .ref o, .ref u, .int (nI (6 * t)), x5, x6] [.int r1, .int r1] M2 (fun v _ => v = some (.int 1))
  refine go_icmp rfl (fun _ => ?_) (fun (z : ¬ (r1 = r1)) => absurd (show r1 = r1 from rfl) z)
  exact Go.mono (ih M2 (x5) (x6) hM2) (Nat.le_refl _) (show 100 * r ≤ 100 * (r + 1) - 0 - 0 by omega) (show 1000 * r ≤ 1000 * (r + 1) - 0 - 0 by omega) (fun _ _ q => q)

set_option maxRecDepth 100000 in
theorem law_40 {I : Mem → Prop} {x o u b L t r : Nat} {xs : Nat → Int32} {x5 x6 : Value} {M : Mem} (hI : IOk I x o u (b, L, xs)) (hops : Ops I x o u) (hL : L ≤ 3072) (hin : 6 * t + 6 ≤ L ∧ L ≤ 3072) (hM : I M) (ih : ∀ (M2 : Mem) (x5 x6 : Value), I M2 → Go 1312 277 (100 * r) (1000 * r) 1834 [.ref b, .ref x, .ref o, .ref u, .int (nI (6 * t)), x5, x6] [] M2 (fun v _ => v = some (.int 1))) : Go 1312 277 (100 * (r + 1)) (1000 * (r + 1)) 1735 [.ref b, .ref x, .ref o, .ref u, .int (nI (6 * t)), x5, x6] [] M (fun v _ => v = some (.int 1)) := by
  obtain ⟨hx, ho, hu, hu1, hs⟩ := hI M hM
  show Go 1312 277 _ _ 1735 [.ref b, .ref x, .ref o, .ref u, .int (nI (6 * t)), x5, x6] [] M (fun v _ => v = some (.int 1))
  refine go_blk 6 [some (.int (xs (6 * t + 1)))] (pc' := 1742) (vs' := [.ref b, .ref x, .ref o, .ref u, .int (nI (6 * t)), x5, x6]) (st' := [.int (xs (6 * t + 1)), .ref x]) (M' := M) (ps := [b = mSb M, vp_in ((nI (6 * t)) + 1) (mSl M), (Value.int (mSx M ((nI (6 * t)) + 1).toNatClampNeg)) = .int (xs (6 * t + 1))]) rfl ⟨(sc_b hs), (sc_v1 hs hin), congrArg Value.int (sc_x1 hs hin hL), trivial⟩ ?_
  refine go_callV rfl rfl rfl (by decide) rfl (show 0 + pMc (tbl 156) ≤ _ by show 0 ≤ 100 * (r + 1); omega) (show 0 + pMs (tbl 156) ≤ _ by show 0 ≤ 1000 * (r + 1); omega) hx ?_
  refine hops.2.2.2.2.2.2.2.2.2.2.2.2.2.2.2.2.2.2.2.2.2.2.2.2.2.2.2.2.2.2.2.2.2.2.2.2.2.2.2.2.1 M _ hM _ (fun r1 M1 ho1 hs1 hcap => ⟨ne_i, ?_⟩)
  show Go 1312 277 _ _ 1745 [.ref b, .ref x, .ref o, .ref u, .int (nI (6 * t)), x5, x6] [.int r1] M1 (fun v _ => v = some (.int 1))
  refine go_blk 6 [some (.int (xs (6 * t + 1)))] (pc' := 1752) (vs' := [.ref b, .ref x, .ref o, .ref u, .int (nI (6 * t)), x5, x6]) (st' := [.int (xs (6 * t + 1)), .ref o, .int r1]) (M' := M1) (ps := [b = mSb M1, vp_in ((nI (6 * t)) + 1) (mSl M1), (Value.int (mSx M1 ((nI (6 * t)) + 1).toNatClampNeg)) = .int (xs (6 * t + 1))]) rfl ⟨(sc_b (show mSc _ = _ from hs1.trans hs)), (sc_v1 (show mSc _ = _ from hs1.trans hs) hin), congrArg Value.int (sc_x1 (show mSc _ = _ from hs1.trans hs) hin hL), trivial⟩ ?_
  refine go_callV rfl rfl rfl (by decide) rfl (Nat.zero_le _) (Nat.zero_le _) ho1 ?_
  refine hcap _ (fun M2 hM2 => ⟨ne_i, ?_⟩)
  show Go 1312 277 _ _ 1755 [.ref b, .ref x, .ref o, .ref u, .int (nI (6 * t)), x5, x6] [.int r1, .int r1] M2 (fun v _ => v = some (.int 1))
  refine go_icmp rfl (fun _ => ?_) (fun (z : ¬ (r1 = r1)) => absurd (show r1 = r1 from rfl) z)
  exact Go.mono (ih M2 (x5) (x6) hM2) (Nat.le_refl _) (show 100 * r ≤ 100 * (r + 1) - 0 - 0 by omega) (show 1000 * r ≤ 1000 * (r + 1) - 0 - 0 by omega) (fun _ _ q => q)

set_option maxRecDepth 100000 in
theorem law_41 {I : Mem → Prop} {x o u b L t r : Nat} {xs : Nat → Int32} {x5 x6 : Value} {M : Mem} (hI : IOk I x o u (b, L, xs)) (hops : Ops I x o u) (hL : L ≤ 3072) (hin : 6 * t + 6 ≤ L ∧ L ≤ 3072) (hM : I M) (ih : ∀ (M2 : Mem) (x5 x6 : Value), I M2 → Go 1312 277 (100 * r) (1000 * r) 1834 [.ref b, .ref x, .ref o, .ref u, .int (nI (6 * t)), x5, x6] [] M2 (fun v _ => v = some (.int 1))) : Go 1312 277 (100 * (r + 1)) (1000 * (r + 1)) 1760 [.ref b, .ref x, .ref o, .ref u, .int (nI (6 * t)), x5, x6] [] M (fun v _ => v = some (.int 1)) := by
  obtain ⟨hx, ho, hu, hu1, hs⟩ := hI M hM
  show Go 1312 277 _ _ 1760 [.ref b, .ref x, .ref o, .ref u, .int (nI (6 * t)), x5, x6] [] M (fun v _ => v = some (.int 1))
  refine go_blk 16 [some (.int (xs (6 * t + 1))), some (.int (xs (6 * t + 2))), some (.int (xs (6 * t + 3)))] (pc' := 1779) (vs' := [.ref b, .ref x, .ref o, .ref u, .int (nI (6 * t)), x5, x6]) (st' := [.int (xs (6 * t + 3)), .int (xs (6 * t + 2)), .int (xs (6 * t + 1)), .ref x]) (M' := M) (ps := [b = mSb M, vp_in ((nI (6 * t)) + 1) (mSl M), (Value.int (mSx M ((nI (6 * t)) + 1).toNatClampNeg)) = .int (xs (6 * t + 1)), b = mSb M, vp_in ((nI (6 * t)) + 2) (mSl M), (Value.int (mSx M ((nI (6 * t)) + 2).toNatClampNeg)) = .int (xs (6 * t + 2)), b = mSb M, vp_in ((nI (6 * t)) + 3) (mSl M), (Value.int (mSx M ((nI (6 * t)) + 3).toNatClampNeg)) = .int (xs (6 * t + 3))]) rfl ⟨(sc_b hs), (sc_v1 hs hin), congrArg Value.int (sc_x1 hs hin hL), (sc_b hs), (sc_v2 hs hin), congrArg Value.int (sc_x2 hs hin hL), (sc_b hs), (sc_v3 hs hin), congrArg Value.int (sc_x3 hs hin hL), trivial⟩ ?_
  refine go_callV rfl rfl rfl (by decide) rfl (show 0 + pMc (tbl 157) ≤ _ by show 0 ≤ 100 * (r + 1); omega) (show 0 + pMs (tbl 157) ≤ _ by show 0 ≤ 1000 * (r + 1); omega) hx ?_
  refine hops.2.2.2.2.2.2.2.2.2.2.2.2.2.2.2.2.2.2.2.2.2.2.2.2.2.2.2.2.2.2.2.2.2.2.2.2.2.2.2.2.2.1 M _ _ _ hM _ (fun r1 M1 ho1 hs1 hcap => ⟨ne_i, ?_⟩)
  show Go 1312 277 _ _ 1782 [.ref b, .ref x, .ref o, .ref u, .int (nI (6 * t)), x5, x6] [.int r1] M1 (fun v _ => v = some (.int 1))
  refine go_blk 16 [some (.int (xs (6 * t + 1))), some (.int (xs (6 * t + 2))), some (.int (xs (6 * t + 3)))] (pc' := 1801) (vs' := [.ref b, .ref x, .ref o, .ref u, .int (nI (6 * t)), x5, x6]) (st' := [.int (xs (6 * t + 3)), .int (xs (6 * t + 2)), .int (xs (6 * t + 1)), .ref o, .int r1]) (M' := M1) (ps := [b = mSb M1, vp_in ((nI (6 * t)) + 1) (mSl M1), (Value.int (mSx M1 ((nI (6 * t)) + 1).toNatClampNeg)) = .int (xs (6 * t + 1)), b = mSb M1, vp_in ((nI (6 * t)) + 2) (mSl M1), (Value.int (mSx M1 ((nI (6 * t)) + 2).toNatClampNeg)) = .int (xs (6 * t + 2)), b = mSb M1, vp_in ((nI (6 * t)) + 3) (mSl M1), (Value.int (mSx M1 ((nI (6 * t)) + 3).toNatClampNeg)) = .int (xs (6 * t + 3))]) rfl ⟨(sc_b (show mSc _ = _ from hs1.trans hs)), (sc_v1 (show mSc _ = _ from hs1.trans hs) hin), congrArg Value.int (sc_x1 (show mSc _ = _ from hs1.trans hs) hin hL), (sc_b (show mSc _ = _ from hs1.trans hs)), (sc_v2 (show mSc _ = _ from hs1.trans hs) hin), congrArg Value.int (sc_x2 (show mSc _ = _ from hs1.trans hs) hin hL), (sc_b (show mSc _ = _ from hs1.trans hs)), (sc_v3 (show mSc _ = _ from hs1.trans hs) hin), congrArg Value.int (sc_x3 (show mSc _ = _ from hs1.trans hs) hin hL), trivial⟩ ?_
  refine go_callV rfl rfl rfl (by decide) rfl (Nat.zero_le _) (Nat.zero_le _) ho1 ?_
  refine hcap _ (fun M2 hM2 => ⟨ne_i, ?_⟩)
  show Go 1312 277 _ _ 1804 [.ref b, .ref x, .ref o, .ref u, .int (nI (6 * t)), x5, x6] [.int r1, .int r1] M2 (fun v _ => v = some (.int 1))
  refine go_icmp rfl (fun _ => ?_) (fun (z : ¬ (r1 = r1)) => absurd (show r1 = r1 from rfl) z)
  exact Go.mono (ih M2 (x5) (x6) hM2) (Nat.le_refl _) (show 100 * r ≤ 100 * (r + 1) - 0 - 0 by omega) (show 1000 * r ≤ 1000 * (r + 1) - 0 - 0 by omega) (fun _ _ q => q)

set_option maxRecDepth 100000 in
theorem law_42 {I : Mem → Prop} {x o u b L t r : Nat} {xs : Nat → Int32} {x5 x6 : Value} {M : Mem} (hI : IOk I x o u (b, L, xs)) (hops : Ops I x o u) (hL : L ≤ 3072) (hin : 6 * t + 6 ≤ L ∧ L ≤ 3072) (hM : I M) (ih : ∀ (M2 : Mem) (x5 x6 : Value), I M2 → Go 1312 277 (100 * r) (1000 * r) 1834 [.ref b, .ref x, .ref o, .ref u, .int (nI (6 * t)), x5, x6] [] M2 (fun v _ => v = some (.int 1))) : Go 1312 277 (100 * (r + 1)) (1000 * (r + 1)) 1809 [.ref b, .ref x, .ref o, .ref u, .int (nI (6 * t)), x5, x6] [] M (fun v _ => v = some (.int 1)) := by
  obtain ⟨hx, ho, hu, hu1, hs⟩ := hI M hM
  show Go 1312 277 _ _ 1809 [.ref b, .ref x, .ref o, .ref u, .int (nI (6 * t)), x5, x6] [] M (fun v _ => v = some (.int 1))
  refine go_blk 6 [some (.int (xs (6 * t + 1)))] (pc' := 1816) (vs' := [.ref b, .ref x, .ref o, .ref u, .int (nI (6 * t)), x5, x6]) (st' := [.int (xs (6 * t + 1)), .ref x]) (M' := M) (ps := [b = mSb M, vp_in ((nI (6 * t)) + 1) (mSl M), (Value.int (mSx M ((nI (6 * t)) + 1).toNatClampNeg)) = .int (xs (6 * t + 1))]) rfl ⟨(sc_b hs), (sc_v1 hs hin), congrArg Value.int (sc_x1 hs hin hL), trivial⟩ ?_
  refine go_callV rfl rfl rfl (by decide) rfl (show 0 + pMc (tbl 158) ≤ _ by show 0 ≤ 100 * (r + 1); omega) (show 0 + pMs (tbl 158) ≤ _ by show 0 ≤ 1000 * (r + 1); omega) hx ?_
  refine hops.2.2.2.2.2.2.2.2.2.2.2.2.2.2.2.2.2.2.2.2.2.2.2.2.2.2.2.2.2.2.2.2.2.2.2.2.2.2.2.2.2.2 M _ hM _ (fun r1 M1 ho1 hs1 hcap => ⟨ne_i, ?_⟩)
  show Go 1312 277 _ _ 1819 [.ref b, .ref x, .ref o, .ref u, .int (nI (6 * t)), x5, x6] [.int r1] M1 (fun v _ => v = some (.int 1))
  refine go_blk 6 [some (.int (xs (6 * t + 1)))] (pc' := 1826) (vs' := [.ref b, .ref x, .ref o, .ref u, .int (nI (6 * t)), x5, x6]) (st' := [.int (xs (6 * t + 1)), .ref o, .int r1]) (M' := M1) (ps := [b = mSb M1, vp_in ((nI (6 * t)) + 1) (mSl M1), (Value.int (mSx M1 ((nI (6 * t)) + 1).toNatClampNeg)) = .int (xs (6 * t + 1))]) rfl ⟨(sc_b (show mSc _ = _ from hs1.trans hs)), (sc_v1 (show mSc _ = _ from hs1.trans hs) hin), congrArg Value.int (sc_x1 (show mSc _ = _ from hs1.trans hs) hin hL), trivial⟩ ?_
  refine go_callV rfl rfl rfl (by decide) rfl (Nat.zero_le _) (Nat.zero_le _) ho1 ?_
  refine hcap _ (fun M2 hM2 => ⟨ne_i, ?_⟩)
  show Go 1312 277 _ _ 1829 [.ref b, .ref x, .ref o, .ref u, .int (nI (6 * t)), x5, x6] [.int r1, .int r1] M2 (fun v _ => v = some (.int 1))
  refine go_icmp rfl (fun _ => ?_) (fun (z : ¬ (r1 = r1)) => absurd (show r1 = r1 from rfl) z)
  exact Go.mono (ih M2 (x5) (x6) hM2) (Nat.le_refl _) (show 100 * r ≤ 100 * (r + 1) - 0 - 0 by omega) (show 1000 * r ≤ 1000 * (r + 1) - 0 - 0 by omega) (fun _ _ q => q)

set_option maxRecDepth 100000 in
theorem law_loop {I : Mem → Prop} {x o u b L : Nat} {xs : Nat → Int32} (hI : IOk I x o u (b, L, xs)) (hops : Ops I x o u) (hL : L ≤ 3072) : ∀ (r t : Nat) (x5 x6 : Value) (M : Mem), t + r = 512 → I M → Go 1312 277 (100 * r) (1000 * r) 23 [.ref b, .ref x, .ref o, .ref u, .int (nI (6 * t)), x5, x6] [] M (fun v _ => v = some (.int 1)) := by
  intro r
  induction r with
  | zero =>
    intro t x5 x6 M ht hM
    obtain ⟨hx, ho, hu, hu1, hs⟩ := hI M hM
    refine go_blk 5 [] (pc' := 30) (vs' := [.ref b, .ref x, .ref o, .ref u, .int (nI (6 * t)), x5, x6]) (st' := [.int (nI (mSl M) - 6), .int (nI (6 * t))]) (M' := M) (ps := [b = mSb M]) rfl ⟨sc_b hs, trivial⟩ ?_
    refine go_icmp rfl (fun _ => ?_) (fun (z : ¬ (nI (mSl M) - 6 < nI (6 * t))) => absurd ((sc_gt hs hL (by omega)).mpr (by omega)) z)
    refine go_blk 1 [] (pc' := 1841) (vs' := [.ref b, .ref x, .ref o, .ref u, .int (nI (6 * t)), x5, x6]) (st' := [.int 1]) (M' := M) (ps := []) rfl trivial ?_
    exact go_zret rfl rfl (Or.inr rfl) rfl
  | succ r ih =>
    intro t x5 x6 M ht hM
    obtain ⟨hx, ho, hu, hu1, hs⟩ := hI M hM
    refine go_blk 5 [] (pc' := 30) (vs' := [.ref b, .ref x, .ref o, .ref u, .int (nI (6 * t)), x5, x6]) (st' := [.int (nI (mSl M) - 6), .int (nI (6 * t))]) (M' := M) (ps := [b = mSb M]) rfl ⟨sc_b hs, trivial⟩ ?_
    refine go_icmp rfl (fun _ => ?_) (fun (z : ¬ (nI (mSl M) - 6 < nI (6 * t))) => ?_)
    · refine go_blk 1 [] (pc' := 1841) (vs' := [.ref b, .ref x, .ref o, .ref u, .int (nI (6 * t)), x5, x6]) (st' := [.int 1]) (M' := M) (ps := []) rfl trivial ?_
      exact go_zret rfl rfl (Or.inr rfl) rfl
    · have hin : 6 * t + 6 ≤ L ∧ L ≤ 3072 := ⟨Nat.not_lt.mp (fun q => z ((sc_gt hs hL (by omega)).mpr q)), hL⟩
      have back : ∀ (M2 : Mem) (x5 x6 : Value), I M2 → Go 1312 277 (100 * r) (1000 * r) 1834 [.ref b, .ref x, .ref o, .ref u, .int (nI (6 * t)), x5, x6] [] M2 (fun v _ => v = some (.int 1)) := by
        intro M2 x5 x6 hM2
        refine go_blk 2 [] (pc' := 23) (vs' := [.ref b, .ref x, .ref o, .ref u, .int (nI (6 * t) + 6), x5, x6]) (st' := []) (M' := M2) (ps := []) rfl trivial ?_
        rw [show nI (6 * t) + 6 = nI (6 * (t + 1)) by rw [show (6 : Int32) = nI 6 from rfl, nI_add]; rfl]
        exact ih (t + 1) x5 x6 M2 (by omega) hM2
      refine go_blk 5 [some (.int (xs (6 * t)))] (pc' := 40) (vs' := [.ref b, .ref x, .ref o, .ref u, .int (nI (6 * t)), x5, x6]) (st' := [.int (xs (6 * t) &&& 63)]) (M' := M) (ps := [b = mSb M, vp_in (nI (6 * t)) (mSl M), (Value.int (mSx M (nI (6 * t)).toNatClampNeg)) = .int (xs (6 * t))]) rfl ⟨sc_b hs, sc_v hs hin, congrArg Value.int (sc_x hs hin hL), trivial⟩ ?_
      refine go_tsw rfl ?_
      refine ⟨fun _ => law_0 hI hops hL hin hM back, fun _ => ?_⟩
      refine ⟨fun _ => law_1 hI hops hL hin hM back, fun _ => ?_⟩
      refine ⟨fun _ => law_2 hI hops hL hin hM back, fun _ => ?_⟩
      refine ⟨fun _ => law_3 hI hops hL hin hM back, fun _ => ?_⟩
      refine ⟨fun _ => law_4 hI hops hL hin hM back, fun _ => ?_⟩
      refine ⟨fun _ => law_5 hI hops hL hin hM back, fun _ => ?_⟩
      refine ⟨fun _ => law_6 hI hops hL hin hM back, fun _ => ?_⟩
      refine ⟨fun _ => law_7 hI hops hL hin hM back, fun _ => ?_⟩
      refine ⟨fun _ => law_8 hI hops hL hin hM back, fun _ => ?_⟩
      refine ⟨fun _ => law_9 hI hops hL hin hM back, fun _ => ?_⟩
      refine ⟨fun _ => law_10 hI hops hL hin hM back, fun _ => ?_⟩
      refine ⟨fun _ => law_11 hI hops hL hin hM back, fun _ => ?_⟩
      refine ⟨fun _ => law_12 hI hops hL hin hM back, fun _ => ?_⟩
      refine ⟨fun _ => law_13 hI hops hL hin hM back, fun _ => ?_⟩
      refine ⟨fun _ => law_14 hI hops hL hin hM back, fun _ => ?_⟩
      refine ⟨fun _ => law_15 hI hops hL hin hM back, fun _ => ?_⟩
      refine ⟨fun _ => law_16 hI hops hL hin hM back, fun _ => ?_⟩
      refine ⟨fun _ => law_17 hI hops hL hin hM back, fun _ => ?_⟩
      refine ⟨fun _ => law_18 hI hops hL hin hM back, fun _ => ?_⟩
      refine ⟨fun _ => law_19 hI hops hL hin hM back, fun _ => ?_⟩
      refine ⟨fun _ => law_20 hI hops hL hin hM back, fun _ => ?_⟩
      refine ⟨fun _ => law_21 hI hops hL hin hM back, fun _ => ?_⟩
      refine ⟨fun _ => law_22 hI hops hL hin hM back, fun _ => ?_⟩
      refine ⟨fun _ => law_23 hI hops hL hin hM back, fun _ => ?_⟩
      refine ⟨fun _ => law_24 hI hops hL hin hM back, fun _ => ?_⟩
      refine ⟨fun _ => law_25 hI hops hL hin hM back, fun _ => ?_⟩
      refine ⟨fun _ => law_26 hI hops hL hin hM back, fun _ => ?_⟩
      refine ⟨fun _ => law_27 hI hops hL hin hM back, fun _ => ?_⟩
      refine ⟨fun _ => law_28 hI hops hL hin hM back, fun _ => ?_⟩
      refine ⟨fun _ => law_29 hI hops hL hin hM back, fun _ => ?_⟩
      refine ⟨fun _ => law_30 hI hops hL hin hM back, fun _ => ?_⟩
      refine ⟨fun _ => law_31 hI hops hL hin hM back, fun _ => ?_⟩
      refine ⟨fun _ => law_32 hI hops hL hin hM back, fun _ => ?_⟩
      refine ⟨fun _ => law_33 hI hops hL hin hM back, fun _ => ?_⟩
      refine ⟨fun _ => law_34 hI hops hL hin hM back, fun _ => ?_⟩
      refine ⟨fun _ => law_35 hI hops hL hin hM back, fun _ => ?_⟩
      refine ⟨fun _ => law_36 hI hops hL hin hM back, fun _ => ?_⟩
      refine ⟨fun _ => law_37 hI hops hL hin hM back, fun _ => ?_⟩
      refine ⟨fun _ => law_38 hI hops hL hin hM back, fun _ => ?_⟩
      refine ⟨fun _ => law_39 hI hops hL hin hM back, fun _ => ?_⟩
      refine ⟨fun _ => law_40 hI hops hL hin hM back, fun _ => ?_⟩
      refine ⟨fun _ => law_41 hI hops hL hin hM back, fun _ => ?_⟩
      refine ⟨fun _ => law_42 hI hops hL hin hM back, fun _ => ?_⟩
      exact Go.mono (back M x5 x6 hM) (Nat.le_refl _) (by omega) (by omega) (fun _ _ q => q)

