/-! moves: the class's findMoves -/
theorem MG.of {M : Mem} {ad : Nat → Nat → Nat} {V : Nat → Nat → Int32} {nb nc w : Nat} {r : Nat → Nat → Option Nat} {f : Nat → Nat → Int32} (hi : Inj ad) (hF : Fx (mr M r) ad) (hC : Cs (mr M r) ad nc) (hB : Bs (mr M r) ad nb) (hnc : nc ≤ 7) (hl : (gsL (gsP V w) nb).length ≤ 7) (h : FM M ad V nb w nc nb r f) : MG (mr M r) ad f (gsL (gsP V w) nb) nc nb :=
  ⟨⟨hi, hF, hC, hB⟩, ⟨h.2.2.1.1, h.2.2.1.2, hnc, hl, gs_nodup _ _, fun b hb => List.mem_range.mp (List.mem_filter.mp hb).1⟩, fun c hc => (h.2.2.2.1 c hc).1, h.2.2.2.2⟩
/-- the words of the bookings and the cottages, class and model -/
theorem ok_cm {M : Mem} {ad : Nat → Nat → Nat} {nc nb wk c b : Nat} {op : Bool} {F : Nat → Nat → Int32} (iC : ICo (vw ad (mI M)) (vw ad (mJ M)) nc) (iB : IBk (vw ad (mI M)) nb nc wk op) (hc : c < nc) (hb : b < nb) (hF : ∀ t i k, t = 1 ∨ t = 2 → F (ad t i) k = mI M (ad t i) k) : ((1 ≤ F (ad 2 b) 2 ∧ F (ad 2 b) 2 ≤ F (ad 1 c) 0 ∧ (¬ F (ad 1 c) 1 = 0 ∨ F (ad 2 b) 3 = 0)) ↔ okQ (fun i k => mI M (ad 9 i) k) c b = true) ∧ (if 0 ≤ F (ad 1 c) 3 - F (ad 2 b) 5 then F (ad 1 c) 3 - F (ad 2 b) 5 else -(F (ad 1 c) 3 - F (ad 2 b) 5)) = dsP (fun i k => mI M (ad 9 i) k) c b := by
  obtain ⟨⟨p1, p2, p3, p4⟩, -⟩ := iC.1 c hc
  obtain ⟨⟨q0, q1, q2, q3, q4, q5, -⟩, ⟨-, q8, -⟩, -⟩ := iB.1 b hb
  simp only [vw] at p1 p2 p3 p4 q0 q1 q2 q3 q4 q5 q8
  rw [hF 2 b 2 (by omega), hF 1 c 0 (by omega), hF 1 c 1 (by omega), hF 2 b 3 (by omega), hF 1 c 3 (by omega), hF 2 b 5 (by omega), q2, p1, p2, q3, p4, q5]
  refine ⟨?_, rfl⟩
  obtain ⟨k, k1, k2, k3⟩ := q8
  have h1 : (1 : Int32) ≤ mI M (ad 9 8) b := by rw [k3]; exact (nI_les (a := 1) (b := k) (by decide) (by omega)).mpr k1
  unfold okQ
  simp only [Bool.and_eq_true, decide_eq_true_eq, Bool.or_eq_true, Bool.not_eq_true', beq_eq_false_iff_ne, beq_iff_eq, ne_eq]
  exact ⟨fun z => z.2, fun z => ⟨h1, z⟩⟩

set_option maxHeartbeats 4000000 in
set_option maxRecDepth 100000 in
theorem s_CY_findMoves {d : Nat} {M : Mem} {ad : Nat → Nat → Nat} {R : Option Value → Mem → Prop} {nc nb nt wk nw nx nl ne nk kd w : Nat} {op : Bool} (hd : 13 ≤ d) (hW : WI M ad nc nb nt wk nw nx nl ne nk kd op) (hw : w < 52) (hR : ∀ r F f, (∀ x k, ¬ x = ad 0 11 → ¬ x = ad 0 13 → r x k = mR M x k) → (∀ x k, ¬ x = ad 0 6 → ¬ x = ad 0 12 → F x k = mI M x k) → MG (mr M r) ad F (gsL (gsP (fun i k => mI M (ad 9 i) k) w) nb) nc nb → MC ad F f (gsL (gsP (fun i k => mI M (ad 9 i) k) w) nb) nc 0 (frP (fun i k => mI M (ad 9 i) k) nb w) (fun _ => -1) (mvS (okQ (fun i k => mI M (ad 9 i) k)) (dsP (fun i k => mI M (ad 9 i) k)) nc (gsL (gsP (fun i k => mI M (ad 9 i) k) w) nb) (frP (fun i k => mI M (ad 9 i) k) nb w) 0 0 (fun _ => -1) none) → R none (mm (mr M r) f (mJ M))) : Call d 170 [.ref (ad 0 0), .int (nI w)] (mm M (mI M) (mJ M)) R := by
  obtain ⟨hi, ⟨hF0, hM, hC0, hB0, hT, hX⟩, ⟨iS, iC, iB, iR, iL, iT⟩, ⟨jO, jR, jB, jX, jL⟩, kO, kC, kD, kP, kX⟩ := id hW
  obtain ⟨⟨nc1, nc2, nc3⟩, ⟨nb1, nb2, nb3⟩, ⟨nt1, nt2, nt3⟩, ⟨wk1, wk2, wk3⟩, ⟨nw1, nw2, nw3⟩, ⟨op1, op2, op3⟩, ncm, ncm1, ncm2, ncm3⟩ := id iS
  simp only [vw] at nc1 nc2 nb1 nb2 nt1 nt2 wk1 wk2 nw1 nw2 op1 op2 ncm2 ncm3
  have gfr : ∀ t i k, ¬ t = 0 → ∀ f : Nat → Nat → Int32, (∀ x k, ¬ x = ad 0 6 → ¬ x = ad 0 12 → f x k = mI M x k) → f (ad t i) k = mI M (ad t i) k := fun t i k z f hf => hf _ _ (fun y => z (hi _ _ _ _ y).1) (fun y => z (hi _ _ _ _ y).1)
  have g00 : ∀ k, ∀ f : Nat → Nat → Int32, (∀ x k, ¬ x = ad 0 6 → ¬ x = ad 0 12 → f x k = mI M x k) → f (ad 0 0) k = mI M (ad 0 0) k := fun k f hf => hf _ _ (fun y => absurd (hi _ _ _ _ y).2 (by decide)) (fun y => absurd (hi _ _ _ _ y).2 (by decide))
  have FxC : ∀ r : Nat → Nat → Option Nat, (∀ x k, ¬ x = ad 0 11 → ¬ x = ad 0 13 → r x k = mR M x k) → Fx (mr M r) ad ∧ Cs (mr M r) ad nc ∧ Bs (mr M r) ad nb := fun r hr =>
    ⟨fx_mr hF0 (fun i k z => hr _ _ (fun y => by have := (hi _ _ _ _ y).2; omega) (fun y => by have := (hi _ _ _ _ y).2; omega)), fun c hc => ⟨(hr _ _ (fun y => absurd (hi _ _ _ _ y).2 (by decide)) (fun y => absurd (hi _ _ _ _ y).2 (by decide))).trans (hC0 c hc).1, (hC0 c hc).2⟩, fun b hb => ⟨(hr _ _ (fun y => absurd (hi _ _ _ _ y).2 (by decide)) (fun y => absurd (hi _ _ _ _ y).2 (by decide))).trans (hB0 b hb).1, (hB0 b hb).2⟩⟩
  have hcot : ∀ b, b < nb → ∃ c, c < nc ∧ mI M (ad 9 6) b = nI c := fun b hb => (iB.1 b hb).2.1.1
  have h15 : ∀ b, b < nb → (mI M (ad 9 15) b = 0 ∨ mI M (ad 9 15) b = 1) := fun b hb => (iB.1 b hb).2.1.2.2.2.2.2.1
  have huni : ∀ a b, a < nb → b < nb → ¬ mI M (ad 9 15) a = 0 → ¬ mI M (ad 9 15) b = 0 → mI M (ad 9 6) a = mI M (ad 9 6) b → mI M (ad 9 7) a = mI M (ad 9 7) b → a = b := fun a b ha hb z1 z2 => iB.2 a b ha hb ((h15 a ha).resolve_left z1) ((h15 b hb).resolve_left z2)
  have hgl : ∀ n, n ≤ nb → (gsL (gsP (fun i k => mI M (ad 9 i) k) w) n).length ≤ 7 := gs_len (V := (fun i k => mI M (ad 9 i) k)) hcot huni nc3
  -- the end: the search
  have fin : ∀ (u : Value) r f, FM M ad (fun i k => mI M (ad 9 i) k) nb w nc nb r f → Go d 170 0 0 125 [.ref (ad 0 0), .int (nI w), .int (nI nb), u] [] (mm (mr M r) f (mJ M)) R := by
    intro u r f h
    obtain ⟨hF, hC, hB⟩ := FxC r h.1
    have hG := MG.of hi hF hC hB nc3 (hgl nb (Nat.le_refl _)) h
    show Go d 170 0 0 125 [.ref (ad 0 0), .int (nI w), .int (nI nb), u] [] (mm (mr M r) f (mJ M)) R
    refine go_blk 2 [some (.ref (ad 0 6))] (pc' := 129) (vs' := [.ref (ad 0 0), .int (nI w), .int (nI nb), u]) (st' := [.ref (ad 0 6)]) (M' := mm (mr M r) f (mJ M)) (ps := [ob (mm (mr M r) f (mJ M)) (ad 0 0) 11, mR (mm (mr M r) f (mJ M)) (ad 0 0) 13 = some (ad 0 6), va_rf (some (ad 0 6)) = .ref (ad 0 6)]) rfl ⟨(hF.o 0), (hF.r 0 13 6), rfl, trivial⟩ ?_
    refine go_callV rfl rfl rfl (by omega) rfl (by decide) (by decide) (hF.o 6) ?_
    show Go (d - 1) 40 0 0 0 [.ref (ad 0 6)] [] (mm (mr M r) f (mJ M)) _
    refine go_blk 6 [] (pc' := 10) (vs' := [.ref (ad 0 6)]) (st' := []) (M' := mm (mr M r) (up2 (up2 f (ad 0 6) 7 (-1)) (ad 0 6) 8 0) (mJ M)) (ps := [ob (mm (mr M r) f (mJ M)) (ad 0 6) 5, ob (mm (mr M r) (up2 f (ad 0 6) 7 (-1)) (mJ M)) (ad 0 6) 5]) rfl ⟨hF.o 6, hF.o 6, trivial⟩ ?_
    refine go_blk 4 [] (pc' := 14) (vs' := [.ref (ad 0 6)]) (st' := [.int 0, .int 0, .int 0, .ref (ad 0 6)]) (M' := mm (mr M r) (up2 (up2 f (ad 0 6) 7 (-1)) (ad 0 6) 8 0) (mJ M)) (ps := []) rfl trivial ?_
    refine go_callV rfl rfl rfl (by omega) rfl (by decide) (by decide) (hF.o 6) ?_
    have n612 : ∀ i j, ¬ i = j → ¬ ad 0 i = ad 0 j := fun i j z y => z (hi _ _ _ _ y).2
    have hmc : MC ad f (up2 (up2 f (ad 0 6) 7 (-1)) (ad 0 6) 8 0) (gsL (gsP (fun i k => mI M (ad 9 i) k) w) nb) nc 0 (frP (fun i k => mI M (ad 9 i) k) nb w) (fun _ => -1) none := by
      refine ⟨fun x k z1 z2 z3 z4 => ?_, fun c hc => ?_, fun k hk => absurd hk (by omega), ?_, up2_s _ _ _ _, fun r hr => by cases hr⟩
      · rw [up2_n _ _ (fun z => z1 ⟨z.1, Or.inr z.2⟩), up2_n _ _ (fun z => z1 ⟨z.1, Or.inl z.2⟩)]
      · rw [up2_n _ _ (fun z => n612 12 6 (by decide) z.1), up2_n _ _ (fun z => n612 12 6 (by decide) z.1)]
        exact (h.2.2.2.1 c hc).2
      · rw [up2_n _ _ (fun z => absurd z.2 (by decide)), up2_s]; rfl
    have hbm : ∀ b, b ∈ gsL (gsP (fun i k => mI M (ad 9 i) k) w) nb → b < nb := fun b hb => List.mem_range.mp (List.mem_filter.mp hb).1
    have hoks := fun c b (hc : c < nc) (hb : b ∈ gsL (gsP (fun i k => mI M (ad 9 i) k) w) nb) => ok_cm iC iB hc (hbm b hb) (F := f) (fun t i k z => gfr t i k (by omega) f h.2.1)
    have hl7 := hgl nb (Nat.le_refl _)
    refine s_Mv_place (ok := okQ (fun i k => mI M (ad 9 i) k)) (ds := dsP (fun i k => mI M (ad 9 i) k)) hG (fun c b hc hb => (hoks c b hc hb).1) (fun c b hc hb => (hoks c b hc hb).2) (gsL (gsP (fun i k => mI M (ad 9 i) k) w) nb) [] rfl (d - 1 - 1) _ (frP (fun i k => mI M (ad 9 i) k) nb w) 0 0 (fun _ => -1) none _ (by omega) (by omega) (fun r hr => by cases hr) hmc (fun f' hf' => ⟨ne_v, ?_⟩)
    show Go (d - 1) 40 0 0 17 [.ref (ad 0 6)] [] (mm (mr M r) f' (mJ M)) _
    refine go_vret rfl rfl ⟨ne_v, ?_⟩
    show Go d 170 0 0 132 [.ref (ad 0 0), .int (nI w), .int (nI nb), u] [] (mm (mr M r) f' (mJ M)) R
    refine go_vret rfl rfl ?_
    exact hR r f f' h.1 h.2.1 hG hf'
  have lp2 : ∀ n, n ≤ nb → ∀ (u : Value) r f, FM M ad (fun i k => mI M (ad 9 i) k) nb w nc n r f → Go d 170 0 0 65 [.ref (ad 0 0), .int (nI w), .int (nI n), u] [] (mm (mr M r) f (mJ M)) R := by
    refine up_ind (P := fun n => ∀ (u : Value) r f, FM M ad (fun i k => mI M (ad 9 i) k) nb w nc n r f → Go d 170 0 0 65 [.ref (ad 0 0), .int (nI w), .int (nI n), u] [] (mm (mr M r) f (mJ M)) R) nb (fun u r f h => ?_) (fun n hn ih u r f h => ?_)
    ·
      obtain ⟨hF, hC, hB⟩ := FxC r h.1
      show Go d 170 0 0 65 [.ref (ad 0 0), .int (nI w), .int (nI nb), u] [] (mm (mr M r) f (mJ M)) R
      refine go_blk 3 [some (.int (nI nb))] (pc' := 70) (vs' := [.ref (ad 0 0), .int (nI w), .int (nI nb), u]) (st' := [.int (nI nb), .int (nI nb)]) (M' := mm (mr M r) f (mJ M)) (ps := [ob (mm (mr M r) f (mJ M)) (ad 0 0) 11, (Value.int (f (ad 0 0) 3)) = .int (nI nb)]) rfl ⟨(hF.o 0), congrArg Value.int ((g00 3 f h.2.1).trans nb1), trivial⟩ ?_
      refine go_icmp rfl (fun _ => ?_) (fun (z : ¬ (nI nb ≤ (nI nb))) => absurd (show nI nb ≤ (nI nb) from Int32.le_refl _) z)
      exact fin u r f h
    · obtain ⟨hF, hC, hB⟩ := FxC r h.1
      obtain ⟨c, hc, hcn⟩ := hcot n hn
      obtain ⟨⟨q0, q1, q2, q3, q4, q5, q6, -⟩, -⟩ := iB.1 n hn
      simp only [vw] at q0 q1 q6
      have b0 : f (ad 2 n) 0 = nI c := ((gfr 2 n 0 (by decide) f h.2.1).trans q0).trans hcn
      have b1 : f (ad 2 n) 1 = mI M (ad 9 7) n := (gfr 2 n 1 (by decide) f h.2.1).trans q1
      have b6 : f (ad 2 n) 6 = mI M (ad 9 15) n := (gfr 2 n 6 (by decide) f h.2.1).trans q6
      have hgp := gsP_of (V := (fun i k => mI M (ad 9 i) k)) (w := w) (b := n)
      simp only [hcn, nI_clamp (show c < 2 ^ 31 by omega)] at hgp
      have hl7 := hgl n (by omega)
      have hl8 := hgl (n + 1) (by omega)
      show Go d 170 0 0 65 [.ref (ad 0 0), .int (nI w), .int (nI n), u] [] (mm (mr M r) f (mJ M)) R
      refine go_blk 3 [some (.int (nI nb))] (pc' := 70) (vs' := [.ref (ad 0 0), .int (nI w), .int (nI n), u]) (st' := [.int (nI nb), .int (nI n)]) (M' := mm (mr M r) f (mJ M)) (ps := [ob (mm (mr M r) f (mJ M)) (ad 0 0) 11, (Value.int (f (ad 0 0) 3)) = .int (nI nb)]) rfl ⟨(hF.o 0), congrArg Value.int ((g00 3 f h.2.1).trans nb1), trivial⟩ ?_
      refine go_icmp rfl (fun (z : nI nb ≤ (nI n)) => absurd z (show ¬ (nI nb ≤ (nI n)) from (Int32.not_le.mpr ((nI_lts (a := n) (b := nb) (by omega) (by omega)).mpr hn)))) (fun _ => ?_)
      refine go_blk 7 [some (.ref (ad 0 2)), some (.ref (ad 2 n)), some (.int (mI M (ad 9 15) n))] (pc' := 84) (vs' := [.ref (ad 0 0), .int (nI w), .int (nI n), .ref (ad 2 n)]) (st' := [.int (mI M (ad 9 15) n)]) (M' := mm (mr M r) f (mJ M)) (ps := [ob (mm (mr M r) f (mJ M)) (ad 0 0) 11, mR (mm (mr M r) f (mJ M)) (ad 0 0) 2 = some (ad 0 2), va_rf (some (ad 0 2)) = .ref (ad 0 2), ob (mm (mr M r) f (mJ M)) (ad 0 2) 17, 17 ≤ 17 ∧ 17 < 22, vp_in (nI n) (mN (mm (mr M r) f (mJ M)) (ad 0 2)), mR (mm (mr M r) f (mJ M)) (ad 0 2) ((nI n).toNatClampNeg) = some (ad 2 n), va_rf (some (ad 2 n)) = .ref (ad 2 n), ob (mm (mr M r) f (mJ M)) (ad 2 n) 0, (Value.int (f (ad 2 n) 6)) = .int (mI M (ad 9 15) n)]) rfl ⟨(hF.o 0), (hF.r 0 2 2), rfl, (hF.o 2), (by decide), (vpi (hF.n 2) (show _ < 60 by omega)), (cl_rf rfl (by omega) (hB n (by assumption)).1), rfl, (hB n (by assumption)).2, congrArg Value.int b6, trivial⟩ ?_
      refine go_if rfl (fun (c1 : (mI M (ad 9 15) n) = 0) => ?_) (fun (c1 : ¬ ((mI M (ad 9 15) n) = 0)) => ?_)
      · -- (mI M (ad 9 15) n) = 0
        refine go_blk 2 [] (pc' := 65) (vs' := [.ref (ad 0 0), .int (nI w), .int ((nI n) + 1), .ref (ad 2 n)]) (st' := []) (M' := mm (mr M r) f (mJ M)) (ps := []) rfl trivial ?_
        rw [show nI n + 1 = nI (n + 1) from nI_add n 1]
        exact ih _ r f (FM.skip h (fun z => by have := hgp.mp z; grind))
      · -- ¬ ((mI M (ad 9 15) n) = 0)
        refine go_blk 3 [some (.int (mI M (ad 9 7) n))] (pc' := 92) (vs' := [.ref (ad 0 0), .int (nI w), .int (nI n), .ref (ad 2 n)]) (st' := [.int (nI w), .int (mI M (ad 9 7) n)]) (M' := mm (mr M r) f (mJ M)) (ps := [ob (mm (mr M r) f (mJ M)) (ad 2 n) 0, (Value.int (f (ad 2 n) 1)) = .int (mI M (ad 9 7) n)]) rfl ⟨(hB n (by assumption)).2, congrArg Value.int b1, trivial⟩ ?_
        refine go_icmp rfl (fun (c2 : ¬ (mI M (ad 9 7) n) = nI w) => ?_) (fun (c2 : ¬ (¬ (mI M (ad 9 7) n) = nI w)) => ?_)
        · -- ¬ (mI M (ad 9 7) n) = nI w
          refine go_blk 2 [] (pc' := 65) (vs' := [.ref (ad 0 0), .int (nI w), .int ((nI n) + 1), .ref (ad 2 n)]) (st' := []) (M' := mm (mr M r) f (mJ M)) (ps := []) rfl trivial ?_
          rw [show nI n + 1 = nI (n + 1) from nI_add n 1]
          exact ih _ r f (FM.skip h (fun z => by have := hgp.mp z; grind))
        · -- ¬ (¬ (mI M (ad 9 7) n) = nI w)
          refine go_blk 6 [some (.ref (ad 0 1)), some (.int (nI c)), some (.ref (ad 1 c))] (pc' := 105) (vs' := [.ref (ad 0 0), .int (nI w), .int (nI n), .ref (ad 2 n)]) (st' := [.int (nI w), .ref (ad 1 c)]) (M' := mm (mr M r) f (mJ M)) (ps := [ob (mm (mr M r) f (mJ M)) (ad 0 0) 11, mR (mm (mr M r) f (mJ M)) (ad 0 0) 0 = some (ad 0 1), va_rf (some (ad 0 1)) = .ref (ad 0 1), ob (mm (mr M r) f (mJ M)) (ad 2 n) 0, (Value.int (f (ad 2 n) 0)) = .int (nI c), ob (mm (mr M r) f (mJ M)) (ad 0 1) 18, 17 ≤ 18 ∧ 18 < 22, vp_in (nI c) (mN (mm (mr M r) f (mJ M)) (ad 0 1)), mR (mm (mr M r) f (mJ M)) (ad 0 1) ((nI c).toNatClampNeg) = some (ad 1 c), va_rf (some (ad 1 c)) = .ref (ad 1 c)]) rfl ⟨(hF.o 0), (hF.r 0 0 1), rfl, (hB n (by assumption)).2, congrArg Value.int b0, (hF.o 1), (by decide), (vpi (hF.n 1) (show _ < 7 by omega)), (cl_rf rfl (by omega) (hC c (by assumption)).1), rfl, trivial⟩ ?_
          refine go_callV rfl rfl rfl (by omega) rfl (by decide) (by decide) (hC c (by assumption)).2 ?_
          refine s_Co_isShut (by omega) hC (by assumption) hw ((iC.1 c (by assumption)).2.2.2.2.2 w hw) ⟨ne_i, ?_⟩
          show Go d 170 0 0 108 [.ref (ad 0 0), .int (nI w), .int (nI n), .ref (ad 2 n)] [.int (mI M (ad 9 5) (7 * w + c))] (mm (mr M r) f (mJ M)) R
          refine go_if rfl (fun (c3 : (mI M (ad 9 5) (7 * w + c)) = 0) => ?_) (fun (c3 : ¬ ((mI M (ad 9 5) (7 * w + c)) = 0)) => ?_)
          · -- (mI M (ad 9 5) (7 * w + c)) = 0
            refine go_blk 2 [] (pc' := 65) (vs' := [.ref (ad 0 0), .int (nI w), .int ((nI n) + 1), .ref (ad 2 n)]) (st' := []) (M' := mm (mr M r) f (mJ M)) (ps := []) rfl trivial ?_
            rw [show nI n + 1 = nI (n + 1) from nI_add n 1]
            exact ih _ r f (FM.skip h (fun z => by have := hgp.mp z; grind))
          · -- ¬ ((mI M (ad 9 5) (7 * w + c)) = 0)
            refine go_blk 3 [some (.ref (ad 0 6))] (pc' := 116) (vs' := [.ref (ad 0 0), .int (nI w), .int (nI n), .ref (ad 2 n)]) (st' := [.ref (ad 2 n), .ref (ad 0 6)]) (M' := mm (mr M r) f (mJ M)) (ps := [ob (mm (mr M r) f (mJ M)) (ad 0 0) 11, mR (mm (mr M r) f (mJ M)) (ad 0 0) 13 = some (ad 0 6), va_rf (some (ad 0 6)) = .ref (ad 0 6)]) rfl ⟨(hF.o 0), (hF.r 0 13 6), rfl, trivial⟩ ?_
            have hp : gsP (fun i k => mI M (ad 9 i) k) w n = true := hgp.mpr ⟨(by first | assumption | exact Classical.not_not.mp (by assumption)), (by first | assumption | exact Classical.not_not.mp (by assumption)), (by first | assumption | exact Classical.not_not.mp (by assumption))⟩
            have hl9 : (gsL (gsP (fun i k => mI M (ad 9 i) k) w) n).length < 7 := by rw [gs_succ, if_pos hp, List.length_append] at hl8; simp at hl8; omega
            have hstep := FM.addB hi h hp
            refine go_callV rfl rfl rfl (by omega) rfl (by decide) (by decide) (hF.o 6) ?_
            refine s_Mv_addB hi hF hl9 h.2.2.1.2 (hB0 n hn).2 ⟨ne_v, ?_⟩
            generalize hr2 : up2 r (ad 0 13) _ _ = r2 at hstep ⊢
            generalize hf2 : up2 f (ad 0 6) 4 _ = f2 at hstep ⊢
            show Go d 170 0 0 119 [.ref (ad 0 0), .int (nI w), .int (nI n), .ref (ad 2 n)] [] (mm (mr M r2) f2 (mJ M)) R
            refine go_blk 2 [] (pc' := 65) (vs' := [.ref (ad 0 0), .int (nI w), .int ((nI n) + 1), .ref (ad 2 n)]) (st' := []) (M' := mm (mr M r2) f2 (mJ M)) (ps := []) rfl trivial ?_
            rw [show nI n + 1 = nI (n + 1) from nI_add n 1]
            exact ih _ r2 f2 hstep
  have lp1 : ∀ c, c ≤ nc → ∀ r f, FM M ad (fun i k => mI M (ad 9 i) k) nb w c 0 r f → Go d 170 0 0 9 [.ref (ad 0 0), .int (nI w), .int (nI c), .retAddr 0] [] (mm (mr M r) f (mJ M)) R := by
    refine up_ind (P := fun c => ∀ r f, FM M ad (fun i k => mI M (ad 9 i) k) nb w c 0 r f → Go d 170 0 0 9 [.ref (ad 0 0), .int (nI w), .int (nI c), .retAddr 0] [] (mm (mr M r) f (mJ M)) R) nc (fun r f h => ?_) (fun c hc ih r f h => ?_)
    ·
      obtain ⟨hF, hC, hB⟩ := FxC r h.1
      show Go d 170 0 0 9 [.ref (ad 0 0), .int (nI w), .int (nI nc), .retAddr 0] [] (mm (mr M r) f (mJ M)) R
      refine go_blk 3 [some (.int (nI nc))] (pc' := 14) (vs' := [.ref (ad 0 0), .int (nI w), .int (nI nc), .retAddr 0]) (st' := [.int (nI nc), .int (nI nc)]) (M' := mm (mr M r) f (mJ M)) (ps := [ob (mm (mr M r) f (mJ M)) (ad 0 0) 11, (Value.int (f (ad 0 0) 1)) = .int (nI nc)]) rfl ⟨(hF.o 0), congrArg Value.int ((g00 1 f h.2.1).trans nc1), trivial⟩ ?_
      refine go_icmp rfl (fun _ => ?_) (fun (z : ¬ (nI nc ≤ (nI nc))) => absurd (show nI nc ≤ (nI nc) from Int32.le_refl _) z)
      refine go_blk 2 [] (pc' := 65) (vs' := [.ref (ad 0 0), .int (nI w), .int 0, .retAddr 0]) (st' := []) (M' := mm (mr M r) f (mJ M)) (ps := []) rfl trivial ?_
      exact lp2 0 (Nat.zero_le _) _ r f h
    · obtain ⟨hF, hC, hB⟩ := FxC r h.1
      have hfp := frP_of (V := (fun i k => mI M (ad 9 i) k)) (nb := nb) (w := w) (c := c)
      have bk : ∀ b, b < nb → f (ad 2 b) 6 = mI M (ad 9 15) b ∧ f (ad 2 b) 0 = mI M (ad 9 6) b ∧ f (ad 2 b) 1 = mI M (ad 9 7) b := fun b hb => by
        obtain ⟨⟨q0, q1, q2, q3, q4, q5, q6, -⟩, -⟩ := iB.1 b hb
        simp only [vw] at q0 q1 q6
        exact ⟨(gfr 2 b 6 (by decide) f h.2.1).trans q6, (gfr 2 b 0 (by decide) f h.2.1).trans q0, (gfr 2 b 1 (by decide) f h.2.1).trans q1⟩
      show Go d 170 0 0 9 [.ref (ad 0 0), .int (nI w), .int (nI c), .retAddr 0] [] (mm (mr M r) f (mJ M)) R
      refine go_blk 3 [some (.int (nI nc))] (pc' := 14) (vs' := [.ref (ad 0 0), .int (nI w), .int (nI c), .retAddr 0]) (st' := [.int (nI nc), .int (nI c)]) (M' := mm (mr M r) f (mJ M)) (ps := [ob (mm (mr M r) f (mJ M)) (ad 0 0) 11, (Value.int (f (ad 0 0) 1)) = .int (nI nc)]) rfl ⟨(hF.o 0), congrArg Value.int ((g00 1 f h.2.1).trans nc1), trivial⟩ ?_
      refine go_icmp rfl (fun (z : nI nc ≤ (nI c)) => absurd z (show ¬ (nI nc ≤ (nI c)) from (Int32.not_le.mpr ((nI_lts (a := c) (b := nc) (by omega) (by omega)).mpr hc)))) (fun _ => ?_)
      refine go_blk 11 [some (.ref (ad 0 6)), some (.ref (ad 0 1)), some (.ref (ad 1 c)), some (.ref (ad 0 1)), some (.ref (ad 1 c))] (pc' := 34) (vs' := [.ref (ad 0 0), .int (nI w), .int (nI c), .retAddr 0]) (st' := [.int (nI w), .ref (ad 1 c), .ref (ad 1 c), .ref (ad 0 6)]) (M' := mm (mr M r) f (mJ M)) (ps := [ob (mm (mr M r) f (mJ M)) (ad 0 0) 11, mR (mm (mr M r) f (mJ M)) (ad 0 0) 13 = some (ad 0 6), va_rf (some (ad 0 6)) = .ref (ad 0 6), ob (mm (mr M r) f (mJ M)) (ad 0 0) 11, mR (mm (mr M r) f (mJ M)) (ad 0 0) 0 = some (ad 0 1), va_rf (some (ad 0 1)) = .ref (ad 0 1), ob (mm (mr M r) f (mJ M)) (ad 0 1) 18, 17 ≤ 18 ∧ 18 < 22, vp_in (nI c) (mN (mm (mr M r) f (mJ M)) (ad 0 1)), mR (mm (mr M r) f (mJ M)) (ad 0 1) ((nI c).toNatClampNeg) = some (ad 1 c), va_rf (some (ad 1 c)) = .ref (ad 1 c), ob (mm (mr M r) f (mJ M)) (ad 0 0) 11, mR (mm (mr M r) f (mJ M)) (ad 0 0) 0 = some (ad 0 1), va_rf (some (ad 0 1)) = .ref (ad 0 1), ob (mm (mr M r) f (mJ M)) (ad 0 1) 18, 17 ≤ 18 ∧ 18 < 22, vp_in (nI c) (mN (mm (mr M r) f (mJ M)) (ad 0 1)), mR (mm (mr M r) f (mJ M)) (ad 0 1) ((nI c).toNatClampNeg) = some (ad 1 c), va_rf (some (ad 1 c)) = .ref (ad 1 c)]) rfl ⟨(hF.o 0), (hF.r 0 13 6), rfl, (hF.o 0), (hF.r 0 0 1), rfl, (hF.o 1), (by decide), (vpi (hF.n 1) (show _ < 7 by omega)), (cl_rf rfl (by omega) (hC c (by assumption)).1), rfl, (hF.o 0), (hF.r 0 0 1), rfl, (hF.o 1), (by decide), (vpi (hF.n 1) (show _ < 7 by omega)), (cl_rf rfl (by omega) (hC c (by assumption)).1), rfl, trivial⟩ ?_
      refine go_callV rfl rfl rfl (by omega) rfl (by decide) (by decide) (hC c (by assumption)).2 ?_
      refine s_Co_isShut (by omega) hC (by assumption) hw ((iC.1 c (by assumption)).2.2.2.2.2 w hw) ⟨ne_i, ?_⟩
      show Go d 170 0 0 37 [.ref (ad 0 0), .int (nI w), .int (nI c), .retAddr 0] [.int (mI M (ad 9 5) (7 * w + c)), .ref (ad 1 c), .ref (ad 0 6)] (mm (mr M r) f (mJ M)) R
      refine go_if rfl (fun (c1 : ¬ (mI M (ad 9 5) (7 * w + c)) = 0) => ?_) (fun (c1 : ¬ (¬ (mI M (ad 9 5) (7 * w + c)) = 0)) => ?_)
      · -- ¬ (mI M (ad 9 5) (7 * w + c)) = 0
        refine go_blk 1 [] (pc' := 54) (vs' := [.ref (ad 0 0), .int (nI w), .int (nI c), .retAddr 0]) (st' := [.int 0, .ref (ad 1 c), .ref (ad 0 6)]) (M' := mm (mr M r) f (mJ M)) (ps := []) rfl trivial ?_
        have hy : (0 : Int32) = if frP (fun i k => mI M (ad 9 i) k) nb w c = true then 1 else 0 := by rw [if_neg (fun z => by first | exact absurd z (by assumption) | exact absurd (hfp.mp z).1 (by assumption))]
        have hstep := FM.addC hi h hy
        refine go_callV rfl rfl rfl (by omega) rfl (by decide) (by decide) (hF.o 6) ?_
        refine s_Mv_addC0 hi hF (by omega) h.2.2.1.1 (hC0 c hc).2 ⟨ne_v, ?_⟩
        generalize hr2 : up2 r (ad 0 11) _ _ = r2 at hstep ⊢
        generalize hf2 : up2 (up2 f (ad 0 12) _ _) (ad 0 6) 2 _ = f2 at hstep ⊢
        show Go d 170 0 0 57 [.ref (ad 0 0), .int (nI w), .int (nI c), .retAddr 0] [] (mm (mr M r2) f2 (mJ M)) R
        refine go_blk 2 [] (pc' := 9) (vs' := [.ref (ad 0 0), .int (nI w), .int ((nI c) + 1), .retAddr 0]) (st' := []) (M' := mm (mr M r2) f2 (mJ M)) (ps := []) rfl trivial ?_
        rw [show nI c + 1 = nI (c + 1) from nI_add c 1]
        exact ih r2 f2 hstep
      · -- ¬ (¬ (mI M (ad 9 5) (7 * w + c)) = 0)
        refine go_blk 3 [] (pc' := 43) (vs' := [.ref (ad 0 0), .int (nI w), .int (nI c), .retAddr 0]) (st' := [.int (nI w), .int (nI c), .ref (ad 0 0), .ref (ad 1 c), .ref (ad 0 6)]) (M' := mm (mr M r) f (mJ M)) (ps := []) rfl trivial ?_
        refine go_callV rfl rfl rfl (by omega) rfl (by decide) (by decide) (hF.o 0) ?_
        refine s_CY_isLet (by omega) hF hB ((g00 3 f h.2.1).trans nb1) nb3 (fun i2 hi2 hx2 hy2 => ⟨ne_i, ?_⟩) (fun hx2 => ⟨ne_i, ?_⟩)
        · -- ('i', '1')
          have hfn : ¬ frP (fun i k => mI M (ad 9 i) k) nb w c = true := fun z => (hfp.mp z).2 i2 hi2 (by rw [(bk i2 hi2).1, (bk i2 hi2).2.1, (bk i2 hi2).2.2] at hx2; exact hx2)
          show Go d 170 0 0 46 [.ref (ad 0 0), .int (nI w), .int (nI c), .retAddr 0] [.int 1, .ref (ad 1 c), .ref (ad 0 6)] (mm (mr M r) f (mJ M)) R
          refine go_if rfl (fun _ => ?_) (fun (z : ¬ (¬ (1 : Int32) = 0)) => absurd (show ¬ (1 : Int32) = 0 from (by decide)) z)
          refine go_blk 1 [] (pc' := 54) (vs' := [.ref (ad 0 0), .int (nI w), .int (nI c), .retAddr 0]) (st' := [.int 0, .ref (ad 1 c), .ref (ad 0 6)]) (M' := mm (mr M r) f (mJ M)) (ps := []) rfl trivial ?_
          have hy : (0 : Int32) = if frP (fun i k => mI M (ad 9 i) k) nb w c = true then 1 else 0 := by rw [if_neg (fun z => by first | exact absurd z (by assumption) | exact absurd (hfp.mp z).1 (by assumption))]
          have hstep := FM.addC hi h hy
          refine go_callV rfl rfl rfl (by omega) rfl (by decide) (by decide) (hF.o 6) ?_
          refine s_Mv_addC0 hi hF (by omega) h.2.2.1.1 (hC0 c hc).2 ⟨ne_v, ?_⟩
          generalize hr2 : up2 r (ad 0 11) _ _ = r2 at hstep ⊢
          generalize hf2 : up2 (up2 f (ad 0 12) _ _) (ad 0 6) 2 _ = f2 at hstep ⊢
          show Go d 170 0 0 57 [.ref (ad 0 0), .int (nI w), .int (nI c), .retAddr 0] [] (mm (mr M r2) f2 (mJ M)) R
          refine go_blk 2 [] (pc' := 9) (vs' := [.ref (ad 0 0), .int (nI w), .int ((nI c) + 1), .retAddr 0]) (st' := []) (M' := mm (mr M r2) f2 (mJ M)) (ps := []) rfl trivial ?_
          rw [show nI c + 1 = nI (c + 1) from nI_add c 1]
          exact ih r2 f2 hstep
        · -- ('i', '0')
          have hfn : frP (fun i k => mI M (ad 9 i) k) nb w c = true := hfp.mpr ⟨(by first | assumption | exact Classical.not_not.mp (by assumption)), fun b hb z => hx2 b hb (by rw [(bk b hb).1, (bk b hb).2.1, (bk b hb).2.2]; exact z)⟩
          show Go d 170 0 0 46 [.ref (ad 0 0), .int (nI w), .int (nI c), .retAddr 0] [.int 0, .ref (ad 1 c), .ref (ad 0 6)] (mm (mr M r) f (mJ M)) R
          refine go_if rfl (fun (z : ¬ (0 : Int32) = 0) => absurd z (show ¬ (¬ (0 : Int32) = 0) from (by decide))) (fun _ => ?_)
          refine go_blk 2 [] (pc' := 54) (vs' := [.ref (ad 0 0), .int (nI w), .int (nI c), .retAddr 0]) (st' := [.int 1, .ref (ad 1 c), .ref (ad 0 6)]) (M' := mm (mr M r) f (mJ M)) (ps := []) rfl trivial ?_
          have hy : (1 : Int32) = if frP (fun i k => mI M (ad 9 i) k) nb w c = true then 1 else 0 := by rw [if_pos (by assumption)]
          have hstep := FM.addC hi h hy
          refine go_callV rfl rfl rfl (by omega) rfl (by decide) (by decide) (hF.o 6) ?_
          refine s_Mv_addC1 hi hF (by omega) h.2.2.1.1 (hC0 c hc).2 ⟨ne_v, ?_⟩
          generalize hr2 : up2 r (ad 0 11) _ _ = r2 at hstep ⊢
          generalize hf2 : up2 (up2 f (ad 0 12) _ _) (ad 0 6) 2 _ = f2 at hstep ⊢
          show Go d 170 0 0 57 [.ref (ad 0 0), .int (nI w), .int (nI c), .retAddr 0] [] (mm (mr M r2) f2 (mJ M)) R
          refine go_blk 2 [] (pc' := 9) (vs' := [.ref (ad 0 0), .int (nI w), .int ((nI c) + 1), .retAddr 0]) (st' := []) (M' := mm (mr M r2) f2 (mJ M)) (ps := []) rfl trivial ?_
          rw [show nI c + 1 = nI (c + 1) from nI_add c 1]
          exact ih r2 f2 hstep
  have hF := hF0
  show Go d 170 0 0 0 [.ref (ad 0 0), .int (nI w), .retAddr 0, .retAddr 0] [] (mm (mr M (mR M)) (mI M) (mJ M)) R
  show Go d 170 0 0 0 [.ref (ad 0 0), .int (nI w), .retAddr 0, .retAddr 0] [] (mm (mr M (mR M)) (mI M) (mJ M)) R
  refine go_blk 2 [some (.ref (ad 0 6))] (pc' := 4) (vs' := [.ref (ad 0 0), .int (nI w), .retAddr 0, .retAddr 0]) (st' := [.ref (ad 0 6)]) (M' := mm (mr M (mR M)) (mI M) (mJ M)) (ps := [ob (mm (mr M (mR M)) (mI M) (mJ M)) (ad 0 0) 11, mR (mm (mr M (mR M)) (mI M) (mJ M)) (ad 0 0) 13 = some (ad 0 6), va_rf (some (ad 0 6)) = .ref (ad 0 6)]) rfl ⟨(hF.o 0), (hF.r 0 13 6), rfl, trivial⟩ ?_
  refine go_callV rfl rfl rfl (by omega) rfl (by decide) (by decide) (hF.o 6) ?_
  show Go (d - 1) 37 0 0 0 [.ref (ad 0 6)] [] (mm (mr M (mR M)) (mI M) (mJ M)) _
  refine go_blk 6 [] (pc' := 10) (vs' := [.ref (ad 0 6)]) (st' := []) (M' := mm (mr M (mR M)) (up2 (up2 (mI M) (ad 0 6) 2 0) (ad 0 6) 4 0) (mJ M)) (ps := [ob (mm (mr M (mR M)) (mI M) (mJ M)) (ad 0 6) 5, ob (mm (mr M (mR M)) (up2 (mI M) (ad 0 6) 2 0) (mJ M)) (ad 0 6) 5]) rfl ⟨(hF.o 6), (hF.o 6), trivial⟩ ?_
  refine go_vret rfl rfl ?_
  refine ⟨ne_v, ?_⟩
  show Go d 170 0 0 7 [.ref (ad 0 0), .int (nI w), .retAddr 0, .retAddr 0] [] (mm (mr M (mR M)) (up2 (up2 (mI M) (ad 0 6) 2 0) (ad 0 6) 4 0) (mJ M)) R
  refine go_blk 2 [] (pc' := 9) (vs' := [.ref (ad 0 0), .int (nI w), .int 0, .retAddr 0]) (st' := []) (M' := mm (mr M (mR M)) (up2 (up2 (mI M) (ad 0 6) 2 0) (ad 0 6) 4 0) (mJ M)) (ps := []) rfl trivial ?_
  exact lp1 0 (Nat.zero_le _) (mR M) _ ⟨fun _ _ _ _ => rfl, fun x k z1 z2 => (up2_n _ _ (fun z => z1 z.1)).trans (up2_n _ _ (fun z => z1 z.1)), ⟨(up2_n _ _ (fun z => absurd z.2 (by decide))).trans (up2_s _ _ _ _), up2_s _ _ _ _⟩, fun j hj => absurd hj (by omega), fun k hk => absurd hk (by simp [gsL])⟩

