/-! closeDay: lines are entered; a job's pay -/
def lsm (x : Int32) (c : Nat → Int32) : Nat → Int32
  | 0 => x
  | n + 1 => lsm x c n + c n
def lnC (M : Mem) (ad : Nat → Nat → Nat) (wk nx : Nat) (bj : Nat → Nat) (dl : List Nat) (k : Nat) : Int32 := pyJ M ad wk nx bj (dl.getD k 0) - mI M (ad 9 41) (dl.getD k 0)
/-- i drafts of dl have been entered -/
def EN (M : Mem) (ad : Nat → Nat → Nat) (wk nx nl : Nat) (bj : Nat → Nat) (dl : List Nat) (f f' : Nat → Nat → Int32) (i : Nat) : Prop :=
  (∀ t x k, ¬ (t = 0 ∧ x = 10 ∧ (k = 6 ∨ k = 7 ∨ k = 8)) → ¬ (t = 6 ∧ k = 11 ∧ ∃ j, j ∈ dl ∧ x = bj j) → f' (ad t x) k = f (ad t x) k) ∧ (f' (ad 0 10) 6 = nI (nl + i) ∧ f' (ad 0 10) 7 = lsm (mI M (ad 0 10) 7) (lnC M ad wk nx bj dl) i) ∧
  ∀ k, k < dl.length → f' (ad 6 (bj (dl.getD k 0))) 11 = if k < i then pyJ M ad wk nx bj (dl.getD k 0) else mI M (ad 9 41) (dl.getD k 0)
theorem i32_subadd (x y : Int32) : x + (y - x) = y := by
  apply Int32.toBitVec_inj.mp
  simp only [Int32.toBitVec_add, Int32.toBitVec_sub]
  rw [BitVec.add_comm, BitVec.sub_add_cancel]

set_option maxHeartbeats 2000000 in
set_option maxRecDepth 100000 in
theorem s_Wa_enterDrafts {d : Nat} {M : Mem} {ad : Nat → Nat → Nat} {R : Option Value → Mem → Prop} {bj : Nat → Nat} {wk nx nl : Nat} {dl : List Nat} {r : Nat → Nat → Option Nat} {f : Nat → Nat → Int32} {g : Nat → Nat → Int64} (hi : Inj ad) (hF : Fx (mr M r) ad) (hnd : dl.Nodup) (hbi : ∀ a b, a ∈ dl → b ∈ dl → bj a = bj b → a = b) (hl : nl + dl.length ≤ 3000) (hob : ∀ j, j ∈ dl → ob M (ad 6 (bj j)) 3) (h6 : f (ad 0 10) 6 = nI nl) (h7 : f (ad 0 10) 7 = mI M (ad 0 10) 7) (h8 : f (ad 0 10) 8 = nI dl.length) (h11 : ∀ j, j ∈ dl → f (ad 6 (bj j)) 11 = mI M (ad 9 41) j) (hln : ∀ k, k < dl.length → r (ad 0 38) (nl + k) = some (ad 6 (bj (dl.getD k 0))) ∧ f (ad 0 39) (nl + k) = lnC M ad wk nx bj dl k) (hR : ∀ f', EN M ad wk nx nl bj dl f f' dl.length → f' (ad 0 10) 8 = 0 → R (some (.int (nI dl.length))) (mm (mr M r) f' g)) : Call d 113 [.ref (ad 0 10)] (mm (mr M r) f g) R := by
  have key : ∀ i, i ≤ dl.length → ∀ f', EN M ad wk nx nl bj dl f f' i → Go d 113 0 0 7 [.ref (ad 0 10), .int (nI dl.length), .int (nI i)] [] (mm (mr M r) f' g) R := by
    refine up_ind (P := fun i => ∀ f', EN M ad wk nx nl bj dl f f' i → Go d 113 0 0 7 [.ref (ad 0 10), .int (nI dl.length), .int (nI i)] [] (mm (mr M r) f' g) R) dl.length (fun f' h => ?_) (fun i hlt ih f' h => ?_)
    ·
      show Go d 113 0 0 7 [.ref (ad 0 10), .int (nI dl.length), .int (nI dl.length)] [] (mm (mr M r) f' g) R
      refine go_blk 2 [] (pc' := 9) (vs' := [.ref (ad 0 10), .int (nI dl.length), .int (nI dl.length)]) (st' := [.int (nI dl.length), .int (nI dl.length)]) (M' := mm (mr M r) f' g) (ps := []) rfl trivial ?_
      refine go_icmp rfl (fun _ => ?_) (fun (z : ¬ (nI dl.length ≤ (nI dl.length))) => absurd (show nI dl.length ≤ (nI dl.length) from Int32.le_refl _) z)
      refine go_blk 4 [] (pc' := 88) (vs' := [.ref (ad 0 10), .int (nI dl.length), .int (nI dl.length)]) (st' := [.int (nI dl.length)]) (M' := mm (mr M r) (up2 f' (ad 0 10) 8 0) g) (ps := [ob (mm (mr M r) f' g) (ad 0 10) 10]) rfl ⟨(hF.o 10), trivial⟩ ?_
      refine go_iret rfl rfl ?_
      refine hR _ ⟨fun t x k z1 z2 => ?_, ⟨?_, ?_⟩, fun k hk => ?_⟩ (up2_s _ _ _ _)
      · rw [up2_n _ _ (fun y => z1 ⟨(hi _ _ _ _ y.1).1, (hi _ _ _ _ y.1).2, Or.inr (Or.inr y.2)⟩)]; exact h.1 t x k z1 z2
      · rw [up2_n _ _ (fun y => absurd y.2 (by decide))]; exact h.2.1.1
      · rw [up2_n _ _ (fun y => absurd y.2 (by decide))]; exact h.2.1.2
      · rw [up2_n _ _ (fun y => absurd (hi _ _ _ _ y.1).1 (by decide))]; exact h.2.2 k hk
    · obtain ⟨b, hb⟩ : ∃ b, bj (dl.getD i 0) = b := ⟨_, rfl⟩
      have hm := gtD_mem hlt
      have hr38 := (hln i hlt).1
      have h11' := h.2.2 i hlt
      rw [if_neg (by omega)] at h11'
      have hc39 : f' (ad 0 39) (nl + i) = lnC M ad wk nx bj dl i := (h.1 0 39 _ (by omega) (by omega)).trans (hln i hlt).2
      have hobb := hob _ hm
      rw [hb] at hr38 h11' hobb
      have efin : mI M (ad 9 41) (dl.getD i 0) + lnC M ad wk nx bj dl i = pyJ M ad wk nx bj (dl.getD i 0) := i32_subadd _ _
      show Go d 113 0 0 7 [.ref (ad 0 10), .int (nI dl.length), .int (nI i)] [] (mm (mr M r) f' g) R
      refine go_blk 2 [] (pc' := 9) (vs' := [.ref (ad 0 10), .int (nI dl.length), .int (nI i)]) (st' := [.int (nI dl.length), .int (nI i)]) (M' := mm (mr M r) f' g) (ps := []) rfl trivial ?_
      refine go_icmp rfl (fun (z : nI dl.length ≤ (nI i)) => absurd z (show ¬ (nI dl.length ≤ (nI i)) from (Int32.not_le.mpr ((nI_lts (a := i) (b := dl.length) (by omega) (by omega)).mpr hlt)))) (fun _ => ?_)
      refine go_blk 3 [some (.int (nI (nl + i)))] (pc' := 19) (vs' := [.ref (ad 0 10), .int (nI dl.length), .int (nI i)]) (st' := [.int 3000, .int (nI (nl + i))]) (M' := mm (mr M r) f' g) (ps := [ob (mm (mr M r) f' g) (ad 0 10) 10, (Value.int (f' (ad 0 10) 6)) = .int (nI (nl + i))]) rfl ⟨(hF.o 10), congrArg Value.int h.2.1.1, trivial⟩ ?_
      refine go_icmp rfl (fun (z : 3000 ≤ (nI (nl + i))) => absurd z (show ¬ (3000 ≤ (nI (nl + i))) from (Int32.not_le.mpr ((nI_lts (a := nl + i) (b := 3000) (by omega) (by decide)).mpr (by omega))))) (fun _ => ?_)
      refine go_blk 32 [some (.ref (ad 0 38)), some (.int (nI (nl + i))), some (.ref (ad 6 b)), some (.int (mI M (ad 9 41) (dl.getD i 0))), some (.ref (ad 0 39)), some (.int (nI (nl + i))), some (.int (lnC M ad wk nx bj dl i)), some (.int (lsm (mI M (ad 0 10) 7) (lnC M ad wk nx bj dl) i)), some (.ref (ad 0 39)), some (.int (nI (nl + i))), some (.int (lnC M ad wk nx bj dl i)), some (.int (nI (nl + i)))] (pc' := 7) (vs' := [.ref (ad 0 10), .int (nI dl.length), .int ((nI i) + 1)]) (st' := []) (M' := mm (mr M r) (up2 (up2 (up2 f' (ad 6 b) 11 ((mI M (ad 9 41) (dl.getD i 0)) + (lnC M ad wk nx bj dl i))) (ad 0 10) 7 ((lsm (mI M (ad 0 10) 7) (lnC M ad wk nx bj dl) i) + (lnC M ad wk nx bj dl i))) (ad 0 10) 6 ((nI (nl + i)) + 1)) g) (ps := [ob (mm (mr M r) f' g) (ad 0 10) 10, mR (mm (mr M r) f' g) (ad 0 10) 4 = some (ad 0 38), va_rf (some (ad 0 38)) = .ref (ad 0 38), ob (mm (mr M r) f' g) (ad 0 10) 10, (Value.int (f' (ad 0 10) 6)) = .int (nI (nl + i)), ob (mm (mr M r) f' g) (ad 0 38) 19, 17 ≤ 19 ∧ 19 < 22, vp_in (nI (nl + i)) (mN (mm (mr M r) f' g) (ad 0 38)), mR (mm (mr M r) f' g) (ad 0 38) ((nI (nl + i)).toNatClampNeg) = some (ad 6 b), va_rf (some (ad 6 b)) = .ref (ad 6 b), (.ref (ad 6 b) : Value).category = 1, ob (mm (mr M r) f' g) (ad 6 b) 3, (Value.int (f' (ad 6 b) 11)) = .int (mI M (ad 9 41) (dl.getD i 0)), ob (mm (mr M r) f' g) (ad 0 10) 10, mR (mm (mr M r) f' g) (ad 0 10) 5 = some (ad 0 39), va_rf (some (ad 0 39)) = .ref (ad 0 39), ob (mm (mr M r) f' g) (ad 0 10) 10, (Value.int (f' (ad 0 10) 6)) = .int (nI (nl + i)), ob (mm (mr M r) f' g) (ad 0 39) 15, vp_in (nI (nl + i)) (mN (mm (mr M r) f' g) (ad 0 39)), (Value.int (f' (ad 0 39) ((nI (nl + i)).toNatClampNeg))) = .int (lnC M ad wk nx bj dl i), ob (mm (mr M r) f' g) (ad 6 b) 3, (.ref (ad 0 10) : Value).category = 1, ob (mm (mr M r) (up2 f' (ad 6 b) 11 ((mI M (ad 9 41) (dl.getD i 0)) + (lnC M ad wk nx bj dl i))) g) (ad 0 10) 10, (Value.int ((up2 f' (ad 6 b) 11 ((mI M (ad 9 41) (dl.getD i 0)) + (lnC M ad wk nx bj dl i))) (ad 0 10) 7)) = .int (lsm (mI M (ad 0 10) 7) (lnC M ad wk nx bj dl) i), ob (mm (mr M r) (up2 f' (ad 6 b) 11 ((mI M (ad 9 41) (dl.getD i 0)) + (lnC M ad wk nx bj dl i))) g) (ad 0 10) 10, mR (mm (mr M r) (up2 f' (ad 6 b) 11 ((mI M (ad 9 41) (dl.getD i 0)) + (lnC M ad wk nx bj dl i))) g) (ad 0 10) 5 = some (ad 0 39), va_rf (some (ad 0 39)) = .ref (ad 0 39), ob (mm (mr M r) (up2 f' (ad 6 b) 11 ((mI M (ad 9 41) (dl.getD i 0)) + (lnC M ad wk nx bj dl i))) g) (ad 0 10) 10, (Value.int ((up2 f' (ad 6 b) 11 ((mI M (ad 9 41) (dl.getD i 0)) + (lnC M ad wk nx bj dl i))) (ad 0 10) 6)) = .int (nI (nl + i)), ob (mm (mr M r) (up2 f' (ad 6 b) 11 ((mI M (ad 9 41) (dl.getD i 0)) + (lnC M ad wk nx bj dl i))) g) (ad 0 39) 15, vp_in (nI (nl + i)) (mN (mm (mr M r) (up2 f' (ad 6 b) 11 ((mI M (ad 9 41) (dl.getD i 0)) + (lnC M ad wk nx bj dl i))) g) (ad 0 39)), (Value.int ((up2 f' (ad 6 b) 11 ((mI M (ad 9 41) (dl.getD i 0)) + (lnC M ad wk nx bj dl i))) (ad 0 39) ((nI (nl + i)).toNatClampNeg))) = .int (lnC M ad wk nx bj dl i), ob (mm (mr M r) (up2 f' (ad 6 b) 11 ((mI M (ad 9 41) (dl.getD i 0)) + (lnC M ad wk nx bj dl i))) g) (ad 0 10) 10, (.ref (ad 0 10) : Value).category = 1, ob (mm (mr M r) (up2 (up2 f' (ad 6 b) 11 ((mI M (ad 9 41) (dl.getD i 0)) + (lnC M ad wk nx bj dl i))) (ad 0 10) 7 ((lsm (mI M (ad 0 10) 7) (lnC M ad wk nx bj dl) i) + (lnC M ad wk nx bj dl i))) g) (ad 0 10) 10, (Value.int ((up2 (up2 f' (ad 6 b) 11 ((mI M (ad 9 41) (dl.getD i 0)) + (lnC M ad wk nx bj dl i))) (ad 0 10) 7 ((lsm (mI M (ad 0 10) 7) (lnC M ad wk nx bj dl) i) + (lnC M ad wk nx bj dl i))) (ad 0 10) 6)) = .int (nI (nl + i)), ob (mm (mr M r) (up2 (up2 f' (ad 6 b) 11 ((mI M (ad 9 41) (dl.getD i 0)) + (lnC M ad wk nx bj dl i))) (ad 0 10) 7 ((lsm (mI M (ad 0 10) 7) (lnC M ad wk nx bj dl) i) + (lnC M ad wk nx bj dl i))) g) (ad 0 10) 10]) rfl ⟨(hF.o 10), (hF.r 10 4 38), rfl, (hF.o 10), congrArg Value.int h.2.1.1, (hF.o 38), (by decide), (vpi (hF.n 38) (show nl + i < 3000 by omega)), (cl_rf rfl (by omega) hr38), rfl, rfl, hobb, congrArg Value.int h11', (hF.o 10), (hF.r 10 5 39), rfl, (hF.o 10), congrArg Value.int h.2.1.1, (hF.o 39), (vpi (hF.n 39) (show nl + i < 3000 by omega)), congrArg Value.int ((congrArg (fun z => f' (ad 0 39) z) (cl_of rfl (by omega))).trans hc39), hobb, rfl, (hF.o 10), congrArg Value.int (((up2_n _ _ (fun z => absurd (hi _ _ _ _ z.1).1 (by decide))).trans (rfl)).trans h.2.1.2), (hF.o 10), (hF.r 10 5 39), rfl, (hF.o 10), congrArg Value.int (((up2_n _ _ (fun z => absurd (hi _ _ _ _ z.1).1 (by decide))).trans (rfl)).trans h.2.1.1), (hF.o 39), (vpi (hF.n 39) (show nl + i < 3000 by omega)), congrArg Value.int ((congrArg (fun z => (up2 f' (ad 6 b) 11 ((mI M (ad 9 41) (dl.getD i 0)) + (lnC M ad wk nx bj dl i))) (ad 0 39) z) (cl_of rfl (by omega))).trans (((up2_n _ _ (fun z => absurd (hi _ _ _ _ z.1).1 (by decide))).trans (rfl)).trans hc39)), (hF.o 10), rfl, (hF.o 10), congrArg Value.int (((up2_n _ _ (fun z => absurd z.2 (by decide))).trans ((up2_n _ _ (fun z => absurd (hi _ _ _ _ z.1).1 (by decide))).trans (rfl))).trans h.2.1.1), (hF.o 10), trivial⟩ ?_
      rw [show nI i + 1 = nI (i + 1) from nI_add i 1]
      refine ih _ ⟨fun t x k z1 z2 => ?_, ⟨?_, ?_⟩, fun k hk => ?_⟩
      · rw [up2_n _ _ (fun y => z1 ⟨(hi _ _ _ _ y.1).1, (hi _ _ _ _ y.1).2, Or.inl y.2⟩), up2_n _ _ (fun y => z1 ⟨(hi _ _ _ _ y.1).1, (hi _ _ _ _ y.1).2, Or.inr (Or.inl y.2)⟩), up2_n _ _ (fun y => z2 ⟨(hi _ _ _ _ y.1).1, y.2, _, hm, by rw [hb]; exact (hi _ _ _ _ y.1).2⟩)]; exact h.1 t x k z1 z2
      · rw [up2_s, show nI (nl + i) + 1 = nI (nl + (i + 1)) from nI_add (nl + i) 1]
      · rw [up2_n _ _ (fun y => absurd y.2 (by decide)), up2_s]; rfl
      · rw [up2_n _ _ (fun y => absurd (hi _ _ _ _ y.1).1 (by decide)), up2_n _ _ (fun y => absurd (hi _ _ _ _ y.1).1 (by decide))]
        by_cases c : k = i
        · rw [c, hb, up2_s, efin, if_pos (by omega)]
        · rw [up2_n _ _ (fun y => c (gtD_inj hnd hk hlt (hbi _ _ (gtD_mem hk) hm ((hi _ _ _ _ y.1).2.trans hb.symm)))), h.2.2 k hk]
          by_cases c2 : k < i
          · rw [if_pos c2, if_pos (by omega)]
          · rw [if_neg c2, if_neg (by omega)]
  have h0 : EN M ad wk nx nl bj dl f f 0 := ⟨fun _ _ _ _ _ => rfl, ⟨h6, h7⟩, fun k hk => by rw [if_neg (by omega)]; exact h11 _ (gtD_mem hk)⟩
  show Go d 113 0 0 0 [.ref (ad 0 10), .retAddr 0, .retAddr 0] [] (mm (mr M r) f g) R
  refine go_blk 5 [some (.int (nI dl.length))] (pc' := 7) (vs' := [.ref (ad 0 10), .int (nI dl.length), .int 0]) (st' := []) (M' := mm (mr M r) f g) (ps := [ob (mm (mr M r) f g) (ad 0 10) 10, (Value.int (f (ad 0 10) 8)) = .int (nI dl.length)]) rfl ⟨(hF.o 10), congrArg Value.int h8, trivial⟩ ?_
  exact key 0 (Nat.zero_le _) f h0

theorem nI_div7 {j : Nat} (h : j < 2 ^ 31) : nI j / 7 = nI (j / 7) := by
  apply Int32.toInt_inj.mp
  rw [Int32.toInt_div, nI_toInt h, nI_toInt (by omega)]
  show Int.bmod ((j : Int).tdiv 7) (2 ^ 32) = ((j / 7 : Nat) : Int)
  rw [Int.tdiv_eq_ediv_of_nonneg (by omega), Int.bmod_eq_of_le (by omega) (by omega)]
  omega

theorem s_Mo_termsForE {d : Nat} {M : Mem} {f : Nat → Nat → Int32} {g : Nat → Nat → Int64} {ad : Nat → Nat → Nat} {R : Option Value → Mem → Prop} {x y v : Int32} {nx : Nat} (hd : 0 ≤ d) (hM : Mx M ad) (hn : f (ad 10 0) 81 = nI nx) (hl : nx ≤ 20) (hfr : ∀ i, i < nx → 0 ≤ f (ad 9 78) i) (ev : (tmV (f (ad 9 78)) (f (ad 9 79)) x y nx).1 = v) (hR : R (some (.int v)) (mm M f g)) : Call d 255 [.ref (ad 10 0), .int x, .int y] (mm M f g) R := by
  subst ev
  exact s_Mo_termsFor hd hM hn hl hfr hR

set_option maxHeartbeats 2000000 in
set_option maxRecDepth 100000 in
theorem s_Mo_payJ {d : Nat} {M : Mem} {ad : Nat → Nat → Nat} {R : Option Value → Mem → Prop} {bj : Nat → Nat} {nc nb nt wk nw nx nl ne nk kd : Nat} {r : Nat → Nat → Option Nat} {f : Nat → Nat → Int32} {g : Nat → Nat → Int64} {j : Nat} (hd : 48 ≤ d) (hW : WI M ad nc nb nt wk nw nx nl ne nk kd true) (hbj : ∀ j, j < 364 → mI M (ad 9 32) j = 1 → bj j < nb ∧ hJ (vw ad (mI M)) wk true (bj j) ∧ jAt (vw ad (mI M)) (bj j) j) (hj : j < 364) (h32 : mI M (ad 9 32) j = 1) (hM2 : Mx (mr M r) ad) (h19 : f (ad 10 0) 19 = nI wk) (h81 : f (ad 10 0) 81 = nI nx) (hf : ∀ k m, ¬ k = 41 → ¬ k = 72 → f (ad 9 k) m = mI M (ad 9 k) m) (hR : ∀ r2 f2 g2, (∀ x k, ¬ (x = ad 10 0 ∧ k = 82) → r2 x k = r x k) → GT ad f f2 → GK ad g g2 → R (some (.int (pyJ M ad wk nx bj j))) (mm (mr M r2) f2 g2)) : Call d 258 [.ref (ad 10 0), .int (nI j)] (mm (mr M r) f g) R := by
  obtain ⟨hi, ⟨hF0, hM, hC0, hB0, hT, hX0⟩, ⟨iS, iC, iB, iR, iL, iT⟩, ⟨jO, jR, jB, jX, jL⟩, kO, kC, kD, kP, kX⟩ := id hW
  obtain ⟨⟨nc1, nc2, nc3⟩, ⟨nb1, nb2, nb3⟩, ⟨nt1, nt2, nt3⟩, ⟨wk1, wk2, wk3⟩, ⟨nw1, nw2, nw3⟩, ⟨op1, op2, op3⟩, ncm, ncm1, ncm2, ncm3⟩ := id iS
  simp only [vw] at nc1 nc2 nb1 nb2 nt1 nt2 wk1 wk2 nw1 nw2 op1 op2 ncm2 ncm3
  have nl3 := jL.1.2.2.1
  have nx3 := jX.1.2.2
  replace op3 : wk < 52 := op3 rfl
  obtain ⟨b1, b2, b3⟩ := hbj j hj h32
  have etm : (tmV (f (ad 9 78)) (f (ad 9 79)) (nI (j / 7)) (nI wk) nx).1 = tmW' M ad wk nx (j / 7) := by
    unfold tmW'
    rw [tmV_congr (fun i hi => ⟨hf 78 i (by decide) (by decide), hf 79 i (by decide) (by decide)⟩)]
  have hfr : ∀ i, i < nx → 0 ≤ f (ad 9 78) i := fun i hi => by
    obtain ⟨-, -, ⟨k, k1, k2, k3⟩, -⟩ := (jX.2.2 i hi).1
    rw [hf 78 i (by decide) (by decide), show mI M (ad 9 78) i = nI k from k3]
    exact nI_ge0 (by omega)
  have hM := hM2
  have ed : nI j / 7 = nI (j / 7) := nI_div7 (by omega)
  rcases tmV_is (mI M (ad 9 78)) (mI M (ad 9 79)) (nI (j / 7)) (nI wk) nx with hti | ⟨i, hix, hti, -⟩
  ·
    have ht1 : tmW' M ad wk nx (j / 7) = (-1) := by unfold tmW'; rw [hti]
    show Go d 258 0 0 0 [.ref (ad 10 0), .int (nI j), .retAddr 0] [] (mm (mr M r) f g) R
    refine go_blk 6 [some (.int (nI wk))] (pc' := 9) (vs' := [.ref (ad 10 0), .int (nI j), .retAddr 0]) (st' := [.int (nI wk), .int ((nI j) / 7), .ref (ad 10 0)]) (M' := mm (mr M r) f g) (ps := [¬ 7 = 0, ob (mm (mr M r) f g) (ad 10 0) 12, (Value.int (f (ad 10 0) 19)) = .int (nI wk)]) rfl ⟨(by decide), hM.1, congrArg Value.int h19, trivial⟩ ?_
    rw [ed]
    show Go d 258 0 0 9 [.ref (ad 10 0), .int (nI j), .retAddr 0] [.int (nI wk), .int (nI (j / 7)), .ref (ad 10 0)] (mm (mr M r) f g) R
    show Go d 258 0 0 9 [.ref (ad 10 0), .int (nI j), .retAddr 0] [.int (nI wk), .int (nI (j / 7)), .ref (ad 10 0)] (mm (mr M r) f g) R
    refine go_callV rfl rfl rfl (by omega) rfl (by decide) (by decide) hM.1 ?_
    refine s_Mo_termsForE (by omega) hM h81 nx3 hfr (etm.trans ht1) ⟨ne_i, ?_⟩
    show Go d 258 0 0 12 [.ref (ad 10 0), .int (nI j), .retAddr 0] [.int (-1)] (mm (mr M r) f g) R
    refine go_blk 3 [] (pc' := 15) (vs' := [.ref (ad 10 0), .int (nI j), .int (-1)]) (st' := [.int (-1), .int (-1)]) (M' := mm (mr M r) f g) (ps := []) rfl trivial ?_
    refine go_icmp rfl (fun (z : ¬ ((-1) : Int32) = (-1)) => absurd z (show ¬ (¬ ((-1) : Int32) = (-1)) from (by decide))) (fun _ => ?_)
    refine go_blk 2 [] (pc' := 28) (vs' := [.ref (ad 10 0), .int (nI j), .int (-1)]) (st' := [.int 0]) (M' := mm (mr M r) f g) (ps := []) rfl trivial ?_
    refine go_iret rfl rfl ?_
    have e0 : pyJ M ad wk nx bj j = 0 := by unfold pyJ; rw [if_pos ht1]
    have hz := hR r f g (fun _ _ _ => rfl) (fun _ _ _ => rfl) (fun _ _ _ => rfl)
    rw [e0] at hz
    exact hz
  ·
    have ht1 : tmW' M ad wk nx (j / 7) = nI i := by unfold tmW'; rw [hti]
    show Go d 258 0 0 0 [.ref (ad 10 0), .int (nI j), .retAddr 0] [] (mm (mr M r) f g) R
    refine go_blk 6 [some (.int (nI wk))] (pc' := 9) (vs' := [.ref (ad 10 0), .int (nI j), .retAddr 0]) (st' := [.int (nI wk), .int ((nI j) / 7), .ref (ad 10 0)]) (M' := mm (mr M r) f g) (ps := [¬ 7 = 0, ob (mm (mr M r) f g) (ad 10 0) 12, (Value.int (f (ad 10 0) 19)) = .int (nI wk)]) rfl ⟨(by decide), hM.1, congrArg Value.int h19, trivial⟩ ?_
    rw [ed]
    show Go d 258 0 0 9 [.ref (ad 10 0), .int (nI j), .retAddr 0] [.int (nI wk), .int (nI (j / 7)), .ref (ad 10 0)] (mm (mr M r) f g) R
    show Go d 258 0 0 9 [.ref (ad 10 0), .int (nI j), .retAddr 0] [.int (nI wk), .int (nI (j / 7)), .ref (ad 10 0)] (mm (mr M r) f g) R
    refine go_callV rfl rfl rfl (by omega) rfl (by decide) (by decide) hM.1 ?_
    refine s_Mo_termsForE (by omega) hM h81 nx3 hfr (etm.trans ht1) ⟨ne_i, ?_⟩
    show Go d 258 0 0 12 [.ref (ad 10 0), .int (nI j), .retAddr 0] [.int (nI i)] (mm (mr M r) f g) R
    refine go_blk 3 [] (pc' := 15) (vs' := [.ref (ad 10 0), .int (nI j), .int (nI i)]) (st' := [.int (-1), .int (nI i)]) (M' := mm (mr M r) f g) (ps := []) rfl trivial ?_
    refine go_icmp rfl (fun _ => ?_) (fun (z : ¬ (¬ (nI i) = (-1))) => absurd (show ¬ (nI i) = (-1) from (nI_m1 (n := i) (by omega))) z)
    refine go_blk 3 [] (pc' := 25) (vs' := [.ref (ad 10 0), .int (nI j), .int (nI i)]) (st' := [.int (nI j), .int (nI i), .ref (ad 10 0)]) (M' := mm (mr M r) f g) (ps := []) rfl trivial ?_
    obtain ⟨-, n, n1, n2, n3⟩ := kX.2.2.1 i hix
    obtain ⟨-, m, m1, m2, m3, m4⟩ := jX.2.2 i hix
    simp only [vw] at n2 m2 m3 m4
    obtain rfl : m = n := by rw [n2] at m2; exact ((nI_eqs (by omega) (by omega)).mp m2).symm
    have eL : (mI M (ad 7 i) 1).toNatClampNeg = m := by rw [n2, nI_clamp (by omega)]
    obtain ⟨o, ho⟩ := thr_ok (lv := lvC (mI M) ad (bj j)) (show okT (mI M (ad 8 i)) m from n3)
    have epy : coinO o = pyJ M ad wk nx bj j := by unfold pyJ; rw [ht1, if_neg (nI_m1 (by omega)), nI_clamp (by omega)]; unfold pyV; rw [eL, ho]
    refine go_callV rfl rfl rfl (by omega) rfl (by decide) (by decide) hM.1 ?_
    refine s_Mo_payBy (t := mI M (ad 8 i)) (lv := lvC (mI M) ad (bj j)) (by omega) hM hi (by omega) hj ((hf 77 i (by decide) (by decide)).trans m3) m1 (fun k hk => by rw [hf 76 _ (by decide) (by decide)]; exact m4 k hk) (fun x _ => by rw [lv_cm iB jO b1 b2 b3]; unfold lvM; rw [hf 35 _ (by decide) (by decide), hf 43 _ (by decide) (by decide), hf 42 _ (by decide) (by decide), hf 38 _ (by decide) (by decide), hf 34 _ (by decide) (by decide), hf 40 _ (by decide) (by decide), hf 37 _ (by decide) (by decide)]) ho (fun f2 g2 q1 q2 => ⟨ne_i, ?_⟩)
    · -- ('i', 'coinO o')
      rw [epy]
      show Go d 258 0 0 28 [.ref (ad 10 0), .int (nI j), .int (nI i)] [.int (pyJ M ad wk nx bj j)] (mm (sR (mr M r) (ad 10 0) 82 (some (ad 9 76))) f2 g2) R
      refine go_iret rfl rfl ?_
      exact hR (up2 r (ad 10 0) 82 (some (ad 9 76))) f2 g2 (fun x k z => up2_n _ _ z) q1 q2

