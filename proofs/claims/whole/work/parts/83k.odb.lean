/-! openDay: the class behind its jobs -/
def TD (ad : Nat → Nat → Nat) (f0 : Nat → Nat → Int32) (t : Nat) (f : Nat → Nat → Int32) : Prop := (∀ a, (∀ i, i < t → ¬ a = ad 3 i) → f a = f0 a) ∧ ∀ i, i < t → f (ad 3 i) = sdT f0 (ad 3 i) (ad 3 i)
theorem sdT_row {f : Nat → Nat → Int32} {a b : Nat} (h : ¬ b = a) : sdT f a b = f b := by
  unfold sdT
  rw [up2_row h, up2_row h, up2_row h, up2_row h, up2_row h, up2_row h, up2_row h]
theorem sdT_eq {f f0 : Nat → Nat → Int32} {a : Nat} (h : f a = f0 a) : sdT f a a = sdT f0 a a := by
  funext k
  unfold sdT
  simp only [up2, h]
theorem TD.step {ad : Nat → Nat → Nat} {f0 f : Nat → Nat → Int32} {t : Nat} (hi : Inj ad) (h : TD ad f0 t f) : TD ad f0 (t + 1) (sdT f (ad 3 t)) := by
  refine ⟨fun a ha => ?_, fun i hlt => ?_⟩
  · rw [sdT_row (ha t (by omega))]
    exact h.1 a (fun i hi2 => ha i (by omega))
  · by_cases e : i = t
    · rw [e]
      exact sdT_eq (h.1 _ (fun i hi2 y => absurd (hi _ _ _ _ y).2 (by omega)))
    · rw [sdT_row (fun y => e (hi _ _ _ _ y).2)]
      exact h.2 i (by omega)
theorem soF_row {f : Nat → Nat → Int32} {a b : Nat} {n : Int32} (h : ¬ b = a) : soF f a n b = f b := by
  unfold soF
  rw [up2_row h, up2_row h, up2_row h, up2_row h, up2_row h, up2_row h]
theorem JS_ts {M : Mem} {ad : Nat → Nat → Nat} {r : Nat → Nat → Option Nat} {f : Nat → Nat → Int32} {c : Nat} {M0 : Mem} {a0 : Nat → Nat → Nat} {nc nb nt wk nw nx nl ne nk kd : Nat} {Q W : Nat → Option Nat} (hW : WI M0 a0 nc nb nt wk nw nx nl ne nk kd false) (h : JSb M0 a0 nc nb nt nx wk ne Q W c M ad r f) :
    Ts (mr M r) ad nt ∧ f (ad 0 0) 5 = nI nt ∧ nt ≤ 3 ∧ mJ M (ad 0 0) 12 = cdS kd ∧ ∀ c, c < nc → ∀ s, 5 ≤ s → s ≤ 7 → f (ad 1 c) s = -1 ∨ ∃ k, k < kd ∧ f (ad 1 c) s = cdV k := by
  have hV := JE_wi hW h.1
  obtain ⟨hi, ⟨hF0, hM, hC0, hB0, hT, hX0⟩, ⟨iS, iC, iB, iR, iL, iT⟩, -, kO, kC, -, -, -⟩ := hV
  obtain ⟨-, -, ⟨nt1, nt2, nt3⟩, -⟩ := iS
  simp only [vw] at nt1
  obtain ⟨hE, h1, h2, -⟩ := h
  refine ⟨fun t ht => ?_, (h2 0 0 5 (Ux.k0 (by omega)) (by omega)).trans nt1, nt3, kC.1, fun c hc s s1 s2 => ?_⟩
  · obtain ⟨t1, t2, ⟨t3, t4, t5⟩, t6, t7, t8⟩ := hT t ht
    have u3 : Ux M0 a0 nc nb nt nx wk 3 t := Or.inl (show Us nc nb nt nx 3 t from ht)
    exact ⟨(h1 0 3 t (Ux.k0 (by omega)) (by omega) (by omega) (by omega)).trans t1, t2, ⟨(h1 3 t 2 u3 (by omega) (by omega) (by omega)).trans t3, t4, t5⟩, (h1 3 t 3 u3 (by omega) (by omega) (by omega)).trans t6, t7, t8⟩
  · rw [h2 1 c s (Or.inl (show Us nc nb nt nx 1 c from hc)) (by omega)]
    exact kC.2.2.2.2.2 c hc s s1 s2

set_option maxHeartbeats 4000000 in
set_option maxRecDepth 100000 in
theorem op_half {d : Nat} {R : Option Value → Mem → Prop} {M : Mem} {ad : Nat → Nat → Nat} {r : Nat → Nat → Option Nat} {f : Nat → Nat → Int32} {n : Int32} {M0 : Mem} {a0 : Nat → Nat → Nat} {nc nb nt wk nw nx nl ne nk kd : Nat} {Q W : Nat → Option Nat} (hd : 4 ≤ d) (hW : WI M0 a0 nc nb nt wk nw nx nl ne nk kd false) (hwk : wk < 52) (hQb : ∀ c b, c < nc → Q c = some b → b < nb) (hQn : ∀ c, c < nc → Q c = none → mR M0 (a0 0 4) (7 * wk + c) = none) (hQu : ∀ c c' b, c < nc → c' < c → Q c' = some b → ¬ Q c = some b) (hkd : kd + cnQ Q nc ≤ 61) (h : JSb M0 a0 nc nb nt nx wk ne Q W nc M ad r f) (hR : ∀ f2 f3, GC ad Q (soF f (ad 0 8) (gsO Q (fun b => f (ad 2 b) 2) nc)) kd nc f2 → TD ad f2 nt f3 → R (some (.int n)) (mm (mr M r) (up2 f3 (ad 0 7) 19 0) (up2 (mJ M) (ad 0 0) 12 (cdS (kd + cnQ Q nc))))) : Go d 129 0 0 36 [.ref (ad 0 0), .retAddr 0, .retAddr 0] [.int n] (mm (mr M r) f (mJ M)) R := by
  obtain ⟨hi, ⟨hF, hC, hB⟩, ⟨nc1, wk1⟩, ⟨nc3, nb3⟩, -, -⟩ := JS_env hW h
  obtain ⟨hT, nt1, nt3, hk, hcd⟩ := JS_ts hW h
  have hQ : ∀ c, c < nc → mR (mr M r) (ad 0 4) (7 * wk + c) = (Q c).map (ad 2) := fun c hc => by
    cases hq : Q c with
    | some b => exact (h.2.2.2.1.2.1 c b hc hq).1
    | none =>
      obtain ⟨q1, -, q3⟩ := h.1.2.2 0 4 (Ux.k0 (by omega))
      refine (h.2.2.2.1.2.2.1 c (by omega) (Or.inr hq)).trans ?_
      rw [q1, q3]
      exact hQn c hc hq
  have nn : ∀ t i t' i', ¬ (t = t' ∧ i = i') → ¬ ad t i = ad t' i' := fun t i t' i' z y => z (hi _ _ _ _ y)
  have key : ∀ f2, GC ad Q (soF f (ad 0 8) (gsO Q (fun b => f (ad 2 b) 2) nc)) kd nc f2 → ∀ t, t ≤ nt → ∀ f3, TD ad f2 t f3 → Go d 129 0 0 54 [.ref (ad 0 0), .int n, .int (nI t)] [] (mm (mr M r) f3 (up2 (mJ M) (ad 0 0) 12 (cdS (kd + cnQ Q nc)))) R := by
    intro f2 hg
    refine up_ind (P := fun t => ∀ f3, TD ad f2 t f3 → Go d 129 0 0 54 [.ref (ad 0 0), .int n, .int (nI t)] [] (mm (mr M r) f3 (up2 (mJ M) (ad 0 0) 12 (cdS (kd + cnQ Q nc)))) R) nt (fun f3 ht => ?_) (fun t hlt ih f3 ht => ?_)
    · have nt5 : f3 (ad 0 0) 5 = nI nt := by
        rw [ht.1 _ (fun i _ => nn 0 0 3 i (by omega)), hg.1 0 0 5 (by omega) (by omega), soF_row (nn 0 0 0 8 (by omega))]
        exact nt1
      show Go d 129 0 0 54 [.ref (ad 0 0), .int n, .int (nI nt)] [] (mm (mr M r) f3 (up2 (mJ M) (ad 0 0) 12 (cdS (kd + cnQ Q nc)))) R
      refine go_blk 3 [some (.int (nI nt))] (pc' := 59) (vs' := [.ref (ad 0 0), .int n, .int (nI nt)]) (st' := [.int (nI nt), .int (nI nt)]) (M' := mm (mr M r) f3 (up2 (mJ M) (ad 0 0) 12 (cdS (kd + cnQ Q nc)))) (ps := [ob (mm (mr M r) f3 (up2 (mJ M) (ad 0 0) 12 (cdS (kd + cnQ Q nc)))) (ad 0 0) 11, (Value.int (f3 (ad 0 0) 5)) = .int (nI nt)]) rfl ⟨(hF.o 0), congrArg Value.int nt5, trivial⟩ ?_
      refine go_icmp rfl (fun _ => ?_) (fun (z : ¬ (nI nt ≤ (nI nt))) => absurd (show nI nt ≤ (nI nt) from Int32.le_refl _) z)
      refine go_blk 2 [some (.ref (ad 0 7))] (pc' := 81) (vs' := [.ref (ad 0 0), .int n, .int (nI nt)]) (st' := [.ref (ad 0 7)]) (M' := mm (mr M r) f3 (up2 (mJ M) (ad 0 0) 12 (cdS (kd + cnQ Q nc)))) (ps := [ob (mm (mr M r) f3 (up2 (mJ M) (ad 0 0) 12 (cdS (kd + cnQ Q nc)))) (ad 0 0) 11, mR (mm (mr M r) f3 (up2 (mJ M) (ad 0 0) 12 (cdS (kd + cnQ Q nc)))) (ad 0 0) 14 = some (ad 0 7), va_rf (some (ad 0 7)) = .ref (ad 0 7)]) rfl ⟨(hF.o 0), (hF.r 0 14 7), rfl, trivial⟩ ?_
      refine go_callV rfl rfl rfl (by omega) rfl (by decide) (by decide) (hF.o 7) ?_
      refine s_Pl_forget (by omega) hF ⟨ne_v, ?_⟩
      show Go d 129 0 0 84 [.ref (ad 0 0), .int n, .int (nI nt)] [] (mm (mr M r) (up2 (f3) (ad 0 7) 19 0) (up2 (mJ M) (ad 0 0) 12 (cdS (kd + cnQ Q nc)))) R
      refine go_blk 1 [] (pc' := 85) (vs' := [.ref (ad 0 0), .int n, .int (nI nt)]) (st' := [.int n]) (M' := mm (mr M r) (up2 (f3) (ad 0 7) 19 0) (up2 (mJ M) (ad 0 0) 12 (cdS (kd + cnQ Q nc)))) (ps := []) rfl trivial ?_
      refine go_iret rfl rfl ?_
      exact hR f2 f3 hg ht
    · have nt5 : f3 (ad 0 0) 5 = nI nt := by
        rw [ht.1 _ (fun i _ => nn 0 0 3 i (by omega)), hg.1 0 0 5 (by omega) (by omega), soF_row (nn 0 0 0 8 (by omega))]
        exact nt1
      show Go d 129 0 0 54 [.ref (ad 0 0), .int n, .int (nI t)] [] (mm (mr M r) f3 (up2 (mJ M) (ad 0 0) 12 (cdS (kd + cnQ Q nc)))) R
      refine go_blk 3 [some (.int (nI nt))] (pc' := 59) (vs' := [.ref (ad 0 0), .int n, .int (nI t)]) (st' := [.int (nI nt), .int (nI t)]) (M' := mm (mr M r) f3 (up2 (mJ M) (ad 0 0) 12 (cdS (kd + cnQ Q nc)))) (ps := [ob (mm (mr M r) f3 (up2 (mJ M) (ad 0 0) 12 (cdS (kd + cnQ Q nc)))) (ad 0 0) 11, (Value.int (f3 (ad 0 0) 5)) = .int (nI nt)]) rfl ⟨(hF.o 0), congrArg Value.int nt5, trivial⟩ ?_
      refine go_icmp rfl (fun (z : nI nt ≤ (nI t)) => absurd z (show ¬ (nI nt ≤ (nI t)) from (Int32.not_le.mpr ((nI_lts (a := t) (b := nt) (by omega) (by omega)).mpr hlt)))) (fun _ => ?_)
      refine go_blk 4 [some (.ref (ad 0 3)), some (.ref (ad 3 t))] (pc' := 68) (vs' := [.ref (ad 0 0), .int n, .int (nI t)]) (st' := [.ref (ad 3 t)]) (M' := mm (mr M r) f3 (up2 (mJ M) (ad 0 0) 12 (cdS (kd + cnQ Q nc)))) (ps := [ob (mm (mr M r) f3 (up2 (mJ M) (ad 0 0) 12 (cdS (kd + cnQ Q nc)))) (ad 0 0) 11, mR (mm (mr M r) f3 (up2 (mJ M) (ad 0 0) 12 (cdS (kd + cnQ Q nc)))) (ad 0 0) 4 = some (ad 0 3), va_rf (some (ad 0 3)) = .ref (ad 0 3), ob (mm (mr M r) f3 (up2 (mJ M) (ad 0 0) 12 (cdS (kd + cnQ Q nc)))) (ad 0 3) 20, 17 ≤ 20 ∧ 20 < 22, vp_in (nI t) (mN (mm (mr M r) f3 (up2 (mJ M) (ad 0 0) 12 (cdS (kd + cnQ Q nc)))) (ad 0 3)), mR (mm (mr M r) f3 (up2 (mJ M) (ad 0 0) 12 (cdS (kd + cnQ Q nc)))) (ad 0 3) ((nI t).toNatClampNeg) = some (ad 3 t), va_rf (some (ad 3 t)) = .ref (ad 3 t)]) rfl ⟨(hF.o 0), (hF.r 0 4 3), rfl, (hF.o 3), (by decide), (vpi (hF.n 3) (show _ < 3 by omega)), (cl_rf rfl (by omega) (hT t (by assumption)).1), rfl, trivial⟩ ?_
      refine go_callV rfl rfl rfl (by omega) rfl (by decide) (by decide) (hT t (by assumption)).2.1 ?_
      refine s_Te_startDay (by omega) hT hlt ⟨ne_v, ?_⟩
      show Go d 129 0 0 71 [.ref (ad 0 0), .int n, .int (nI t)] [] (mm (mr M r) (sdT f3 (ad 3 t)) (up2 (mJ M) (ad 0 0) 12 (cdS (kd + cnQ Q nc)))) R
      refine go_blk 2 [] (pc' := 54) (vs' := [.ref (ad 0 0), .int n, .int ((nI t) + 1)]) (st' := []) (M' := mm (mr M r) (sdT f3 (ad 3 t)) (up2 (mJ M) (ad 0 0) 12 (cdS (kd + cnQ Q nc)))) (ps := []) rfl trivial ?_
      rw [show nI t + 1 = nI (t + 1) from nI_add t 1]
      exact ih _ (ht.step hi)
  show Go d 129 0 0 36 [.ref (ad 0 0), .retAddr 0, .retAddr 0] [.int n] (mm (mr M r) f (mJ M)) R
  refine go_blk 4 [some (.ref (ad 0 8))] (pc' := 42) (vs' := [.ref (ad 0 0), .int n, .retAddr 0]) (st' := [.ref (ad 0 0), .ref (ad 0 8)]) (M' := mm (mr M r) f (mJ M)) (ps := [ob (mm (mr M r) f (mJ M)) (ad 0 0) 11, mR (mm (mr M r) f (mJ M)) (ad 0 0) 15 = some (ad 0 8), va_rf (some (ad 0 8)) = .ref (ad 0 8)]) rfl ⟨(hF.o 0), (hF.r 0 15 8), rfl, trivial⟩ ?_
  refine go_callV rfl rfl rfl (by omega) rfl (by decide) (by decide) (hF.o 0) ?_
  refine s_CY_guestsWhoCome (by omega) hF hC hB nc3 hwk hQ hQb nc1 wk1 ⟨ne_i, ?_⟩
  show Go d 129 0 0 45 [.ref (ad 0 0), .int n, .retAddr 0] [.int (gsO Q (fun b => f (ad 2 b) 2) nc), .ref (ad 0 8)] (mm (mr M r) f (mJ M)) R
  refine go_callV rfl rfl rfl (by omega) rfl (by decide) (by decide) (hF.o 8) ?_
  refine s_La_sendOut (by omega) hi hF ⟨ne_v, ?_⟩
  show Go d 129 0 0 48 [.ref (ad 0 0), .int n, .retAddr 0] [] (mm (mr M r) (soF f (ad 0 8) (gsO Q (fun b => f (ad 2 b) 2) nc)) (mJ M)) R
  refine go_blk 1 [] (pc' := 49) (vs' := [.ref (ad 0 0), .int n, .retAddr 0]) (st' := [.ref (ad 0 0)]) (M' := mm (mr M r) (soF f (ad 0 8) (gsO Q (fun b => f (ad 2 b) 2) nc)) (mJ M)) (ps := []) rfl trivial ?_
  refine go_callV rfl rfl rfl (by omega) rfl (by decide) (by decide) (hF.o 0) ?_
  refine s_CY_giveCodes (by omega) hi hF hC hB nc3 hwk hQ hQb hQu hkd hk (fun c hc s s1 s2 => by rw [soF_row (nn 1 c 0 8 (by omega))]; exact hcd c hc s s1 s2) (by rw [soF_row (nn 0 0 0 8 (by omega))]; exact nc1) (by rw [soF_row (nn 0 0 0 8 (by omega))]; exact wk1) (fun f2 hg => ⟨ne_v, ?_⟩)
  show Go d 129 0 0 52 [.ref (ad 0 0), .int n, .retAddr 0] [] (mm (mr M r) f2 (up2 (mJ M) (ad 0 0) 12 (cdS (kd + cnQ Q nc)))) R
  show Go d 129 0 0 52 [.ref (ad 0 0), .int n, .retAddr 0] [] (mm (mr M r) f2 (up2 (mJ M) (ad 0 0) 12 (cdS (kd + cnQ Q nc)))) R
  refine go_blk 2 [] (pc' := 54) (vs' := [.ref (ad 0 0), .int n, .int 0]) (st' := []) (M' := mm (mr M r) f2 (up2 (mJ M) (ad 0 0) 12 (cdS (kd + cnQ Q nc)))) (ps := []) rfl trivial ?_
  exact key f2 hg 0 (Nat.zero_le _) f2 ⟨fun _ _ => rfl, fun i z => absurd z (by omega)⟩

