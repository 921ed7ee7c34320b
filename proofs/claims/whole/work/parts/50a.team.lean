/-! call: team -/
theorem IPl.off {M M' : Mem} {ad ad' : Nat → Nat → Nat} {φ φ' : VI} {ψ ψ' : VJ} {nb nt nc wk nw nb' nt' nc' wk' nw' : Nat} {op : Bool} (h : IPl M ad φ ψ nb nt nc wk nw op) (e : φ' 0 7 19 = φ 0 7 19) : IPl M' ad' φ' ψ' nb' nt' nc' wk' nw' false := by
  rcases h with h | ⟨h, -⟩
  · exact Or.inl (e.trans h)
  · exact Or.inr ⟨e.trans h, fun z => by cases z⟩
theorem e_mL_sI (M : Mem) (a j : Nat) (v : Int32) : mL (sI M a j v) = mL M := rfl
theorem e_mL_sJ (M : Mem) (a j : Nat) (v : Int64) : mL (sJ M a j v) = mL M := rfl
theorem e_mL_sR (M : Mem) (a j : Nat) (v : Option Nat) : mL (sR M a j v) = mL M := rfl
theorem e_mL_alO (M : Mem) (q c : Nat) : mL (alO M q c) = mL M ++ [q] := rfl
theorem e_mL_alA (M : Mem) (q c n : Nat) : mL (alA M q c n) = mL M ++ [q] := rfl
theorem e_mK_sI (M : Mem) (a j : Nat) (v : Int32) : mK (sI M a j v) = mK M := rfl
theorem e_mK_sJ (M : Mem) (a j : Nat) (v : Int64) : mK (sJ M a j v) = mK M := rfl
theorem e_mK_sR (M : Mem) (a j : Nat) (v : Option Nat) : mK (sR M a j v) = mK M := rfl
theorem e_mK_alO (M : Mem) (q c : Nat) : mK (alO M q c) = va_up (mK M) q c := rfl
theorem e_mK_alA (M : Mem) (q c n : Nat) : mK (alA M q c n) = va_up (mK M) q c := rfl
theorem e_mN_sI (M : Mem) (a j : Nat) (v : Int32) : mN (sI M a j v) = mN M := rfl
theorem e_mN_sJ (M : Mem) (a j : Nat) (v : Int64) : mN (sJ M a j v) = mN M := rfl
theorem e_mN_sR (M : Mem) (a j : Nat) (v : Option Nat) : mN (sR M a j v) = mN M := rfl
theorem e_mN_alO (M : Mem) (q c : Nat) : mN (alO M q c) = mN M := rfl
theorem e_mN_alA (M : Mem) (q c n : Nat) : mN (alA M q c n) = va_up (mN M) q n := rfl
theorem e_mI_sI (M : Mem) (a j : Nat) (v : Int32) : mI (sI M a j v) = up2 (mI M) a j v := rfl
theorem e_mI_sJ (M : Mem) (a j : Nat) (v : Int64) : mI (sJ M a j v) = mI M := rfl
theorem e_mI_sR (M : Mem) (a j : Nat) (v : Option Nat) : mI (sR M a j v) = mI M := rfl
theorem e_mI_alO (M : Mem) (q c : Nat) : mI (alO M q c) = va_up (mI M) q (fun _ => 0) := rfl
theorem e_mI_alA (M : Mem) (q c n : Nat) : mI (alA M q c n) = va_up (mI M) q (fun _ => 0) := rfl
theorem e_mJ_sI (M : Mem) (a j : Nat) (v : Int32) : mJ (sI M a j v) = mJ M := rfl
theorem e_mJ_sJ (M : Mem) (a j : Nat) (v : Int64) : mJ (sJ M a j v) = up2 (mJ M) a j v := rfl
theorem e_mJ_sR (M : Mem) (a j : Nat) (v : Option Nat) : mJ (sR M a j v) = mJ M := rfl
theorem e_mJ_alO (M : Mem) (q c : Nat) : mJ (alO M q c) = va_up (mJ M) q (fun _ => 0) := rfl
theorem e_mJ_alA (M : Mem) (q c n : Nat) : mJ (alA M q c n) = va_up (mJ M) q (fun _ => 0) := rfl
theorem e_mR_sI (M : Mem) (a j : Nat) (v : Int32) : mR (sI M a j v) = mR M := rfl
theorem e_mR_sJ (M : Mem) (a j : Nat) (v : Int64) : mR (sJ M a j v) = mR M := rfl
theorem e_mR_sR (M : Mem) (a j : Nat) (v : Option Nat) : mR (sR M a j v) = up2 (mR M) a j v := rfl
theorem e_mR_alO (M : Mem) (q c : Nat) : mR (alO M q c) = va_up (mR M) q (fun _ => none) := rfl
theorem e_mR_alA (M : Mem) (q c n : Nat) : mR (alA M q c n) = va_up (mR M) q (fun _ => none) := rfl
theorem e_mSc_sI (M : Mem) (a j : Nat) (v : Int32) : mSc (sI M a j v) = mSc M := rfl
theorem e_mSc_sJ (M : Mem) (a j : Nat) (v : Int64) : mSc (sJ M a j v) = mSc M := rfl
theorem e_mSc_sR (M : Mem) (a j : Nat) (v : Option Nat) : mSc (sR M a j v) = mSc M := rfl
theorem e_mSc_alO (M : Mem) (q c : Nat) : mSc (alO M q c) = mSc M := rfl
theorem e_mSc_alA (M : Mem) (q c n : Nat) : mSc (alA M q c n) = mSc M := rfl

/-- a memory with a new team's two rows -/
def Tnew (M : Mem) (q : Nat) (n l : Int32) (M' : Mem) (q1 q2 : Nat) : Prop :=
  (q1 ∉ mL M ∧ q2 ∉ mL M ∧ ¬ q2 = q1) ∧ mSc M' = mSc M ∧ (∀ a, a ∈ mL M → a ∈ mL M') ∧ (∀ a, ¬ a = q → ¬ a = q1 → ¬ a = q2 → mK M' a = mK M a ∧ mN M' a = mN M a ∧ mI M' a = mI M a ∧ mJ M' a = mJ M a ∧ mR M' a = mR M a) ∧
  ob M' q 8 ∧ (mR M' q 2 = some q1 ∧ ob M' q1 15 ∧ mN M' q1 = 4) ∧ (mR M' q 3 = some q2 ∧ ob M' q2 15 ∧ mN M' q2 = 7) ∧ mI M' q 0 = n ∧ mI M' q 1 = l ∧ (∀ k, 4 ≤ k → mI M' q k = mI M q k) ∧ ∀ k, mI M' q1 k = 0
theorem Tnew_of {M : Mem} {q q1 q2 : Nat} {n l : Int32} (ho : ob M q 8) (h1 : q1 ∉ mL M) (h2 : q2 ∉ mL M) (h3 : ¬ q2 = q1) : Tnew M q n l (sI (sI (sR (alA (sR (alA M q1 15 4) q 2 (some q1)) q2 15 7) q 3 (some q2)) q 0 n) q 1 l) q1 q2 := by
  have n1 : ¬ q = q1 := fun z => h1 (z ▸ ho.1)
  have n2 : ¬ q = q2 := fun z => h2 (z ▸ ho.1)
  have n1' : ¬ q1 = q := fun z => n1 z.symm
  have n2' : ¬ q2 = q := fun z => n2 z.symm
  have n3' : ¬ q1 = q2 := fun z => h3 z.symm
  unfold Tnew ob
  simp only [e_mL_sI, e_mL_sR, e_mL_alO, e_mL_alA, e_mK_sI, e_mK_sR, e_mK_alO, e_mK_alA, e_mN_sI, e_mN_sR, e_mN_alO, e_mN_alA, e_mI_sI, e_mI_sR, e_mI_alO, e_mI_alA, e_mJ_sI, e_mJ_sR, e_mJ_alO, e_mJ_alA, e_mR_sI, e_mR_sR, e_mR_alO, e_mR_alA, e_mSc_sI, e_mSc_sR, e_mSc_alO, e_mSc_alA]
  refine ⟨⟨h1, h2, h3⟩, trivial, fun a ha => List.mem_append_left _ (List.mem_append_left _ ha), fun a z0 z1 z2 => ⟨?_, ?_, ?_, ?_, ?_⟩, ⟨List.mem_append_left _ (List.mem_append_left _ ho.1), ?_⟩, ⟨?_, ⟨List.mem_append_left _ (List.mem_append_right _ List.mem_cons_self), ?_⟩, ?_⟩, ⟨?_, ⟨List.mem_append_right _ List.mem_cons_self, ?_⟩, ?_⟩, ?_, ?_, fun k k1 => ?_, fun k => ?_⟩
  · rw [va_up_o z2, va_up_o z1]
  · rw [va_up_o z2, va_up_o z1]
  · rw [up2_row z0, up2_row z0, va_up_o z2, va_up_o z1]
  · rw [va_up_o z2, va_up_o z1]
  · rw [up2_row z0, va_up_o z2, up2_row z0, va_up_o z1]
  · rw [va_up_o n2, va_up_o n1]; exact ho.2
  · rw [up2_n _ _ (fun z => absurd z.2 (by decide)), va_up_o n2]; exact up2_s _ _ _ _
  · rw [va_up_o n3']; simp [va_up]
  · rw [va_up_o n3']; simp [va_up]
  · exact up2_s _ _ _ _
  · simp [va_up]
  · simp [va_up]
  · rw [up2_n _ _ (fun z => absurd z.2 (by decide))]; exact up2_s _ _ _ _
  · exact up2_s _ _ _ _
  · rw [up2_n _ _ (fun z => by omega), up2_n _ _ (fun z => by omega), va_up_o n2, va_up_o n1]
  · rw [up2_n _ _ (fun z => n1' z.1), up2_n _ _ (fun z => n1' z.1), va_up_o n3']; simp [va_up]
set_option maxRecDepth 100000 in
theorem s_Te_init {d : Nat} {M : Mem} {q : Nat} {n l : Int32} {R : Option Value → Mem → Prop} (hd : 1 ≤ d) (ho : ob M q 8) (hR : ∀ q1 q2 M', Tnew M q n l M' q1 q2 → R none M') : Call d 70 [.ref q, .int n, .int l] M R := by
  show Go d 70 2 11 0 [.ref q, .int n, .int l] [] M R
  refine go_blk 1 [] (pc' := 1) (vs' := [.ref q, .int n, .int l]) (st' := [.ref q]) (M' := M) (ps := []) rfl trivial ?_
  refine go_obj rfl (by omega) (by decide) ?_
  refine go_blk 2 [] (pc' := 6) (vs' := [.ref q, .int n, .int l]) (st' := [.int 4, .ref q]) (M' := M) (ps := []) rfl trivial ?_
  refine go_newa rfl (by decide) (by decide) (by decide) (by decide) (fun q1 h1 => ?_)
  have n1 : ¬ q = q1 := fun z => h1 (z ▸ ho.1)
  show Go d 70 1 7 8 [.ref q, .int n, .int l] [.ref q1, .ref q] (alA M q1 15 4) R
  refine go_blk 3 [] (pc' := 14) (vs' := [.ref q, .int n, .int l]) (st' := [.int 7, .ref q]) (M' := sR (alA M q1 15 4) q 2 (some q1)) (ps := [ob (alA M q1 15 4) q 8]) rfl ⟨alA_old ho n1, trivial⟩ ?_
  refine go_newa rfl (by decide) (by decide) (by decide) (by decide) (fun q2 h2 => ?_)
  have h2' : q2 ∉ mL M ++ [q1] := h2
  have h3 : q2 ∉ mL M := fun z => h2' (List.mem_append_left _ z)
  have n3 : ¬ q2 = q1 := fun z => h2' (List.mem_append_right _ (by rw [z]; exact List.mem_cons_self))
  have n2 : ¬ q = q2 := fun z => h3 (z ▸ ho.1)
  have ob2 : ob (alA (sR (alA M q1 15 4) q 2 (some q1)) q2 15 7) q 8 := alA_old (n := 7) (alA_old (n := 4) ho n1) n2
  show Go d 70 0 0 16 [.ref q, .int n, .int l] [.ref q2, .ref q] (alA (sR (alA M q1 15 4) q 2 (some q1)) q2 15 7) R
  refine go_blk 7 [] (pc' := 29) (vs' := [.ref q, .int n, .int l]) (st' := []) (M' := sI (sI (sR (alA (sR (alA M q1 15 4) q 2 (some q1)) q2 15 7) q 3 (some q2)) q 0 n) q 1 l) (ps := [ob (alA (sR (alA M q1 15 4) q 2 (some q1)) q2 15 7) q 8, ob (sR (alA (sR (alA M q1 15 4) q 2 (some q1)) q2 15 7) q 3 (some q2)) q 8, ob (sI (sR (alA (sR (alA M q1 15 4) q 2 (some q1)) q2 15 7) q 3 (some q2)) q 0 n) q 8]) rfl ⟨ob2, ob2, ob2, trivial⟩ ?_
  exact go_vret rfl rfl (hR q1 q2 _ (Tnew_of ho h1 h3 n3))

set_option maxHeartbeats 20000000 in
set_option maxRecDepth 100000 in
theorem op10c {M : Mem} {ad : Nat → Nat → Nat} {nc nb nt wk nw nx nl ne nk kd x o u : Nat} {sc : Nat × Nat × (Nat → Int32)} {R : Option Value → Mem → Prop} {p1 : Nat} (hx : ad 0 0 = x) (ho : ad 10 0 = o) (hu : ad 0 40 = u) (hsc : mSc M = sc) (hW : WI M ad nc nb nt wk nw nx nl ne nk kd false) (hn : nt < 3) (g1 : 12 ≤ p1) (g2 : p1 ≤ 30) (fT : mR M (ad 0 3) nt = some (ad 3 nt) ∧ ob M (ad 3 nt) 8 ∧ (mR M (ad 3 nt) 2 = some (ad 4 nt) ∧ ob M (ad 4 nt) 15 ∧ mN M (ad 4 nt) = 4) ∧ mR M (ad 3 nt) 3 = some (ad 5 nt) ∧ ob M (ad 5 nt) 15 ∧ mN M (ad 5 nt) = 7) (f0 : mI M (ad 3 nt) 0 = nI nt) (f1 : mI M (ad 3 nt) 1 = nI p1) (fz : ∀ k, 4 ≤ k → k < 11 → mI M (ad 3 nt) k = 0) (f4 : ∀ k, k < 4 → mI M (ad 4 nt) k = 0) (K : ∀ (r : Int32) (M1 : Mem), ob M1 o 12 → mSc M1 = mSc M → (∀ R2 : Option Value → Mem → Prop, (∀ M2, II x o u sc M2 → R2 (some (.int r)) M2) → Call 1311 204 (.ref o :: [.int (nI p1)]) M1 R2) → R (some (.int r)) M1) : Go 1311 126 0 0 49 [.ref x, .int (nI p1)] [] M R := by
  subst hx ho hu
  obtain ⟨hi, ⟨hF, hM, hC, hB, hT, hX⟩, ⟨iS, iC, iB, iR, iL, iT⟩, ⟨jO, jR, jB, jX, jL⟩, kO, kC, kD, kP, kX⟩ := id hW
  obtain ⟨⟨nc1, nc2, nc3⟩, ⟨nb1, nb2, nb3⟩, ⟨nt1, nt2, nt3⟩, ⟨wk1, wk2, wk3⟩, ⟨nw1, nw2, nw3⟩, ⟨op1, op2, op3⟩, ncm, ncm1, ncm2, ncm3⟩ := id iS
  simp only [vw] at nc1 nc2 nb1 nb2 nt1 nt2 wk1 wk2 nw1 nw2 op1 op2 ncm2 ncm3
  replace op1 : mI M (ad 0 0) 8 = 0 := op1
  replace op2 : mI M (ad 10 0) 21 = 0 := op2
  have hn3 : ¬ ((nI nt) = 3) := fun z => by have := (nI_eqs (a := nt) (b := 3) (by omega) (by decide)).mp z; omega
  have hT2 : Ts M ad (nt + 1) := fun t ht => by
    by_cases htn : t = nt
    · subst htn; exact fT
    · exact hT t (by omega)
  show Go 1311 126 0 0 49 [.ref (ad 0 0), .int (nI p1)] [] (mm M (mI M) (mJ M)) R
  refine go_blk 10 [some (.int (nI nt)), some (.int ((nI nt) + 1))] (pc' := 65) (vs' := [.ref (ad 0 0), .int (nI p1)]) (st' := [.int (((nI nt) + 1) - 1)]) (M' := mm M (up2 (mI M) (ad 0 0) 5 ((nI nt) + 1)) (mJ M)) (ps := [(.ref (ad 0 0) : Value).category = 1, ob (mm M (mI M) (mJ M)) (ad 0 0) 11, (Value.int ((mI M) (ad 0 0) 5)) = .int (nI nt), ob (mm M (mI M) (mJ M)) (ad 0 0) 11, ob (mm M (up2 (mI M) (ad 0 0) 5 ((nI nt) + 1)) (mJ M)) (ad 0 0) 11, (Value.int ((up2 (mI M) (ad 0 0) 5 ((nI nt) + 1)) (ad 0 0) 5)) = .int ((nI nt) + 1)]) rfl ⟨rfl, (hF.o 0), congrArg Value.int nt1, (hF.o 0), (hF.o 0), congrArg Value.int (up2_s _ _ _ _), trivial⟩ ?_
  refine go_iret rfl rfl ?_
  refine K _ _ hM.1 rfl (fun R2 h2 => ?_)
  show Go 1311 204 0 0 0 [.ref (ad 10 0), .int (nI p1)] [] (mm M (up2 (mI M) (ad 0 0) 5 ((nI nt) + 1)) (mJ M)) R2
  refine go_blk 5 [some (.int 0)] (pc' := 9) (vs' := [.ref (ad 10 0), .int (nI p1)]) (st' := [.int 0]) (M' := mm M (up2 (up2 (mI M) (ad 0 0) 5 ((nI nt) + 1)) (ad 10 0) 0 0) (mJ M)) (ps := [ob (mm M (up2 (mI M) (ad 0 0) 5 ((nI nt) + 1)) (mJ M)) (ad 10 0) 12, ob (mm M (up2 (up2 (mI M) (ad 0 0) 5 ((nI nt) + 1)) (ad 10 0) 0 0) (mJ M)) (ad 10 0) 12, (Value.int ((up2 (up2 (mI M) (ad 0 0) 5 ((nI nt) + 1)) (ad 10 0) 0 0) (ad 10 0) 21)) = .int 0]) rfl ⟨hM.1, hM.1, congrArg Value.int (((up2_n _ _ (fun z => absurd z.2 (by decide))).trans ((up2_n _ _ (fun z => absurd (hi _ _ _ _ z.1).1 (by decide))).trans (rfl))).trans op2), trivial⟩ ?_
  refine go_if rfl (fun (z : ¬ (0 : Int32) = 0) => absurd z (show ¬ (¬ (0 : Int32) = 0) from (by decide))) (fun _ => ?_)
  refine go_blk 3 [some (.int (nI nt))] (pc' := 17) (vs' := [.ref (ad 10 0), .int (nI p1)]) (st' := [.int 3, .int (nI nt)]) (M' := mm M (up2 (up2 (mI M) (ad 0 0) 5 ((nI nt) + 1)) (ad 10 0) 0 0) (mJ M)) (ps := [ob (mm M (up2 (up2 (mI M) (ad 0 0) 5 ((nI nt) + 1)) (ad 10 0) 0 0) (mJ M)) (ad 10 0) 12, (Value.int ((up2 (up2 (mI M) (ad 0 0) 5 ((nI nt) + 1)) (ad 10 0) 0 0) (ad 10 0) 30)) = .int (nI nt)]) rfl ⟨hM.1, congrArg Value.int (((up2_n _ _ (fun z => absurd z.2 (by decide))).trans ((up2_n _ _ (fun z => absurd (hi _ _ _ _ z.1).1 (by decide))).trans (rfl))).trans nt2), trivial⟩ ?_
  refine go_icmp rfl (fun (z : (nI nt) = 3) => absurd z (show ¬ ((nI nt) = 3) from hn3)) (fun _ => ?_)
  refine go_blk 3 [] (pc' := 25) (vs' := [.ref (ad 10 0), .int (nI p1)]) (st' := [.int 30, .int 12, .int (nI p1)]) (M' := mm M (up2 (up2 (mI M) (ad 0 0) 5 ((nI nt) + 1)) (ad 10 0) 0 0) (mJ M)) (ps := []) rfl trivial ?_
  refine go_callS rfl (by decide) rfl rfl (by omega) rfl (by decide) (by decide) ?_
  refine s_Mo_isInK 12 30 (by decide) (by decide) (fun j1 hl1 hj1 hx1 => ⟨ne_i, ?_⟩) (fun c1 => ⟨ne_i, ?_⟩)
  · -- 1
    show Go 1311 204 0 0 28 [.ref (ad 10 0), .int (nI p1)] [.int 1] (mm M (up2 (up2 (mI M) (ad 0 0) 5 ((nI nt) + 1)) (ad 10 0) 0 0) (mJ M)) R2
    refine go_if rfl (fun _ => ?_) (fun (z : ¬ (¬ (1 : Int32) = 0)) => absurd (show ¬ (1 : Int32) = 0 from (by decide)) z)
    refine go_blk 16 [some (.ref (ad 9 28)), some (.int (nI nt)), some (.int (nI nt)), some (.int ((nI nt) + 1))] (pc' := 59) (vs' := [.ref (ad 10 0), .int (nI p1)]) (st' := [.int (((nI nt) + 1) - 1)]) (M' := mm M (up2 (up2 (up2 (up2 (mI M) (ad 0 0) 5 ((nI nt) + 1)) (ad 10 0) 0 0) (ad 9 28) ((nI nt).toNatClampNeg) (nI p1)) (ad 10 0) 30 ((nI nt) + 1)) (mJ M)) (ps := [ob (mm M (up2 (up2 (mI M) (ad 0 0) 5 ((nI nt) + 1)) (ad 10 0) 0 0) (mJ M)) (ad 10 0) 12, mR (mm M (up2 (up2 (mI M) (ad 0 0) 5 ((nI nt) + 1)) (ad 10 0) 0 0) (mJ M)) (ad 10 0) 28 = some (ad 9 28), va_rf (some (ad 9 28)) = .ref (ad 9 28), ob (mm M (up2 (up2 (mI M) (ad 0 0) 5 ((nI nt) + 1)) (ad 10 0) 0 0) (mJ M)) (ad 10 0) 12, (Value.int ((up2 (up2 (mI M) (ad 0 0) 5 ((nI nt) + 1)) (ad 10 0) 0 0) (ad 10 0) 30)) = .int (nI nt), ob (mm M (up2 (up2 (mI M) (ad 0 0) 5 ((nI nt) + 1)) (ad 10 0) 0 0) (mJ M)) (ad 9 28) 15, vp_in (nI nt) (mN (mm M (up2 (up2 (mI M) (ad 0 0) 5 ((nI nt) + 1)) (ad 10 0) 0 0) (mJ M)) (ad 9 28)), (.ref (ad 10 0) : Value).category = 1, ob (mm M (up2 (up2 (up2 (mI M) (ad 0 0) 5 ((nI nt) + 1)) (ad 10 0) 0 0) (ad 9 28) ((nI nt).toNatClampNeg) (nI p1)) (mJ M)) (ad 10 0) 12, (Value.int ((up2 (up2 (up2 (mI M) (ad 0 0) 5 ((nI nt) + 1)) (ad 10 0) 0 0) (ad 9 28) ((nI nt).toNatClampNeg) (nI p1)) (ad 10 0) 30)) = .int (nI nt), ob (mm M (up2 (up2 (up2 (mI M) (ad 0 0) 5 ((nI nt) + 1)) (ad 10 0) 0 0) (ad 9 28) ((nI nt).toNatClampNeg) (nI p1)) (mJ M)) (ad 10 0) 12, ob (mm M (up2 (up2 (up2 (up2 (mI M) (ad 0 0) 5 ((nI nt) + 1)) (ad 10 0) 0 0) (ad 9 28) ((nI nt).toNatClampNeg) (nI p1)) (ad 10 0) 30 ((nI nt) + 1)) (mJ M)) (ad 10 0) 12, (Value.int ((up2 (up2 (up2 (up2 (mI M) (ad 0 0) 5 ((nI nt) + 1)) (ad 10 0) 0 0) (ad 9 28) ((nI nt).toNatClampNeg) (nI p1)) (ad 10 0) 30 ((nI nt) + 1)) (ad 10 0) 30)) = .int ((nI nt) + 1)]) rfl ⟨hM.1, (hM.r 28 15 3), rfl, hM.1, congrArg Value.int (((up2_n _ _ (fun z => absurd z.2 (by decide))).trans ((up2_n _ _ (fun z => absurd (hi _ _ _ _ z.1).1 (by decide))).trans (rfl))).trans nt2), (hM.o 28 15 3), (vpi (hM.n 28 15 3) (by omega)), rfl, hM.1, congrArg Value.int (((up2_n _ _ (fun z => absurd (hi _ _ _ _ z.1).1 (by decide))).trans ((up2_n _ _ (fun z => absurd z.2 (by decide))).trans ((up2_n _ _ (fun z => absurd (hi _ _ _ _ z.1).1 (by decide))).trans (rfl)))).trans nt2), hM.1, hM.1, congrArg Value.int (up2_s _ _ _ _), trivial⟩ ?_
    rw [nI_clamp (n := nt) (by omega)]
    refine go_iret rfl rfl ?_
    have ch : ∀ t i k, ¬ ((t = 0 ∧ i = 0 ∧ k = 5) ∨ (t = 10 ∧ i = 0 ∧ k = 0) ∨ (t = 9 ∧ i = 28 ∧ k = nt) ∨ (t = 10 ∧ i = 0 ∧ k = 30)) → vw ad (up2 (up2 (up2 (up2 (mI M) (ad 0 0) 5 ((nI nt) + 1)) (ad 10 0) 0 0) (ad 9 28) (nt) (nI p1)) (ad 10 0) 30 ((nI nt) + 1)) t i k = vw ad (mI M) t i k := by
      intro t i k hn
      simp only [vw_up2 hi]
      rw [up3_n _ _ (fun z => hn (Or.inr (Or.inr (Or.inr z)))), up3_n _ _ (fun z => hn (Or.inr (Or.inr (Or.inl z)))), up3_n _ _ (fun z => hn (Or.inr (Or.inl z))), up3_n _ _ (fun z => hn (Or.inl z))]
    have chj : ∀ t i k, ¬ ((t = 1000 ∧ i = 0 ∧ k = 0)) → vw ad (mJ M) t i k = vw ad (mJ M) t i k := by
      intro t i k hn
      rfl
    have eJ1 : eJ nb (vw ad (mI M)) (vw ad (up2 (up2 (up2 (up2 (mI M) (ad 0 0) 5 ((nI nt) + 1)) (ad 10 0) 0 0) (ad 9 28) (nt) (nI p1)) (ad 10 0) 30 ((nI nt) + 1))) := fun i k h => ch 9 i k (by omega)
    have qa : vw ad (up2 (up2 (up2 (up2 (mI M) (ad 0 0) 5 ((nI nt) + 1)) (ad 10 0) 0 0) (ad 9 28) (nt) (nI p1)) (ad 10 0) 30 ((nI nt) + 1)) 0 0 5 = nI (nt + 1) := by simp only [vw_up2 hi]; simp [up3]; exact nI_add nt 1
    have qb : vw ad (up2 (up2 (up2 (up2 (mI M) (ad 0 0) 5 ((nI nt) + 1)) (ad 10 0) 0 0) (ad 9 28) (nt) (nI p1)) (ad 10 0) 30 ((nI nt) + 1)) 10 0 30 = nI (nt + 1) := by simp only [vw_up2 hi]; simp [up3]; exact nI_add nt 1
    have q28 : vw ad (up2 (up2 (up2 (up2 (mI M) (ad 0 0) 5 ((nI nt) + 1)) (ad 10 0) 0 0) (ad 9 28) (nt) (nI p1)) (ad 10 0) 30 ((nI nt) + 1)) 9 28 nt = nI p1 := by simp only [vw_up2 hi]; simp [up3]
    refine h2 _ ⟨hsc, ad, nc, nb, (nt + 1), wk, nw, nx, nl, ne, nk, kd, false, rfl, rfl, rfl, hi, ⟨hF, hM, hC, hB, hT2, hX⟩, ⟨iS.nt1 hn (fun t k h => ch t 0 k (by omega)) qa qb, iC.congr nc3 (fun t i k h => ch t i k (by omega)) (fun c hc => chj 1 c 4 (by omega)), iB.congr (fun t i k h => ch t i k (by omega)), iR.congr (fun t i k h => ch t i k (by omega)), iL.congr (fun t i k h => ch t i k (by omega)), iT.nt1 hn (fun t i k h => ch t i k (by omega)) ⟨ncm, ncm1, ncm3⟩ ⟨(ch 3 nt 0 (by omega)).trans f0, ((ch 3 nt 1 (by omega)).trans f1).trans q28.symm, ⟨p1, g1, g2, q28⟩⟩ (fun k k1 k2 => (ch 3 nt k (by omega)).trans (fz k k1 k2)) (fun k k1 => (ch 4 nt k (by omega)).trans (f4 k k1))⟩, ⟨(jO.congr eJ1 (fun b k _ _ _ => ch 6 b k (by omega))).ntm (by omega), jR.congr eJ1, jB.congr nb3 (fun t i k h => ch t i k (by omega)), jX.congr (fun t i k h => ch t i k (by omega)), jL.congr eJ1 (fun b k _ _ _ => ch 6 b k (by omega)) (fun t i k h => ch t i k (by omega))⟩, kO.congr iB wk3 (fun t i k h => ch t i k (by omega)) (fun b _ _ => ch 6 b 8 (by omega)), kC.congr (fun t i k h => ch t i k (by omega)) ⟨chj 0 0 12 (by omega), chj 10 0 99 (by omega)⟩, IDy.sh (nt' := nt) (nc' := nc), kP.off (ch 0 7 19 (by omega)), kX.congr (fun t i k h => ch t i k (by omega))⟩
  · exact absurd ⟨p1, g1, g2, rfl⟩ c1

set_option maxHeartbeats 20000000 in
set_option maxRecDepth 100000 in
theorem op10 {x o u : Nat} {sc : Nat × Nat × (Nat → Int32)} : Op10 (II x o u sc) x o := by
  intro M a1 hI R K
  obtain ⟨hsc, ad, nc, nb, nt, wk, nw, nx, nl, ne, nk, kd, op, rfl, rfl, rfl, hW⟩ := hI
  obtain ⟨hi, ⟨hF, hM, hC, hB, hT, hX⟩, ⟨iS, iC, iB, iR, iL, iT⟩, ⟨jO, jR, jB, jX, jL⟩, kO, kC, kD, kP, kX⟩ := id hW
  obtain ⟨⟨nc1, nc2, nc3⟩, ⟨nb1, nb2, nb3⟩, ⟨nt1, nt2, nt3⟩, ⟨wk1, wk2, wk3⟩, ⟨nw1, nw2, nw3⟩, ⟨op1, op2, op3⟩, ncm, ncm1, ncm2, ncm3⟩ := id iS
  simp only [vw] at nc1 nc2 nb1 nb2 nt1 nt2 wk1 wk2 nw1 nw2 op1 op2 ncm2 ncm3
  obtain ⟨nn, nn3, nn1, nn2, nnb⟩ := jX.2.1
  simp only [vw] at nn1 nn2
  have nl3 := jL.1.2.2.1
  have nx3 := jX.1.2.2
  have nk3 := jB.1.2.2.2.2.1
  have ne3 := jB.1.2.2.2.2.2
  rcases op with _ | _
  · replace op1 : mI M (ad 0 0) 8 = 0 := op1
    replace op2 : mI M (ad 10 0) 21 = 0 := op2
    show Go 1311 126 3 22 0 [.ref (ad 0 0), .int a1] [] (mm M (mI M) (mJ M)) R
    refine go_blk 3 [] (pc' := 5) (vs' := [.ref (ad 0 0), .int a1]) (st' := [.int 30, .int 12, .int a1]) (M' := mm M (mI M) (mJ M)) (ps := []) rfl trivial ?_
    refine go_callS rfl (by decide) rfl rfl (by omega) rfl (by decide) (by decide) ?_
    refine s_CY_withinK 12 30 (by decide) (by decide) (fun j1 hl1 hj1 hx1 => ⟨ne_i, ?_⟩) (fun c1 => ⟨ne_i, ?_⟩)
    · -- 1
      subst hx1
      show Go 1311 126 3 22 8 [.ref (ad 0 0), .int (nI j1)] [.int 1] (mm M (mI M) (mJ M)) R
      refine go_if rfl (fun (z : (1 : Int32) = 0) => absurd z (show ¬ ((1 : Int32) = 0) from (by decide))) (fun _ => ?_)
      refine go_blk 2 [some (.int 0)] (pc' := 15) (vs' := [.ref (ad 0 0), .int (nI j1)]) (st' := [.int 0]) (M' := mm M (mI M) (mJ M)) (ps := [ob (mm M (mI M) (mJ M)) (ad 0 0) 11, (Value.int ((mI M) (ad 0 0) 8)) = .int 0]) rfl ⟨(hF.o 0), congrArg Value.int op1, trivial⟩ ?_
      refine go_if rfl (fun (z : ¬ (0 : Int32) = 0) => absurd z (show ¬ (¬ (0 : Int32) = 0) from (by decide))) (fun _ => ?_)
      refine go_blk 3 [some (.int (nI nt))] (pc' := 23) (vs' := [.ref (ad 0 0), .int (nI j1)]) (st' := [.int 3, .int (nI nt)]) (M' := mm M (mI M) (mJ M)) (ps := [ob (mm M (mI M) (mJ M)) (ad 0 0) 11, (Value.int ((mI M) (ad 0 0) 5)) = .int (nI nt)]) rfl ⟨(hF.o 0), congrArg Value.int nt1, trivial⟩ ?_
      refine go_icmp rfl (fun (c2 : (nI nt) < 3) => ?_) (fun (c2 : ¬ ((nI nt) < 3)) => ?_)
      · -- (nI nt) < 3
        have nc2 : nt < 3 := (nI_lts (a := nt) (b := 3) (by omega) (by omega)).mp c2
        refine go_blk 4 [some (.ref (ad 0 3)), some (.int (nI nt))] (pc' := 36) (vs' := [.ref (ad 0 0), .int (nI j1)]) (st' := [.int (nI nt), .ref (ad 0 3)]) (M' := mm M (mI M) (mJ M)) (ps := [ob (mm M (mI M) (mJ M)) (ad 0 0) 11, mR (mm M (mI M) (mJ M)) (ad 0 0) 4 = some (ad 0 3), va_rf (some (ad 0 3)) = .ref (ad 0 3), ob (mm M (mI M) (mJ M)) (ad 0 0) 11, (Value.int ((mI M) (ad 0 0) 5)) = .int (nI nt)]) rfl ⟨(hF.o 0), (hF.r 0 4 3), rfl, (hF.o 0), congrArg Value.int nt1, trivial⟩ ?_
        refine go_new rfl (by decide) (by decide) (by decide) (fun q hq => ?_)
        have hqu : ∀ t i, Us nc nb nt nx t i → ¬ ad t i = q := fun t i u z => hq (z ▸ hW.at u)
        show Go 1311 126 2 11 39 [.ref (ad 0 0), .int (nI j1)] [.ref q, .int (nI nt), .ref (ad 0 3)] (alO M q 8) R
        refine go_blk 4 [some (.int (nI nt))] (pc' := 45) (vs' := [.ref (ad 0 0), .int (nI j1)]) (st' := [.int (nI j1), .int (nI nt), .ref q, .ref q, .int (nI nt), .ref (ad 0 3)]) (M' := (alO M q 8)) (ps := [(.ref q : Value).category = 1, ob (alO M q 8) (ad 0 0) 11, (Value.int (mI (alO M q 8) (ad 0 0) 5)) = .int (nI nt)]) rfl ⟨rfl, alO_old (hF.o 0) (hqu 0 0 (show 0 < 41 by decide)), congrArg Value.int ((congrFun (va_up_o (hqu 0 0 (show 0 < 41 by decide))) 5).trans nt1), trivial⟩ ?_
        refine go_callI rfl (by decide) rfl rfl (by omega) rfl (by decide) (by decide) ?_
        refine s_Te_init (by omega) (alO_ob M q 8) (fun q1 q2 Mf hT1 => ⟨rfl, ?_⟩)
        obtain ⟨⟨h1, h2, n21⟩, t1, t2, t3, t4, ⟨t5, t6, t7⟩, ⟨t8, t9, t10⟩, t11, t12, t13, t14⟩ := hT1
        have hq1 : q1 ∉ mL M := fun z => h1 (List.mem_append_left _ z)
        have hq2 : q2 ∉ mL M := fun z => h2 (List.mem_append_left _ z)
        have n1 : ¬ q = q1 := fun z => h1 (List.mem_append_right _ (by rw [z]; exact List.mem_cons_self))
        have n2 : ¬ q = q2 := fun z => h2 (List.mem_append_right _ (by rw [z]; exact List.mem_cons_self))
        have hu1 : ∀ t i, Us nc nb nt nx t i → ¬ ad t i = q1 := fun t i u z => hq1 (z ▸ hW.at u)
        have hu2 : ∀ t i, Us nc nb nt nx t i → ¬ ad t i = q2 := fun t i u z => hq2 (z ▸ hW.at u)
        have hsc2 : mSc Mf = sc := t1.trans hsc
        have mLa : ∀ a, a ∈ mL M → a ∈ mL Mf := fun a z => t2 a (List.mem_append_left _ z)
        have mNa : ∀ a, ¬ a = q → ¬ a = q1 → ¬ a = q2 → mN Mf a = mN M a := fun a z0 z1 z2 => (t3 a z0 z1 z2).2.1
        have mIa : ∀ a, ¬ a = q → ¬ a = q1 → ¬ a = q2 → mI Mf a = mI M a := fun a z0 z1 z2 => (t3 a z0 z1 z2).2.2.1.trans (va_up_o z0)
        have mJa : ∀ a, ¬ a = q → ¬ a = q1 → ¬ a = q2 → mJ Mf a = mJ M a := fun a z0 z1 z2 => (t3 a z0 z1 z2).2.2.2.1.trans (va_up_o z0)
        have mKa : ∀ a, ¬ a = q → ¬ a = q1 → ¬ a = q2 → mK Mf a = mK M a := fun a z0 z1 z2 => (t3 a z0 z1 z2).1.trans (va_up_o z0)
        have mRa : ∀ a, ¬ a = q → ¬ a = q1 → ¬ a = q2 → mR Mf a = mR M a := fun a z0 z1 z2 => (t3 a z0 z1 z2).2.2.2.2.trans (va_up_o z0)
        have o3 : ob Mf (ad 0 3) 20 := ⟨mLa _ (hF.o 3).1, (mKa _ (hqu 0 3 (show 3 < 41 by decide)) (hu1 0 3 (show 3 < 41 by decide)) (hu2 0 3 (show 3 < 41 by decide))).trans (hF.o 3).2⟩
        show Go 1311 126 0 0 48 [.ref (ad 0 0), .int (nI j1)] [.ref q, .int (nI nt), .ref (ad 0 3)] Mf R
        refine go_blk 1 [] (pc' := 49) (vs' := [.ref (ad 0 0), .int (nI j1)]) (st' := []) (M' := sR Mf (ad 0 3) ((nI nt).toNatClampNeg) (some q)) (ps := [ob Mf (ad 0 3) 20, 17 ≤ 20 ∧ 20 < 22, ob Mf q (zaI.getD (20 - 17) 0), vp_in (nI nt) (mN Mf (ad 0 3))]) rfl ⟨o3, (by decide), t4, (vpi ((mNa _ (hqu 0 3 (show 3 < 41 by decide)) (hu1 0 3 (show 3 < 41 by decide)) (hu2 0 3 (show 3 < 41 by decide))).trans (hF.n 3)) (show nt < 3 by omega)), trivial⟩ ?_
        rw [nI_clamp (n := nt) (by omega)]
        have hU : ∀ t i, Us nc nb nt nx t i → (swp (swp (swp ad q 3 nt) q1 4 nt) q2 5 nt) t i = ad t i := fun t i u => by
          have s1 : swp ad q 3 nt t i = ad t i := swp_old (fun z => by obtain ⟨rfl, rfl⟩ := z; exact absurd u (Nat.lt_irrefl _)) (hqu t i u)
          have s2 : swp (swp ad q 3 nt) q1 4 nt t i = ad t i := (swp_old (fun z => by obtain ⟨rfl, rfl⟩ := z; exact absurd u (Nat.lt_irrefl _)) (by rw [s1]; exact hu1 t i u)).trans s1
          exact (swp_old (fun z => by obtain ⟨rfl, rfl⟩ := z; exact absurd u (Nat.lt_irrefl _)) (by rw [s2]; exact hu2 t i u)).trans s2
        have hU6 : ∀ b, b < nb → hJ (vw ad (mI M)) wk false b → (swp (swp (swp ad q 3 nt) q1 4 nt) q2 5 nt) 6 b = ad 6 b := fun b hb hj => by
          have s1 : swp ad q 3 nt 6 b = ad 6 b := swp_old (fun z => by omega) (fun z => hq (z ▸ hW.at6 hb hj))
          have s2 : swp (swp ad q 3 nt) q1 4 nt 6 b = ad 6 b := (swp_old (fun z => by omega) (by rw [s1]; exact fun z => hq1 (z ▸ hW.at6 hb hj))).trans s1
          exact (swp_old (fun z => by omega) (by rw [s2]; exact fun z => hq2 (z ▸ hW.at6 hb hj))).trans s2
        have e3 : (swp (swp (swp ad q 3 nt) q1 4 nt) q2 5 nt) 3 nt = q := by
          have s1 : swp ad q 3 nt 3 nt = q := swp_new ad q 3 nt
          have s2 : swp (swp ad q 3 nt) q1 4 nt 3 nt = q := (swp_old (fun z => by omega) (by rw [s1]; exact n1)).trans s1
          exact (swp_old (fun z => by omega) (by rw [s2]; exact n2)).trans s2
        have e4 : (swp (swp (swp ad q 3 nt) q1 4 nt) q2 5 nt) 4 nt = q1 := by
          have s2 : swp (swp ad q 3 nt) q1 4 nt 4 nt = q1 := swp_new _ q1 4 nt
          exact (swp_old (fun z => by omega) (by rw [s2]; exact fun z => n21 z.symm)).trans s2
        have e5 : (swp (swp (swp ad q 3 nt) q1 4 nt) q2 5 nt) 5 nt = q2 := swp_new _ q2 5 nt
        have e03 : (swp (swp (swp ad q 3 nt) q1 4 nt) q2 5 nt) 0 3 = ad 0 3 := hU 0 3 (show 3 < 41 by decide)
        have hW2 : WI (sR Mf (ad 0 3) nt (some q)) (swp (swp (swp ad q 3 nt) q1 4 nt) q2 5 nt) nc nb nt wk nw nx nl ne nk kd false := by
          refine hW.re (swp_inj (swp_inj (swp_inj hi q 3 nt) q1 4 nt) q2 5 nt) hU hU6 (fun t i u => ?_) (fun b hb hj => ?_) (fun t i k u v => ?_) (fun b k hb hj => ?_)
          · exact ⟨mLa _ (hW.at u), mKa _ (hqu t i u) (hu1 t i u) (hu2 t i u), mNa _ (hqu t i u) (hu1 t i u) (hu2 t i u), mIa _ (hqu t i u) (hu1 t i u) (hu2 t i u), mJa _ (hqu t i u) (hu1 t i u) (hu2 t i u)⟩
          · have z := hW.at6 hb hj
            have z0 : ¬ ad 6 b = q := fun y => hq (y ▸ z)
            have z1 : ¬ ad 6 b = q1 := fun y => hq1 (y ▸ z)
            have z2 : ¬ ad 6 b = q2 := fun y => hq2 (y ▸ z)
            exact ⟨mLa _ z, mKa _ z0 z1 z2, mNa _ z0 z1 z2, mIa _ z0 z1 z2, mJa _ z0 z1 z2⟩
          · exact (up2_n _ _ (fun z => v (by obtain ⟨z1, z2⟩ := hi _ _ _ _ z.1; unfold Xr; omega))).trans (congrFun (mRa _ (hqu t i u) (hu1 t i u) (hu2 t i u)) k)
          · have z := hW.at6 hb hj
            exact (up2_n _ _ (fun z => absurd (hi _ _ _ _ z.1).1 (by decide))).trans (congrFun (mRa _ (fun y => hq (y ▸ z)) (fun y => hq1 (y ▸ z)) (fun y => hq2 (y ▸ z))) k)
        refine op10c (ad := (swp (swp (swp ad q 3 nt) q1 4 nt) q2 5 nt)) (p1 := j1) (hU 0 0 (show 0 < 41 by decide)) (hU 10 0 rfl) (hU 0 40 (show 40 < 41 by decide)) hsc2 hW2 (by omega) (by assumption) (by assumption) ⟨?_, ?_, ⟨?_, ?_, ?_⟩, ?_, ?_, ?_⟩ ?_ ?_ ?_ ?_ (fun r M1 z1 z2 => K r M1 z1 (z2.trans t1))
        · rw [e3, e03]; exact up2_s _ _ _ _
        · rw [e3]; exact t4
        · rw [e3, e4]; exact (up2_n _ _ (fun z => (hqu 0 3 (show 3 < 41 by decide)) z.1.symm)).trans t5
        · rw [e4]; exact t6
        · rw [e4]; exact t7
        · rw [e3, e5]; exact (up2_n _ _ (fun z => (hqu 0 3 (show 3 < 41 by decide)) z.1.symm)).trans t8
        · rw [e5]; exact t9
        · rw [e5]; exact t10
        · rw [e3]; exact t11
        · rw [e3]; exact t12
        · intro k k1 k2; rw [e3]; exact (t13 k k1).trans (by show va_up (mI M) q (fun _ => 0) q k = 0; simp [va_up])
        · intro k k1; rw [e4]; exact t14 k
        
      · -- ¬ ((nI nt) < 3)
        have nc2 : 3 ≤ nt := (nI_les (a := 3) (b := nt) (by omega) (by omega)).mp (Int32.not_lt.mp c2)
        refine go_blk 1 [] (pc' := 27) (vs' := [.ref (ad 0 0), .int (nI j1)]) (st' := [.int (-1)]) (M' := mm M (mI M) (mJ M)) (ps := []) rfl trivial ?_
        refine go_iret rfl rfl ?_
        refine K _ _ hM.1 rfl (fun R2 h2 => ?_)
        show Go 1311 204 0 0 0 [.ref (ad 10 0), .int (nI j1)] [] (mm M (mI M) (mJ M)) R2
        refine go_blk 5 [some (.int 0)] (pc' := 9) (vs' := [.ref (ad 10 0), .int (nI j1)]) (st' := [.int 0]) (M' := mm M (up2 (mI M) (ad 10 0) 0 0) (mJ M)) (ps := [ob (mm M (mI M) (mJ M)) (ad 10 0) 12, ob (mm M (up2 (mI M) (ad 10 0) 0 0) (mJ M)) (ad 10 0) 12, (Value.int ((up2 (mI M) (ad 10 0) 0 0) (ad 10 0) 21)) = .int 0]) rfl ⟨hM.1, hM.1, congrArg Value.int (((up2_n _ _ (fun z => absurd z.2 (by decide))).trans (rfl)).trans op2), trivial⟩ ?_
        refine go_if rfl (fun (z : ¬ (0 : Int32) = 0) => absurd z (show ¬ (¬ (0 : Int32) = 0) from (by decide))) (fun _ => ?_)
        refine go_blk 3 [some (.int (nI nt))] (pc' := 17) (vs' := [.ref (ad 10 0), .int (nI j1)]) (st' := [.int 3, .int (nI nt)]) (M' := mm M (up2 (mI M) (ad 10 0) 0 0) (mJ M)) (ps := [ob (mm M (up2 (mI M) (ad 10 0) 0 0) (mJ M)) (ad 10 0) 12, (Value.int ((up2 (mI M) (ad 10 0) 0 0) (ad 10 0) 30)) = .int (nI nt)]) rfl ⟨hM.1, congrArg Value.int (((up2_n _ _ (fun z => absurd z.2 (by decide))).trans (rfl)).trans nt2), trivial⟩ ?_
        refine go_icmp rfl (fun (c3 : (nI nt) = 3) => ?_) (fun (c3 : ¬ ((nI nt) = 3)) => ?_)
        · -- (nI nt) = 3
          have nc3 : nt = 3 := (nI_eqs (a := nt) (b := 3) (by omega) (by omega)).mp c3
          refine go_blk 1 [] (pc' := 32) (vs' := [.ref (ad 10 0), .int (nI j1)]) (st' := [.int (-1)]) (M' := mm M (up2 (mI M) (ad 10 0) 0 0) (mJ M)) (ps := []) rfl trivial ?_
          refine go_iret rfl rfl ?_
          exact h2 _ ⟨hsc, ad, nc, nb, nt, wk, nw, nx, nl, ne, nk, kd, false, rfl, rfl, rfl, hW.thr⟩
        · -- ¬ ((nI nt) = 3)
          have nc3 : ¬ nt = 3 := fun q => c3 ((nI_eqs (a := nt) (b := 3) (by omega) (by omega)).mpr q)
          refine go_blk 3 [] (pc' := 25) (vs' := [.ref (ad 10 0), .int (nI j1)]) (st' := [.int 30, .int 12, .int (nI j1)]) (M' := mm M (up2 (mI M) (ad 10 0) 0 0) (mJ M)) (ps := []) rfl trivial ?_
          refine go_callS rfl (by decide) rfl rfl (by omega) rfl (by decide) (by decide) ?_
          refine s_Mo_isInK 12 30 (by decide) (by decide) (fun j4 hl4 hj4 hx4 => ⟨ne_i, ?_⟩) (fun c4 => ⟨ne_i, ?_⟩)
          · -- 1
            show Go 1311 204 0 0 28 [.ref (ad 10 0), .int (nI j1)] [.int 1] (mm M (up2 (mI M) (ad 10 0) 0 0) (mJ M)) R2
            refine go_if rfl (fun _ => ?_) (fun (z : ¬ (¬ (1 : Int32) = 0)) => absurd (show ¬ (1 : Int32) = 0 from (by decide)) z)
            refine go_blk 16 [some (.ref (ad 9 28)), some (.int (nI nt)), some (.int (nI nt)), some (.int ((nI nt) + 1))] (pc' := 59) (vs' := [.ref (ad 10 0), .int (nI j1)]) (st' := [.int (((nI nt) + 1) - 1)]) (M' := mm M (up2 (up2 (up2 (mI M) (ad 10 0) 0 0) (ad 9 28) ((nI nt).toNatClampNeg) (nI j1)) (ad 10 0) 30 ((nI nt) + 1)) (mJ M)) (ps := [ob (mm M (up2 (mI M) (ad 10 0) 0 0) (mJ M)) (ad 10 0) 12, mR (mm M (up2 (mI M) (ad 10 0) 0 0) (mJ M)) (ad 10 0) 28 = some (ad 9 28), va_rf (some (ad 9 28)) = .ref (ad 9 28), ob (mm M (up2 (mI M) (ad 10 0) 0 0) (mJ M)) (ad 10 0) 12, (Value.int ((up2 (mI M) (ad 10 0) 0 0) (ad 10 0) 30)) = .int (nI nt), ob (mm M (up2 (mI M) (ad 10 0) 0 0) (mJ M)) (ad 9 28) 15, vp_in (nI nt) (mN (mm M (up2 (mI M) (ad 10 0) 0 0) (mJ M)) (ad 9 28)), (.ref (ad 10 0) : Value).category = 1, ob (mm M (up2 (up2 (mI M) (ad 10 0) 0 0) (ad 9 28) ((nI nt).toNatClampNeg) (nI j1)) (mJ M)) (ad 10 0) 12, (Value.int ((up2 (up2 (mI M) (ad 10 0) 0 0) (ad 9 28) ((nI nt).toNatClampNeg) (nI j1)) (ad 10 0) 30)) = .int (nI nt), ob (mm M (up2 (up2 (mI M) (ad 10 0) 0 0) (ad 9 28) ((nI nt).toNatClampNeg) (nI j1)) (mJ M)) (ad 10 0) 12, ob (mm M (up2 (up2 (up2 (mI M) (ad 10 0) 0 0) (ad 9 28) ((nI nt).toNatClampNeg) (nI j1)) (ad 10 0) 30 ((nI nt) + 1)) (mJ M)) (ad 10 0) 12, (Value.int ((up2 (up2 (up2 (mI M) (ad 10 0) 0 0) (ad 9 28) ((nI nt).toNatClampNeg) (nI j1)) (ad 10 0) 30 ((nI nt) + 1)) (ad 10 0) 30)) = .int ((nI nt) + 1)]) rfl ⟨hM.1, (hM.r 28 15 3), rfl, hM.1, congrArg Value.int (((up2_n _ _ (fun z => absurd z.2 (by decide))).trans (rfl)).trans nt2), (hM.o 28 15 3), (vpi (hM.n 28 15 3) (by omega)), rfl, hM.1, congrArg Value.int (((up2_n _ _ (fun z => absurd (hi _ _ _ _ z.1).1 (by decide))).trans ((up2_n _ _ (fun z => absurd z.2 (by decide))).trans (rfl))).trans nt2), hM.1, hM.1, congrArg Value.int (up2_s _ _ _ _), trivial⟩ ?_
            rw [nI_clamp (n := nt) (by omega)]
            refine go_iret rfl rfl ?_
            exfalso
            clear K h2 hW hsc jO jR jB jX jL kO kC kD kP kX iC iB iR iL iT iS hC hB hT hX hF hM hi
            grind
          · exact absurd ⟨j1, hl1, hj1, rfl⟩ c4
    · -- 0
      show Go 1311 126 3 22 8 [.ref (ad 0 0), .int a1] [.int 0] (mm M (mI M) (mJ M)) R
      refine go_if rfl (fun _ => ?_) (fun (z : ¬ ((0 : Int32) = 0)) => absurd (show (0 : Int32) = 0 from (by decide)) z)
      refine go_blk 1 [] (pc' := 27) (vs' := [.ref (ad 0 0), .int a1]) (st' := [.int (-1)]) (M' := mm M (mI M) (mJ M)) (ps := []) rfl trivial ?_
      refine go_iret rfl rfl ?_
      refine K _ _ hM.1 rfl (fun R2 h2 => ?_)
      show Go 1311 204 0 0 0 [.ref (ad 10 0), .int a1] [] (mm M (mI M) (mJ M)) R2
      refine go_blk 5 [some (.int 0)] (pc' := 9) (vs' := [.ref (ad 10 0), .int a1]) (st' := [.int 0]) (M' := mm M (up2 (mI M) (ad 10 0) 0 0) (mJ M)) (ps := [ob (mm M (mI M) (mJ M)) (ad 10 0) 12, ob (mm M (up2 (mI M) (ad 10 0) 0 0) (mJ M)) (ad 10 0) 12, (Value.int ((up2 (mI M) (ad 10 0) 0 0) (ad 10 0) 21)) = .int 0]) rfl ⟨hM.1, hM.1, congrArg Value.int (((up2_n _ _ (fun z => absurd z.2 (by decide))).trans (rfl)).trans op2), trivial⟩ ?_
      refine go_if rfl (fun (z : ¬ (0 : Int32) = 0) => absurd z (show ¬ (¬ (0 : Int32) = 0) from (by decide))) (fun _ => ?_)
      refine go_blk 3 [some (.int (nI nt))] (pc' := 17) (vs' := [.ref (ad 10 0), .int a1]) (st' := [.int 3, .int (nI nt)]) (M' := mm M (up2 (mI M) (ad 10 0) 0 0) (mJ M)) (ps := [ob (mm M (up2 (mI M) (ad 10 0) 0 0) (mJ M)) (ad 10 0) 12, (Value.int ((up2 (mI M) (ad 10 0) 0 0) (ad 10 0) 30)) = .int (nI nt)]) rfl ⟨hM.1, congrArg Value.int (((up2_n _ _ (fun z => absurd z.2 (by decide))).trans (rfl)).trans nt2), trivial⟩ ?_
      refine go_icmp rfl (fun (c5 : (nI nt) = 3) => ?_) (fun (c5 : ¬ ((nI nt) = 3)) => ?_)
      · -- (nI nt) = 3
        have nc5 : nt = 3 := (nI_eqs (a := nt) (b := 3) (by omega) (by omega)).mp c5
        refine go_blk 1 [] (pc' := 32) (vs' := [.ref (ad 10 0), .int a1]) (st' := [.int (-1)]) (M' := mm M (up2 (mI M) (ad 10 0) 0 0) (mJ M)) (ps := []) rfl trivial ?_
        refine go_iret rfl rfl ?_
        exact h2 _ ⟨hsc, ad, nc, nb, nt, wk, nw, nx, nl, ne, nk, kd, false, rfl, rfl, rfl, hW.thr⟩
      · -- ¬ ((nI nt) = 3)
        have nc5 : ¬ nt = 3 := fun q => c5 ((nI_eqs (a := nt) (b := 3) (by omega) (by omega)).mpr q)
        refine go_blk 3 [] (pc' := 25) (vs' := [.ref (ad 10 0), .int a1]) (st' := [.int 30, .int 12, .int a1]) (M' := mm M (up2 (mI M) (ad 10 0) 0 0) (mJ M)) (ps := []) rfl trivial ?_
        refine go_callS rfl (by decide) rfl rfl (by omega) rfl (by decide) (by decide) ?_
        refine s_Mo_isInK 12 30 (by decide) (by decide) (fun j6 hl6 hj6 hx6 => ⟨ne_i, ?_⟩) (fun c6 => ⟨ne_i, ?_⟩)
        · exact absurd ⟨j6, hl6, hj6, hx6⟩ c1
        · -- 0
          show Go 1311 204 0 0 28 [.ref (ad 10 0), .int a1] [.int 0] (mm M (up2 (mI M) (ad 10 0) 0 0) (mJ M)) R2
          refine go_if rfl (fun (z : ¬ (0 : Int32) = 0) => absurd z (show ¬ (¬ (0 : Int32) = 0) from (by decide))) (fun _ => ?_)
          refine go_blk 1 [] (pc' := 32) (vs' := [.ref (ad 10 0), .int a1]) (st' := [.int (-1)]) (M' := mm M (up2 (mI M) (ad 10 0) 0 0) (mJ M)) (ps := []) rfl trivial ?_
          refine go_iret rfl rfl ?_
          exact h2 _ ⟨hsc, ad, nc, nb, nt, wk, nw, nx, nl, ne, nk, kd, false, rfl, rfl, rfl, hW.thr⟩
  · replace op1 : mI M (ad 0 0) 8 = 1 := op1
    replace op2 : mI M (ad 10 0) 21 = 1 := op2
    replace op3 : wk < 52 := op3 rfl
    show Go 1311 126 3 22 0 [.ref (ad 0 0), .int a1] [] (mm M (mI M) (mJ M)) R
    refine go_blk 3 [] (pc' := 5) (vs' := [.ref (ad 0 0), .int a1]) (st' := [.int 30, .int 12, .int a1]) (M' := mm M (mI M) (mJ M)) (ps := []) rfl trivial ?_
    refine go_callS rfl (by decide) rfl rfl (by omega) rfl (by decide) (by decide) ?_
    refine s_CY_withinK 12 30 (by decide) (by decide) (fun j1 hl1 hj1 hx1 => ⟨ne_i, ?_⟩) (fun c1 => ⟨ne_i, ?_⟩)
    · -- 1
      subst hx1
      show Go 1311 126 3 22 8 [.ref (ad 0 0), .int (nI j1)] [.int 1] (mm M (mI M) (mJ M)) R
      refine go_if rfl (fun (z : (1 : Int32) = 0) => absurd z (show ¬ ((1 : Int32) = 0) from (by decide))) (fun _ => ?_)
      refine go_blk 2 [some (.int 1)] (pc' := 15) (vs' := [.ref (ad 0 0), .int (nI j1)]) (st' := [.int 1]) (M' := mm M (mI M) (mJ M)) (ps := [ob (mm M (mI M) (mJ M)) (ad 0 0) 11, (Value.int ((mI M) (ad 0 0) 8)) = .int 1]) rfl ⟨(hF.o 0), congrArg Value.int op1, trivial⟩ ?_
      refine go_if rfl (fun _ => ?_) (fun (z : ¬ (¬ (1 : Int32) = 0)) => absurd (show ¬ (1 : Int32) = 0 from (by decide)) z)
      refine go_blk 1 [] (pc' := 27) (vs' := [.ref (ad 0 0), .int (nI j1)]) (st' := [.int (-1)]) (M' := mm M (mI M) (mJ M)) (ps := []) rfl trivial ?_
      refine go_iret rfl rfl ?_
      refine K _ _ hM.1 rfl (fun R2 h2 => ?_)
      show Go 1311 204 0 0 0 [.ref (ad 10 0), .int (nI j1)] [] (mm M (mI M) (mJ M)) R2
      refine go_blk 5 [some (.int 1)] (pc' := 9) (vs' := [.ref (ad 10 0), .int (nI j1)]) (st' := [.int 1]) (M' := mm M (up2 (mI M) (ad 10 0) 0 0) (mJ M)) (ps := [ob (mm M (mI M) (mJ M)) (ad 10 0) 12, ob (mm M (up2 (mI M) (ad 10 0) 0 0) (mJ M)) (ad 10 0) 12, (Value.int ((up2 (mI M) (ad 10 0) 0 0) (ad 10 0) 21)) = .int 1]) rfl ⟨hM.1, hM.1, congrArg Value.int (((up2_n _ _ (fun z => absurd z.2 (by decide))).trans (rfl)).trans op2), trivial⟩ ?_
      refine go_if rfl (fun _ => ?_) (fun (z : ¬ (¬ (1 : Int32) = 0)) => absurd (show ¬ (1 : Int32) = 0 from (by decide)) z)
      refine go_blk 1 [] (pc' := 32) (vs' := [.ref (ad 10 0), .int (nI j1)]) (st' := [.int (-1)]) (M' := mm M (up2 (mI M) (ad 10 0) 0 0) (mJ M)) (ps := []) rfl trivial ?_
      refine go_iret rfl rfl ?_
      exact h2 _ ⟨hsc, ad, nc, nb, nt, wk, nw, nx, nl, ne, nk, kd, true, rfl, rfl, rfl, hW.thr⟩
    · -- 0
      show Go 1311 126 3 22 8 [.ref (ad 0 0), .int a1] [.int 0] (mm M (mI M) (mJ M)) R
      refine go_if rfl (fun _ => ?_) (fun (z : ¬ ((0 : Int32) = 0)) => absurd (show (0 : Int32) = 0 from (by decide)) z)
      refine go_blk 1 [] (pc' := 27) (vs' := [.ref (ad 0 0), .int a1]) (st' := [.int (-1)]) (M' := mm M (mI M) (mJ M)) (ps := []) rfl trivial ?_
      refine go_iret rfl rfl ?_
      refine K _ _ hM.1 rfl (fun R2 h2 => ?_)
      show Go 1311 204 0 0 0 [.ref (ad 10 0), .int a1] [] (mm M (mI M) (mJ M)) R2
      refine go_blk 5 [some (.int 1)] (pc' := 9) (vs' := [.ref (ad 10 0), .int a1]) (st' := [.int 1]) (M' := mm M (up2 (mI M) (ad 10 0) 0 0) (mJ M)) (ps := [ob (mm M (mI M) (mJ M)) (ad 10 0) 12, ob (mm M (up2 (mI M) (ad 10 0) 0 0) (mJ M)) (ad 10 0) 12, (Value.int ((up2 (mI M) (ad 10 0) 0 0) (ad 10 0) 21)) = .int 1]) rfl ⟨hM.1, hM.1, congrArg Value.int (((up2_n _ _ (fun z => absurd z.2 (by decide))).trans (rfl)).trans op2), trivial⟩ ?_
      refine go_if rfl (fun _ => ?_) (fun (z : ¬ (¬ (1 : Int32) = 0)) => absurd (show ¬ (1 : Int32) = 0 from (by decide)) z)
      refine go_blk 1 [] (pc' := 32) (vs' := [.ref (ad 10 0), .int a1]) (st' := [.int (-1)]) (M' := mm M (up2 (mI M) (ad 10 0) 0 0) (mJ M)) (ps := []) rfl trivial ?_
      refine go_iret rfl rfl ?_
      exact h2 _ ⟨hsc, ad, nc, nb, nt, wk, nw, nx, nl, ne, nk, kd, true, rfl, rfl, rfl, hW.thr⟩

