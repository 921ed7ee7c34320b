/-! call: terms -/
def Xi (M M' : Mem) (q q1 : Nat) : Prop := q1 ∉ mL M ∧ mSc M' = mSc M ∧ (∀ a, a ∈ mL M → a ∈ mL M') ∧ (∀ a, ¬ a = q → ¬ a = q1 → mK M' a = mK M a ∧ mN M' a = mN M a ∧ mI M' a = mI M a ∧ mJ M' a = mJ M a ∧ mR M' a = mR M a) ∧ ob M' q 9 ∧ mR M' q 0 = some q1 ∧ ob M' q1 15 ∧ mN M' q1 = 120 ∧ mI M' q 1 = mI M q 1
theorem Xi_of {M : Mem} {q q1 : Nat} (ho : ob M q 9) (h1 : q1 ∉ mL M) : Xi M (sI (sI (sR (alA M q1 15 120) q 0 (some q1)) q 2 (-1)) q 3 (-1)) q q1 := by
  have n1 : ¬ q = q1 := fun z => h1 (z ▸ ho.1)
  unfold Xi ob
  simp only [e_mL_sI, e_mL_sR, e_mL_alO, e_mL_alA, e_mK_sI, e_mK_sR, e_mK_alO, e_mK_alA, e_mN_sI, e_mN_sR, e_mN_alO, e_mN_alA, e_mI_sI, e_mI_sR, e_mI_alO, e_mI_alA, e_mJ_sI, e_mJ_sR, e_mJ_alO, e_mJ_alA, e_mR_sI, e_mR_sR, e_mR_alO, e_mR_alA, e_mSc_sI, e_mSc_sR, e_mSc_alO, e_mSc_alA]
  refine ⟨h1, trivial, fun a ha => List.mem_append_left _ ha, fun a z0 z1 => ⟨?_, ?_, ?_, ?_, ?_⟩, ⟨List.mem_append_left _ ho.1, ?_⟩, ?_, ⟨List.mem_append_right _ List.mem_cons_self, ?_⟩, ?_, ?_⟩
  · rw [va_up_o z1]
  · rw [va_up_o z1]
  · rw [up2_row z0, up2_row z0, va_up_o z1]
  · rw [va_up_o z1]
  · rw [up2_row z0, va_up_o z1]
  · rw [va_up_o n1]; exact ho.2
  · exact up2_s _ _ _ _
  · simp [va_up]
  · simp [va_up]
  · rw [up2_n _ _ (fun z => by omega), up2_n _ _ (fun z => by omega), va_up_o n1]
set_option maxRecDepth 100000 in
theorem s_Tx_init {d : Nat} {M : Mem} {q : Nat} {R : Option Value → Mem → Prop} (hd : 1 ≤ d) (ho : ob M q 9) (hR : ∀ q1 M', Xi M M' q q1 → R none M') : Call d 82 [.ref q] M R := by
  show Go d 82 1 120 0 [.ref q] [] M R
  refine go_blk 1 [] (pc' := 1) (vs' := [.ref q]) (st' := [.ref q]) (M' := M) (ps := []) rfl trivial ?_
  refine go_obj rfl (by omega) (by decide) ?_
  refine go_blk 2 [] (pc' := 7) (vs' := [.ref q]) (st' := [.int 120, .ref q]) (M' := M) (ps := []) rfl trivial ?_
  refine go_newa rfl (by decide) (by decide) (by decide) (by decide) (fun q1 h1 => ?_)
  have n1 : ¬ q = q1 := fun z => h1 (z ▸ ho.1)
  have ob2 : ob (alA M q1 15 120) q 9 := alA_old ho n1
  show Go d 82 0 0 9 [.ref q] [.ref q1, .ref q] (alA M q1 15 120) R
  refine go_blk 7 [] (pc' := 22) (vs' := [.ref q]) (st' := []) (M' := sI (sI (sR (alA M q1 15 120) q 0 (some q1)) q 2 (-1)) q 3 (-1)) (ps := [ob (alA M q1 15 120) q 9, ob (sR (alA M q1 15 120) q 0 (some q1)) q 9, ob (sI (sR (alA M q1 15 120) q 0 (some q1)) q 2 (-1)) q 9]) rfl ⟨ob2, ob2, ob2, trivial⟩ ?_
  exact go_vret rfl rfl (hR q1 _ (Xi_of ho h1))
def KT (M : Mem) (ad : Nat → Nat → Nat) (nx : Nat) (x1 x2 : Int32) (M' : Mem) (q q1 : Nat) : Prop := (q ∉ mL M ∧ q1 ∉ mL M ∧ ¬ q1 = q) ∧ mSc M' = mSc M ∧ (∀ a, a ∈ mL M → a ∈ mL M') ∧
  (∀ a, ¬ a = q → ¬ a = q1 → mK M' a = mK M a ∧ mN M' a = mN M a ∧ mJ M' a = mJ M a ∧ (∀ k, ¬ (a = ad 7 nx ∧ (k = 2 ∨ k = 3)) → ¬ (a = ad 0 10 ∧ k = 2) → mI M' a k = mI M a k) ∧ ∀ k, ¬ (a = ad 0 36 ∧ k = nx) → ¬ (a = ad 0 10 ∧ k = 0) → mR M' a k = mR M a k) ∧
  (mI M' (ad 7 nx) 2 = x1 ∧ mI M' (ad 7 nx) 3 = x2 ∧ mI M' (ad 0 10) 2 = nI (nx + 1)) ∧ (mR M' (ad 0 36) nx = some (ad 7 nx) ∧ mR M' (ad 0 10) 0 = some q) ∧ ob M' q 9 ∧ mR M' q 0 = some q1 ∧ ob M' q1 15 ∧ mN M' q1 = 120 ∧ mI M' q 1 = 0

set_option maxRecDepth 100000 in
theorem s_Wa_keepTape {d : Nat} {M : Mem} {f : Nat → Nat → Int32} {g : Nat → Nat → Int64} {ad : Nat → Nat → Nat} {R : Option Value → Mem → Prop} {nx : Nat} {x1 x2 : Int32} (hd : 3 ≤ d) (hF : Fx M ad) (hX : Xs M ad nx) (hi : Inj ad) (hn : f (ad 0 10) 2 = nI nx) (hl : nx < 20) (hR : ∀ M' q q1, KT (mm M f g) ad nx x1 x2 M' q q1 → R (some (.int (nI nx))) M') : Call d 108 [.ref (ad 0 10), .int x1, .int x2] (mm M f g) R := by
  show Go d 108 2 129 0 [.ref (ad 0 10), .int x1, .int x2] [] (mm M f g) R
  refine go_blk 1 [] (pc' := 1) (vs' := [.ref (ad 0 10), .int x1, .int x2]) (st' := [.ref (ad 0 10)]) (M' := mm M f g) (ps := []) rfl trivial ?_
  refine go_callV rfl rfl rfl (by omega) rfl (by decide) (by decide) (hF.o 10) ?_
  show Go (d - 1) 107 0 0 0 [.ref (ad 0 10)] [] (mm M f g) _
  refine go_blk 3 [some (.int (nI nx))] (pc' := 6) (vs' := [.ref (ad 0 10)]) (st' := [.int 20, .int (nI nx)]) (M' := mm M f g) (ps := [ob (mm M f g) (ad 0 10) 10, (Value.int (f (ad 0 10) 2)) = .int (nI nx)]) rfl ⟨(hF.o 10), congrArg Value.int hn, trivial⟩ ?_
  refine go_icmp rfl (fun _ => ?_) (fun (z : ¬ ((nI nx) < 20)) => absurd (show (nI nx) < 20 from ((nI_lts (a := nx) (b := 20) (by omega) (by decide)).mpr hl)) z)
  refine go_blk 1 [] (pc' := 14) (vs' := [.ref (ad 0 10)]) (st' := [.int 0]) (M' := mm M f g) (ps := []) rfl trivial ?_
  refine go_zret rfl rfl (Or.inl rfl) ?_
  refine ⟨ne_i, ?_⟩
  show Go d 108 2 129 4 [.ref (ad 0 10), .int x1, .int x2] [.int 0] (mm M f g) R
  refine go_if rfl (fun _ => ?_) (fun (z : ¬ ((0 : Int32) = 0)) => absurd (show (0 : Int32) = 0 from (by decide)) z)
  refine go_blk 14 [some (.ref (ad 7 nx)), some (.ref (ad 7 nx)), some (.ref (ad 0 36)), some (.int (nI nx)), some (.ref (ad 7 nx))] (pc' := 37) (vs' := [.ref (ad 0 10), .int x1, .int x2]) (st' := [.ref (ad 7 nx), .int (nI nx), .ref (ad 0 36)]) (M' := mm M (up2 (up2 f (ad 7 nx) 2 x1) (ad 7 nx) 3 x2) g) (ps := [ob (mm M f g) (ad 0 10) 10, mR (mm M f g) (ad 0 10) 0 = some (ad 7 nx), va_rf (some (ad 7 nx)) = .ref (ad 7 nx), ob (mm M f g) (ad 7 nx) 9, ob (mm M (up2 f (ad 7 nx) 2 x1) g) (ad 0 10) 10, mR (mm M (up2 f (ad 7 nx) 2 x1) g) (ad 0 10) 0 = some (ad 7 nx), va_rf (some (ad 7 nx)) = .ref (ad 7 nx), ob (mm M (up2 f (ad 7 nx) 2 x1) g) (ad 7 nx) 9, ob (mm M (up2 (up2 f (ad 7 nx) 2 x1) (ad 7 nx) 3 x2) g) (ad 0 10) 10, mR (mm M (up2 (up2 f (ad 7 nx) 2 x1) (ad 7 nx) 3 x2) g) (ad 0 10) 1 = some (ad 0 36), va_rf (some (ad 0 36)) = .ref (ad 0 36), ob (mm M (up2 (up2 f (ad 7 nx) 2 x1) (ad 7 nx) 3 x2) g) (ad 0 10) 10, (Value.int ((up2 (up2 f (ad 7 nx) 2 x1) (ad 7 nx) 3 x2) (ad 0 10) 2)) = .int (nI nx), ob (mm M (up2 (up2 f (ad 7 nx) 2 x1) (ad 7 nx) 3 x2) g) (ad 0 10) 10, mR (mm M (up2 (up2 f (ad 7 nx) 2 x1) (ad 7 nx) 3 x2) g) (ad 0 10) 0 = some (ad 7 nx), va_rf (some (ad 7 nx)) = .ref (ad 7 nx)]) rfl ⟨(hF.o 10), hX.1, rfl, (hX.2.2 nx (Nat.le_refl _)).1, (hF.o 10), hX.1, rfl, (hX.2.2 nx (Nat.le_refl _)).1, (hF.o 10), (hF.r 10 1 36), rfl, (hF.o 10), congrArg Value.int (((up2_n _ _ (fun z => absurd (hi _ _ _ _ z.1).1 (by decide))).trans ((up2_n _ _ (fun z => absurd (hi _ _ _ _ z.1).1 (by decide))).trans (rfl))).trans hn), (hF.o 10), hX.1, rfl, trivial⟩ ?_
  have o7 : ob M (ad 7 nx) 9 := (hX.2.2 nx (Nat.le_refl _)).1
  refine go_blk 1 [] (pc' := 38) (vs' := [.ref (ad 0 10), .int x1, .int x2]) (st' := []) (M' := mm (sR M (ad 0 36) ((nI nx).toNatClampNeg) (some (ad 7 nx))) (up2 (up2 f (ad 7 nx) 2 x1) (ad 7 nx) 3 x2) g) (ps := [ob (mm M (up2 (up2 f (ad 7 nx) 2 x1) (ad 7 nx) 3 x2) g) (ad 0 36) 21, 17 ≤ 21 ∧ 21 < 22, ob (mm M (up2 (up2 f (ad 7 nx) 2 x1) (ad 7 nx) 3 x2) g) (ad 7 nx) (zaI.getD (21 - 17) 0), vp_in (nI nx) (mN (mm M (up2 (up2 f (ad 7 nx) 2 x1) (ad 7 nx) 3 x2) g) (ad 0 36))]) rfl ⟨hF.o 36, (by decide), o7, (vpi (hF.n 36) (show nx < 20 by omega)), trivial⟩ ?_
  rw [nI_clamp (n := nx) (by omega)]
  have m1 : mL (mm (sR M (ad 0 36) nx (some (ad 7 nx))) (up2 (up2 f (ad 7 nx) 2 x1) (ad 7 nx) 3 x2) g) = mL M ∧ mK (mm (sR M (ad 0 36) nx (some (ad 7 nx))) (up2 (up2 f (ad 7 nx) 2 x1) (ad 7 nx) 3 x2) g) = mK M ∧ mN (mm (sR M (ad 0 36) nx (some (ad 7 nx))) (up2 (up2 f (ad 7 nx) 2 x1) (ad 7 nx) 3 x2) g) = mN M ∧ mI (mm (sR M (ad 0 36) nx (some (ad 7 nx))) (up2 (up2 f (ad 7 nx) 2 x1) (ad 7 nx) 3 x2) g) = (up2 (up2 f (ad 7 nx) 2 x1) (ad 7 nx) 3 x2) ∧ mJ (mm (sR M (ad 0 36) nx (some (ad 7 nx))) (up2 (up2 f (ad 7 nx) 2 x1) (ad 7 nx) 3 x2) g) = g ∧ mR (mm (sR M (ad 0 36) nx (some (ad 7 nx))) (up2 (up2 f (ad 7 nx) 2 x1) (ad 7 nx) 3 x2) g) = up2 (mR M) (ad 0 36) nx (some (ad 7 nx)) ∧ mSc (mm (sR M (ad 0 36) nx (some (ad 7 nx))) (up2 (up2 f (ad 7 nx) 2 x1) (ad 7 nx) 3 x2) g) = mSc M := ⟨rfl, rfl, rfl, rfl, rfl, rfl, rfl⟩
  obtain ⟨M1, hM1⟩ : ∃ M1, mm (sR M (ad 0 36) nx (some (ad 7 nx))) (up2 (up2 f (ad 7 nx) 2 x1) (ad 7 nx) 3 x2) g = M1 := ⟨_, rfl⟩
  rw [hM1] at m1 ⊢
  clear hM1
  obtain ⟨mL1, mK1, mN1, mI1, mJ1, mR1, mS1⟩ := m1
  have o10 : ob M1 (ad 0 10) 10 := ⟨by rw [mL1]; exact (hF.o 10).1, by rw [mK1]; exact (hF.o 10).2⟩
  have r2 : mI M1 (ad 0 10) 2 = nI nx := by rw [mI1]; exact ((up2_n _ _ (fun z => absurd (hi _ _ _ _ z.1).1 (by decide))).trans ((up2_n _ _ (fun z => absurd (hi _ _ _ _ z.1).1 (by decide))).trans (rfl))).trans hn
  refine go_blk 7 [some (.int (nI nx))] (pc' := 49) (vs' := [.ref (ad 0 10), .int x1, .int x2]) (st' := [.ref (ad 0 10)]) (M' := sI M1 (ad 0 10) 2 (nI nx + 1)) (ps := [(.ref (ad 0 10) : Value).category = 1, ob M1 (ad 0 10) 10, Value.int (mI M1 (ad 0 10) 2) = .int (nI nx), ob M1 (ad 0 10) 10]) rfl ⟨rfl, o10, congrArg Value.int r2, o10, trivial⟩ ?_
  have m2 : mL (sI M1 (ad 0 10) 2 (nI nx + 1)) = mL M1 ∧ mK (sI M1 (ad 0 10) 2 (nI nx + 1)) = mK M1 ∧ mN (sI M1 (ad 0 10) 2 (nI nx + 1)) = mN M1 ∧ mI (sI M1 (ad 0 10) 2 (nI nx + 1)) = up2 (mI M1) (ad 0 10) 2 (nI nx + 1) ∧ mJ (sI M1 (ad 0 10) 2 (nI nx + 1)) = mJ M1 ∧ mR (sI M1 (ad 0 10) 2 (nI nx + 1)) = mR M1 ∧ mSc (sI M1 (ad 0 10) 2 (nI nx + 1)) = mSc M1 := ⟨rfl, rfl, rfl, rfl, rfl, rfl, rfl⟩
  obtain ⟨M2, hM2⟩ : ∃ M2, sI M1 (ad 0 10) 2 (nI nx + 1) = M2 := ⟨_, rfl⟩
  rw [hM2] at m2 ⊢
  clear hM2
  rw [mL1, mK1, mN1, mI1, mJ1, mR1, mS1] at m2
  obtain ⟨mL2, mK2, mN2, mI2, mJ2, mR2, mS2⟩ := m2
  refine go_new rfl (by decide) (by decide) (by decide) (fun q hq => ?_)
  rw [mL2] at hq
  show Go d 108 1 120 52 [.ref (ad 0 10), .int x1, .int x2] [.ref q, .ref (ad 0 10)] (alO M2 q 9) R
  refine go_blk 1 [] (pc' := 53) (vs' := [.ref (ad 0 10), .int x1, .int x2]) (st' := [.ref q, .ref q, .ref (ad 0 10)]) (M' := alO M2 q 9) (ps := [(.ref q : Value).category = 1]) rfl ⟨rfl, trivial⟩ ?_
  refine go_callI rfl (by decide) rfl rfl (by omega) rfl (by decide) (by decide) ?_
  refine s_Tx_init (by omega) (alO_ob M2 q 9) (fun q1 M4 hx => ⟨rfl, ?_⟩)
  obtain ⟨t0, t1, t2, t3, t4, t5, t6, t7, t8⟩ := hx
  have hq1 : q1 ∉ mL M := fun z => t0 (List.mem_append_left _ (by rw [mL2]; exact z))
  have n1 : ¬ q1 = q := fun z => t0 (List.mem_append_right _ (by rw [z]; exact List.mem_cons_self))
  have b10 : ¬ ad 0 10 = q := fun z => hq (z ▸ (hF.o 10).1)
  have c10 : ¬ ad 0 10 = q1 := fun z => hq1 (z ▸ (hF.o 10).1)
  have b7 : ¬ ad 7 nx = q := fun z => hq (z ▸ o7.1)
  have c7 : ¬ ad 7 nx = q1 := fun z => hq1 (z ▸ o7.1)
  have b36 : ¬ ad 0 36 = q := fun z => hq (z ▸ (hF.o 36).1)
  have c36 : ¬ ad 0 36 = q1 := fun z => hq1 (z ▸ (hF.o 36).1)
  have n710 : ¬ ad 7 nx = ad 0 10 := fun z => absurd (hi _ _ _ _ z).1 (by decide)
  have n3610 : ¬ ad 0 36 = ad 0 10 := fun z => absurd (hi _ _ _ _ z).2 (by decide)
  have tK : ∀ a, ¬ a = q → ¬ a = q1 → mK M4 a = mK M a := fun a z0 z1 => by rw [(t3 a z0 z1).1, e_mK_alO, va_up_o z0, mK2]
  have tN : ∀ a, ¬ a = q → ¬ a = q1 → mN M4 a = mN M a := fun a z0 z1 => by rw [(t3 a z0 z1).2.1, e_mN_alO, mN2]
  have tI : ∀ a, ¬ a = q → ¬ a = q1 → mI M4 a = (up2 (up2 (up2 f (ad 7 nx) 2 x1) (ad 7 nx) 3 x2) (ad 0 10) 2 (nI nx + 1)) a := fun a z0 z1 => by rw [(t3 a z0 z1).2.2.1, e_mI_alO, va_up_o z0, mI2]
  have tJ : ∀ a, ¬ a = q → ¬ a = q1 → mJ M4 a = g a := fun a z0 z1 => by rw [(t3 a z0 z1).2.2.2.1, e_mJ_alO, va_up_o z0, mJ2]
  have tR : ∀ a, ¬ a = q → ¬ a = q1 → mR M4 a = (up2 (mR M) (ad 0 36) nx (some (ad 7 nx))) a := fun a z0 z1 => by rw [(t3 a z0 z1).2.2.2.2, e_mR_alO, va_up_o z0, mR2]
  have o10b : ob M4 (ad 0 10) 10 := ⟨t2 _ (List.mem_append_left _ (by rw [mL2]; exact (hF.o 10).1)), (tK _ b10 c10).trans (hF.o 10).2⟩
  have r4 : mI M4 (ad 0 10) 2 = nI nx + 1 := by rw [tI _ b10 c10]; exact up2_s _ _ _ _
  show Go d 108 0 0 56 [.ref (ad 0 10), .int x1, .int x2] [.ref q, .ref (ad 0 10)] M4 R
  refine go_blk 5 [some (.int (nI nx + 1))] (pc' := 65) (vs' := [.ref (ad 0 10), .int x1, .int x2]) (st' := [.int (nI nx + 1 - 1)]) (M' := sR M4 (ad 0 10) 0 (some q)) (ps := [ob M4 (ad 0 10) 10, ob (sR M4 (ad 0 10) 0 (some q)) (ad 0 10) 10, Value.int (mI (sR M4 (ad 0 10) 0 (some q)) (ad 0 10) 2) = .int (nI nx + 1)]) rfl ⟨o10b, o10b, congrArg Value.int r4, trivial⟩ ?_
  rw [show nI nx + 1 - 1 = nI nx from by rw [show nI nx + 1 = nI (nx + 1) from nI_add nx 1]; exact nI_pred nx]
  refine go_iret rfl rfl (hR _ q q1 ⟨⟨hq, hq1, n1⟩, ?_, ?_, ?_, ⟨?_, ?_, ?_⟩, ⟨?_, up2_s _ _ _ _⟩, t4, ?_, t6, t7, ?_⟩)
  · exact t1.trans mS2
  · exact fun a ha => t2 _ (List.mem_append_left _ (by rw [mL2]; exact ha))
  · intro a z0 z1
    refine ⟨tK a z0 z1, tN a z0 z1, tJ a z0 z1, fun k k1 k2 => ?_, fun k k1 k2 => ?_⟩
    · show mI M4 a k = f a k
      rw [tI a z0 z1, up2_n _ _ k2, up2_n _ _ (fun z => k1 ⟨z.1, Or.inr z.2⟩), up2_n _ _ (fun z => k1 ⟨z.1, Or.inl z.2⟩)]
    · show up2 (mR M4) (ad 0 10) 0 (some q) a k = mR M a k
      rw [up2_n _ _ k2, tR a z0 z1, up2_n _ _ k1]
  · show mI M4 (ad 7 nx) 2 = x1
    rw [tI _ b7 c7, up2_n _ _ (fun z => n710 z.1), up2_n _ _ (fun z => absurd z.2 (by decide))]; exact up2_s _ _ _ _
  · show mI M4 (ad 7 nx) 3 = x2
    rw [tI _ b7 c7, up2_n _ _ (fun z => n710 z.1)]; exact up2_s _ _ _ _
  · exact r4.trans (nI_add nx 1)
  · show up2 (mR M4) (ad 0 10) 0 (some q) (ad 0 36) nx = some (ad 7 nx)
    rw [up2_n _ _ (fun z => n3610 z.1), tR _ b36 c36]; exact up2_s _ _ _ _
  · show up2 (mR M4) (ad 0 10) 0 (some q) q 0 = some q1
    rw [up2_n _ _ (fun z => b10 z.1.symm)]; exact t5
  · exact t8.trans (by rw [e_mI_alO]; simp [va_up])
  

