/-! texts: the model's whole text; the call fault -/
set_option maxRecDepth 100000 in
theorem lpF_go {d : Nat} {M : Mem} {f : Nat → Nat → Int32} {g : Nat → Nat → Int64} {ad : Nat → Nat → Nat} {R : Option Value → Mem → Prop} {e : Nat} {u1 u2 u3 u4 : Value} (hM : Mx M ad) (hf : f (ad 10 0) 86 = nI e) (he : e ≤ 120) (hR : R none (mm M f g)) : Go d 252 0 0 50 [.ref (ad 10 0), u1, u2, u3, u4] [] (mm M f g) R := by
  show Go d 252 0 0 50 [.ref (ad 10 0), u1, u2, u3, u4] [] (mm M f g) R
  refine go_blk 3 [some (.int (nI e))] (pc' := 55) (vs' := [.ref (ad 10 0), u1, u2, u3, u4]) (st' := [.int (-1), .int (nI e)]) (M' := mm M f g) (ps := [ob (mm M f g) (ad 10 0) 12, (Value.int (f (ad 10 0) 86)) = .int (nI e)]) rfl ⟨hM.1, congrArg Value.int hf, trivial⟩ ?_
  refine go_icmp rfl (fun _ => ?_) (fun (z : ¬ (¬ (nI e) = (-1))) => absurd (show ¬ (nI e) = (-1) from (nI_m1 (n := e) (by omega))) z)
  refine go_vret rfl rfl ?_
  exact hR

set_option maxRecDepth 100000 in
theorem lp_go {d : Nat} {M : Mem} {ad : Nat → Nat → Nat} {A fr L j : Nat} {t : Nat → Int32} {lv : Int32 → Int64} {u1 u2 u3 u4 : Value} (hd : 46 ≤ d) : ∀ (m : Nat) (o : Option Int64) (i : Nat) (f : Nat → Nat → Int32) (g : Nat → Nat → Int64) (R : Option Value → Mem → Prop), i ≤ L → L < i + m → MX M ad A fr L t lv j f → PS ad f i 0 → PD ad f g o → (∀ e f' g', thrL t L lv m o i = .inl e → e ≤ 120 → MK2 ad f f' → GK ad g g' → f' (ad 10 0) 86 = nI e → R none (mm M f' g')) → (∀ o' f' g', thrL t L lv m o i = .inr o' → MK2 ad f f' → GK ad g g' → f' (ad 10 0) 86 = -1 → PD ad f' g' o' → R none (mm M f' g')) → Go d 252 0 0 50 [.ref (ad 10 0), u1, u2, u3, u4] [] (mm M f g) R := by
  intro m
  induction m with
  | zero => intro o i f g R h1 h2; omega
  | succ m ih =>
    intro o i f g R hi hm hX hP hO hE hV
    obtain ⟨ha, hf, hdp⟩ := hP
    have hL0 := hX.1.2.2.2.2.2.2.1
    obtain ⟨q, hq⟩ : ∃ q, sk t L i = q := ⟨_, rfl⟩
    have hqq : sk t L q = q := by rw [← hq]; exact sk_sk hi
    have hqL : q ≤ L := by rw [← hq]; exact (sk_ge hi).2
    have hqi : i ≤ q := by rw [← hq]; exact (sk_ge hi).1
    rw [thrL, hq] at hE hV
    show Go d 252 0 0 50 [.ref (ad 10 0), u1, u2, u3, u4] [] (mm M f g) R
    refine go_blk 3 [some (.int (-1))] (pc' := 55) (vs' := [.ref (ad 10 0), u1, u2, u3, u4]) (st' := [.int (-1), .int (-1)]) (M' := mm M f g) (ps := [ob (mm M f g) (ad 10 0) 12, (Value.int (f (ad 10 0) 86)) = .int (-1)]) rfl ⟨hX.m.1, congrArg Value.int hf, trivial⟩ ?_
    refine go_icmp rfl (fun (z : ¬ ((-1) : Int32) = (-1)) => absurd z (show ¬ (¬ ((-1) : Int32) = (-1)) from (by decide))) (fun _ => ?_)
    refine go_blk 1 [] (pc' := 59) (vs' := [.ref (ad 10 0), u1, u2, u3, u4]) (st' := [.ref (ad 10 0)]) (M' := mm M f g) (ps := []) rfl trivial ?_
    refine go_callV rfl rfl rfl (by omega) rfl (by decide) (by decide) hX.m.1 ?_
    refine s_Mo_lookQ (i := i) (q := q) hX hi ha hq (fun hj1 => ⟨ne_i, ?_⟩) (fun hj1 => ⟨ne_i, ?_⟩)
    · -- ('i', 't q')
      have hin : q < L := hj1
      show Go d 252 0 0 62 [.ref (ad 10 0), u1, u2, u3, u4] [.int (t q)] (mm M (up2 f (ad 10 0) 85 (nI q)) g) R
      refine go_blk 1 [] (pc' := 63) (vs' := [.ref (ad 10 0), u1, u2, u3, u4]) (st' := [.int (-1), .int (t q)]) (M' := mm M (up2 f (ad 10 0) 85 (nI q)) g) (ps := []) rfl trivial ?_
      refine go_icmp rfl (fun (z : (t q) = (-1)) => absurd z (show ¬ ((t q) = (-1)) from (hX.ne1 hin))) (fun _ => ?_)
      refine go_blk 1 [] (pc' := 67) (vs' := [.ref (ad 10 0), u1, u2, u3, u4]) (st' := [.ref (ad 10 0)]) (M' := mm M (up2 f (ad 10 0) 85 (nI q)) g) (ps := []) rfl trivial ?_
      refine go_callV rfl rfl rfl (by omega) rfl (by decide) (by decide) hX.m.1 ?_
      refine s_Mo_lookS (i := q) (hX.keep (MK.refl.up (by omega))) (by omega) hqq (up2_s _ _ _ _) (fun hj2 => ⟨ne_i, ?_⟩) (fun hj2 => ⟨ne_i, ?_⟩)
      · -- ('i', 't q')
        show Go d 252 0 0 70 [.ref (ad 10 0), u1, u2, u3, u4] [.int (t q)] (mm M (up2 f (ad 10 0) 85 (nI q)) g) R
        refine go_blk 1 [] (pc' := 72) (vs' := [.ref (ad 10 0), u1, u2, u3, u4]) (st' := [.int 59, .int (t q)]) (M' := mm M (up2 f (ad 10 0) 85 (nI q)) g) (ps := []) rfl trivial ?_
        refine go_icmp rfl (fun (c3 : (t q) = 59) => ?_) (fun (c3 : ¬ ((t q) = 59)) => ?_)
        · -- (t q) = 59
          refine go_blk 7 [some (.int (nI q))] (pc' := 92) (vs' := [.ref (ad 10 0), u1, u2, u3, u4]) (st' := [.ref (ad 10 0)]) (M' := mm M (up2 (up2 f (ad 10 0) 85 (nI q)) (ad 10 0) 85 ((nI q) + 1)) g) (ps := [(.ref (ad 10 0) : Value).category = 1, ob (mm M (up2 f (ad 10 0) 85 (nI q)) g) (ad 10 0) 12, (Value.int ((up2 f (ad 10 0) 85 (nI q)) (ad 10 0) 85)) = .int (nI q), ob (mm M (up2 f (ad 10 0) 85 (nI q)) g) (ad 10 0) 12]) rfl ⟨rfl, hX.m.1, congrArg Value.int (up2_s _ _ _ _), hX.m.1, trivial⟩ ?_
          have hO2 : PD ad (up2 (up2 f (ad 10 0) 85 (nI q)) (ad 10 0) 85 ((nI q) + 1)) g o := by
            cases o with
            | none => exact ⟨((up2_n _ _ (fun z => absurd z.2 (by decide))).trans ((up2_n _ _ (fun z => absurd z.2 (by decide))).trans hO.1)), hO.2⟩
            | some a => exact ⟨((up2_n _ _ (fun z => absurd z.2 (by decide))).trans ((up2_n _ _ (fun z => absurd z.2 (by decide))).trans hO.1)), hO.2⟩
          refine go_callV rfl rfl rfl (by omega) rfl (by decide) (by decide) hX.m.1 ?_
          refine s_Mo_clause (i := q + 1) (o := o) (by omega) (hX.keep ((MK.refl.up (by omega)).up (by omega))) (by omega) ⟨((up2_s _ _ _ _).trans (nI_add q 1)), (((up2_n _ _ (fun z => absurd z.2 (by decide))).trans ((up2_n _ _ (fun z => absurd z.2 (by decide))).trans (rfl))).trans hf), (((up2_n _ _ (fun z => absurd z.2 (by decide))).trans ((up2_n _ _ (fun z => absurd z.2 (by decide))).trans (rfl))).trans hdp)⟩ hO2 (fun e4 f4 hr4 hl4 hk4 hf4 => ⟨ne_v, ?_⟩) (fun b4 v4 k4 f4 g4 hr4 hk4 hg4 hp4 ho4 => ⟨ne_v, ?_⟩)
          · -- ('v',)
            show Go d 252 0 0 95 [.ref (ad 10 0), u1, u2, u3, u4] [] (mm M f4 g) R
            refine go_blk 1 [] (pc' := 50) (vs' := [.ref (ad 10 0), u1, u2, u3, u4]) (st' := []) (M' := mm M f4 g) (ps := []) rfl trivial ?_
            exact lpF_go hX.m hf4 hl4 (hE e4 _ _ (by rw [if_pos hin, if_pos c3, hr4]) hl4 (MK2.of (((MK.refl.up (by omega)).up (by omega)).trans hk4)) GK.refl hf4)
          · -- ('v',)
            show Go d 252 0 0 95 [.ref (ad 10 0), u1, u2, u3, u4] [] (mm M f4 g4) R
            refine go_blk 1 [] (pc' := 50) (vs' := [.ref (ad 10 0), u1, u2, u3, u4]) (st' := []) (M' := mm M f4 g4) (ps := []) rfl trivial ?_
            have hz := (cls_fl (t := t) (L := L) (lv := lv) (i := q + 1) (by omega)).2 b4 v4 k4 hr4
            exact ih (orO o b4 v4) k4 f4 g4 R hz.2.1 (by omega) (hX.keep2 ((MK2.of ((MK.refl.up (by omega)).up (by omega))).trans hk4)) hp4 ho4 (fun e f' g' z l k1 k2 k3 => hE e f' g' (by rw [if_pos hin, if_pos c3, hr4]; cases o <;> exact z) l (((MK2.of ((MK.refl.up (by omega)).up (by omega))).trans hk4).trans k1) (hg4.trans k2) k3) (fun o' f' g' z k1 k2 k3 k4 => hV o' f' g' (by rw [if_pos hin, if_pos c3, hr4]; cases o <;> exact z) (((MK2.of ((MK.refl.up (by omega)).up (by omega))).trans hk4).trans k1) (hg4.trans k2) k3 k4)
        · -- ¬ ((t q) = 59)
          refine go_blk 1 [] (pc' := 76) (vs' := [.ref (ad 10 0), u1, u2, u3, u4]) (st' := [.ref (ad 10 0)]) (M' := mm M (up2 f (ad 10 0) 85 (nI q)) g) (ps := []) rfl trivial ?_
          refine go_callV rfl rfl rfl (by omega) rfl (by decide) (by decide) hX.m.1 ?_
          show Go (d - 1) 242 0 0 0 [.ref (ad 10 0)] [] (mm M (up2 f (ad 10 0) 85 (nI q)) g) _
          refine go_blk 3 [some (.int (-1))] (pc' := 5) (vs' := [.ref (ad 10 0)]) (st' := [.int (-1), .int (-1)]) (M' := mm M (up2 f (ad 10 0) 85 (nI q)) g) (ps := [ob (mm M (up2 f (ad 10 0) 85 (nI q)) g) (ad 10 0) 12, (Value.int ((up2 f (ad 10 0) 85 (nI q)) (ad 10 0) 86)) = .int (-1)]) rfl ⟨hX.m.1, congrArg Value.int (((up2_n _ _ (fun z => absurd z.2 (by decide))).trans (rfl)).trans hf), trivial⟩ ?_
          refine go_icmp rfl (fun (z : ¬ ((-1) : Int32) = (-1)) => absurd z (show ¬ (¬ ((-1) : Int32) = (-1)) from (by decide))) (fun _ => ?_)
          refine go_blk 5 [some (.int (nI q))] (pc' := 17) (vs' := [.ref (ad 10 0)]) (st' := [.long 0]) (M' := mm M (up2 (up2 f (ad 10 0) 85 (nI q)) (ad 10 0) 86 (nI q)) g) (ps := [ob (mm M (up2 f (ad 10 0) 85 (nI q)) g) (ad 10 0) 12, (Value.int ((up2 f (ad 10 0) 85 (nI q)) (ad 10 0) 85)) = .int (nI q), ob (mm M (up2 f (ad 10 0) 85 (nI q)) g) (ad 10 0) 12]) rfl ⟨hX.m.1, congrArg Value.int (up2_s _ _ _ _), hX.m.1, trivial⟩ ?_
          refine go_lret rfl rfl ?_
          refine ⟨ne_l, ?_⟩
          show Go d 252 0 0 79 [.ref (ad 10 0), u1, u2, u3, u4] [.long 0] (mm M (up2 (up2 f (ad 10 0) 85 (nI q)) (ad 10 0) 86 (nI q)) g) R
          refine go_blk 1 [] (pc' := 80) (vs' := [.ref (ad 10 0), u1, u2, u3, u4]) (st' := []) (M' := mm M (up2 (up2 f (ad 10 0) 85 (nI q)) (ad 10 0) 86 (nI q)) g) (ps := [(.long 0 : Value).category = 2]) rfl ⟨rfl, trivial⟩ ?_
          refine go_vret rfl rfl ?_
          exact hE q _ _ (by rw [if_pos hin, if_neg c3]) (by omega) (MK2.of ((MK.refl.up (by omega)).up (by omega))) GK.refl (up2_s _ _ _ _)
      · -- ('i', '(-1)')
        exact absurd hin hj2
    · -- ('i', '(-1)')
      have hin : ¬ q < L := hj1
      show Go d 252 0 0 62 [.ref (ad 10 0), u1, u2, u3, u4] [.int (-1)] (mm M (up2 f (ad 10 0) 85 (nI q)) g) R
      refine go_blk 1 [] (pc' := 63) (vs' := [.ref (ad 10 0), u1, u2, u3, u4]) (st' := [.int (-1), .int (-1)]) (M' := mm M (up2 f (ad 10 0) 85 (nI q)) g) (ps := []) rfl trivial ?_
      refine go_icmp rfl (fun _ => ?_) (fun (z : ¬ (((-1) : Int32) = (-1))) => absurd (show ((-1) : Int32) = (-1) from (by decide)) z)
      refine go_vret rfl rfl ?_
      have hO2 : PD ad (up2 f (ad 10 0) 85 (nI q)) g o := by
        cases o with
        | none => exact ⟨((up2_n _ _ (fun z => absurd z.2 (by decide))).trans hO.1), hO.2⟩
        | some a => exact ⟨((up2_n _ _ (fun z => absurd z.2 (by decide))).trans hO.1), hO.2⟩
      exact hV o _ _ (if_neg hin) (MK2.of (MK.refl.up (by omega))) GK.refl (((up2_n _ _ (fun z => absurd z.2 (by decide))).trans (rfl)).trans hf) hO2

set_option maxRecDepth 100000 in
theorem s_Mo_goThrough {d : Nat} {M : Mem} {g : Nat → Nat → Int64} {ad : Nat → Nat → Nat} {A fr L j : Nat} {t : Nat → Int32} {lv : Int32 → Int64} {f : Nat → Nat → Int32} {R : Option Value → Mem → Prop} (hd : 46 ≤ d) (hM0 : Mx M ad) (hi : Inj ad) (hA : A = ad 9 75 ∨ A = ad 9 76) (hob : ob M A 14) (hlen : fr + L ≤ mN M A) (hL0 : L ≤ 120) (hfr : fr ≤ 2400) (hj : j < 364) (hb : ∀ k, k < L → bts (t k) (f A (fr + k)) ∧ ∃ m, m < 256 ∧ t k = nI m) (hlv : ∀ b, isLt b = true → lv b = lvM f ad j b) (hE : ∀ e f' g', thrM t L lv = .inl e → e ≤ 120 → GT ad f f' → GK ad g g' → f' (ad 10 0) 86 = nI e → R none (mm (sR M (ad 10 0) 82 (some A)) f' g')) (hV : ∀ o f' g', thrM t L lv = .inr o → GT ad f f' → GK ad g g' → f' (ad 10 0) 86 = -1 → PD ad f' g' o → R none (mm (sR M (ad 10 0) 82 (some A)) f' g')) : Call d 252 [.ref (ad 10 0), .ref A, .int (nI fr), .int (nI L), .int (nI j)] (mm M f g) R := by
  have hM : Mx (sR M (ad 10 0) 82 (some A)) ad := hM0.s82
  have hAn : ¬ A = ad 10 0 := by rcases hA with z | z <;> rw [z] <;> exact fun y => absurd (hi _ _ _ _ y).1 (by decide)
  unfold thrM at hE hV
  show Go d 252 0 0 0 [.ref (ad 10 0), .ref A, .int (nI fr), .int (nI L), .int (nI j)] [] (mm M f g) R
  refine go_blk 3 [] (pc' := 5) (vs' := [.ref (ad 10 0), .ref A, .int (nI fr), .int (nI L), .int (nI j)]) (st' := []) (M' := mm (sR M (ad 10 0) 82 (some A)) f g) (ps := [ob (mm M f g) (ad 10 0) 12]) rfl ⟨hM0.1, trivial⟩ ?_
  have h82 : mR (sR M (ad 10 0) 82 (some A)) (ad 10 0) 82 = some A := up2_s _ _ _ _
  have hob1 : ob (sR M (ad 10 0) 82 (some A)) A 14 := hob
  have hlen1 : fr + L ≤ mN (sR M (ad 10 0) 82 (some A)) A := hlen
  obtain ⟨M1, hM1⟩ : ∃ M1, (sR M (ad 10 0) 82 (some A)) = M1 := ⟨_, rfl⟩
  rw [hM1] at hM hE hV h82 hob1 hlen1 ⊢
  clear hM1
  show Go d 252 0 0 5 [.ref (ad 10 0), .ref A, .int (nI fr), .int (nI L), .int (nI j)] [] (mm M1 f g) R
  refine go_blk 25 [] (pc' := 47) (vs' := [.ref (ad 10 0), .ref A, .int (nI fr), .int (nI L), .int (nI j)]) (st' := [.ref (ad 10 0)]) (M' := mm M1 (up2 (up2 (up2 (up2 (up2 (up2 (up2 f (ad 10 0) 83 (nI fr)) (ad 10 0) 84 (nI L)) (ad 10 0) 85 0) (ad 10 0) 86 (-1)) (ad 10 0) 87 0) (ad 10 0) 88 (nI j)) (ad 10 0) 89 0) (up2 g (ad 10 0) 90 0)) (ps := [ob (mm M1 f g) (ad 10 0) 12, ob (mm M1 (up2 f (ad 10 0) 83 (nI fr)) g) (ad 10 0) 12, ob (mm M1 (up2 (up2 f (ad 10 0) 83 (nI fr)) (ad 10 0) 84 (nI L)) g) (ad 10 0) 12, ob (mm M1 (up2 (up2 (up2 f (ad 10 0) 83 (nI fr)) (ad 10 0) 84 (nI L)) (ad 10 0) 85 0) g) (ad 10 0) 12, ob (mm M1 (up2 (up2 (up2 (up2 f (ad 10 0) 83 (nI fr)) (ad 10 0) 84 (nI L)) (ad 10 0) 85 0) (ad 10 0) 86 (-1)) g) (ad 10 0) 12, ob (mm M1 (up2 (up2 (up2 (up2 (up2 f (ad 10 0) 83 (nI fr)) (ad 10 0) 84 (nI L)) (ad 10 0) 85 0) (ad 10 0) 86 (-1)) (ad 10 0) 87 0) g) (ad 10 0) 12, ob (mm M1 (up2 (up2 (up2 (up2 (up2 (up2 f (ad 10 0) 83 (nI fr)) (ad 10 0) 84 (nI L)) (ad 10 0) 85 0) (ad 10 0) 86 (-1)) (ad 10 0) 87 0) (ad 10 0) 88 (nI j)) g) (ad 10 0) 12, 0 = 0 ∨ 0 = 1, ob (mm M1 (up2 (up2 (up2 (up2 (up2 (up2 (up2 f (ad 10 0) 83 (nI fr)) (ad 10 0) 84 (nI L)) (ad 10 0) 85 0) (ad 10 0) 86 (-1)) (ad 10 0) 87 0) (ad 10 0) 88 (nI j)) (ad 10 0) 89 0) g) (ad 10 0) 12]) rfl ⟨hM.1, hM.1, hM.1, hM.1, hM.1, hM.1, hM.1, (Or.inl rfl), hM.1, trivial⟩ ?_
  obtain ⟨F, hFd⟩ : ∃ F, F = (up2 (up2 (up2 (up2 (up2 (up2 (up2 f (ad 10 0) 83 (nI fr)) (ad 10 0) 84 (nI L)) (ad 10 0) 85 0) (ad 10 0) 86 (-1)) (ad 10 0) 87 0) (ad 10 0) 88 (nI j)) (ad 10 0) 89 0) := ⟨_, rfl⟩
  have r83 : F (ad 10 0) 83 = nI fr := by rw [hFd]; exact ((up2_n _ _ (fun z => absurd z.2 (by decide))).trans ((up2_n _ _ (fun z => absurd z.2 (by decide))).trans ((up2_n _ _ (fun z => absurd z.2 (by decide))).trans ((up2_n _ _ (fun z => absurd z.2 (by decide))).trans ((up2_n _ _ (fun z => absurd z.2 (by decide))).trans ((up2_n _ _ (fun z => absurd z.2 (by decide))).trans (up2_s _ _ _ _)))))))
  have r84 : F (ad 10 0) 84 = nI L := by rw [hFd]; exact ((up2_n _ _ (fun z => absurd z.2 (by decide))).trans ((up2_n _ _ (fun z => absurd z.2 (by decide))).trans ((up2_n _ _ (fun z => absurd z.2 (by decide))).trans ((up2_n _ _ (fun z => absurd z.2 (by decide))).trans ((up2_n _ _ (fun z => absurd z.2 (by decide))).trans (up2_s _ _ _ _))))))
  have r85 : F (ad 10 0) 85 = 0 := by rw [hFd]; exact ((up2_n _ _ (fun z => absurd z.2 (by decide))).trans ((up2_n _ _ (fun z => absurd z.2 (by decide))).trans ((up2_n _ _ (fun z => absurd z.2 (by decide))).trans ((up2_n _ _ (fun z => absurd z.2 (by decide))).trans (up2_s _ _ _ _)))))
  have r86 : F (ad 10 0) 86 = (-1) := by rw [hFd]; exact ((up2_n _ _ (fun z => absurd z.2 (by decide))).trans ((up2_n _ _ (fun z => absurd z.2 (by decide))).trans ((up2_n _ _ (fun z => absurd z.2 (by decide))).trans (up2_s _ _ _ _))))
  have r87 : F (ad 10 0) 87 = 0 := by rw [hFd]; exact ((up2_n _ _ (fun z => absurd z.2 (by decide))).trans ((up2_n _ _ (fun z => absurd z.2 (by decide))).trans (up2_s _ _ _ _)))
  have r88 : F (ad 10 0) 88 = nI j := by rw [hFd]; exact ((up2_n _ _ (fun z => absurd z.2 (by decide))).trans (up2_s _ _ _ _))
  have r89 : F (ad 10 0) 89 = 0 := by rw [hFd]; exact (up2_s _ _ _ _)
  have hgt : GT ad f F := fun b k hn => by rw [hFd, up2_n _ _ (fun z => hn ⟨z.1, by omega, by omega⟩), up2_n _ _ (fun z => hn ⟨z.1, by omega, by omega⟩), up2_n _ _ (fun z => hn ⟨z.1, by omega, by omega⟩), up2_n _ _ (fun z => hn ⟨z.1, by omega, by omega⟩), up2_n _ _ (fun z => hn ⟨z.1, by omega, by omega⟩), up2_n _ _ (fun z => hn ⟨z.1, by omega, by omega⟩), up2_n _ _ (fun z => hn ⟨z.1, by omega, by omega⟩)]
  rw [← hFd]
  clear hFd
  have k9 : ∀ i q, F (ad 9 i) q = f (ad 9 i) q := fun i q => hgt _ _ (fun z => absurd (hi _ _ _ _ z.1).1 (by decide))
  have hX : MX M1 ad A fr L t lv j F := ⟨⟨hM, hi, hA, h82, hob1, hlen1, hL0, hfr, hj⟩, r83, r84, r88, fun k hk => (by rw [hgt _ _ (fun z => hAn z.1)]; exact hb k hk), fun b hb2 => (by rw [hlv b hb2]; unfold lvM; rw [k9, k9, k9, k9, k9, k9, k9])⟩
  refine go_callV rfl rfl rfl (by omega) rfl (by decide) (by decide) hM.1 ?_
  refine s_Mo_clause (i := 0) (o := none) (by omega) hX (Nat.zero_le _) ⟨r85, r86, r87⟩ ⟨r89, up2_s _ _ _ _⟩ (fun e1 f1 hr1 hl1 hk1 hf1 => ⟨ne_v, ?_⟩) (fun b1 v1 k1 f1 g1 hr1 hk1 hg1 hp1 ho1 => ⟨ne_v, ?_⟩)
  · -- ('v',)
    show Go d 252 0 0 50 [.ref (ad 10 0), .ref A, .int (nI fr), .int (nI L), .int (nI j)] [] (mm M1 f1 (up2 g (ad 10 0) 90 0)) R
    rw [hr1] at hE
    exact lpF_go hM hf1 hl1 (hE e1 _ _ rfl hl1 (fun b k hn => ((hk1) b k (fun z => hn ⟨z.1, by omega, by omega⟩)).trans (hgt b k hn)) GK.up hf1)
  · -- ('v',)
    show Go d 252 0 0 50 [.ref (ad 10 0), .ref A, .int (nI fr), .int (nI L), .int (nI j)] [] (mm M1 f1 g1) R
    rw [hr1] at hE hV
    have hz := (cls_fl (t := t) (L := L) (lv := lv) (i := 0) (Nat.zero_le _)).2 b1 v1 k1 hr1
    exact lp_go hd (L + 1) _ k1 f1 g1 R hz.2.1 (by omega) (hX.keep2 hk1) hp1 ho1 (fun e f' g' z l k1 k2 k3 => hE e f' g' z l (fun b k hn => ((hk1.trans k1) b k (fun z => hn ⟨z.1, by omega, by omega⟩)).trans (hgt b k hn)) ((GK.up.trans hg1).trans k2) k3) (fun o' f' g' z k1 k2 k3 k4 => hV o' f' g' z (fun b k hn => ((hk1.trans k1) b k (fun z => hn ⟨z.1, by omega, by omega⟩)).trans (hgt b k hn)) ((GK.up.trans hg1).trans k2) k3 k4)

