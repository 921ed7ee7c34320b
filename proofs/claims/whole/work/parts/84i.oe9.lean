/-! openDay: the model -/
theorem cmO_congr {V V' : Nat → Nat → Int32} {nb wk c : Nat} (h : ∀ i k, (i = 5 ∨ i = 6 ∨ i = 7 ∨ i = 15) → V' i k = V i k) : cmO V' nb wk c = cmO V nb wk c := by
  unfold cmO
  have e : cmP V' wk c = cmP V wk c := by
    funext b
    unfold cmP
    rw [h 15 b (by omega), h 6 b (by omega), h 7 b (by omega), h 5 _ (by omega)]
  rw [e]
theorem waO_congr {V V' : Nat → Nat → Int32} {nb wk c : Nat} (h : ∀ i k, (i = 6 ∨ i = 7 ∨ i = 16) → V' i k = V i k) : waO V' nb wk c = waO V nb wk c := by
  unfold waO
  have e : waP V' wk c = waP V wk c := by
    funext b
    unfold waP
    rw [h 16 b (by omega), h 6 b (by omega), h 7 b (by omega)]
  rw [e]
/-- what the model's loop wants of the model's rows -/
def MOh (ad : Nat → Nat → Nat) (f : Nat → Nat → Int32) (nb nc wk ne kd : Nat) (Q W : Nat → Option Nat) : Prop :=
  (∀ c, Q c = cmO (fun i k => f (ad 9 i) k) nb wk c) ∧ (∀ c, W c = waO (fun i k => f (ad 9 i) k) nb wk c) ∧
  (∀ a b, a < nb → b < nb → ¬ f (ad 9 15) a = 0 → ¬ f (ad 9 15) b = 0 → f (ad 9 6) a = f (ad 9 6) b → f (ad 9 7) a = f (ad 9 7) b → a = b) ∧
  (∀ b, b < nb → b01 (f (ad 9 16) b) ∧ (f (ad 9 16) b = 1 → ¬ f (ad 9 15) b = 0)) ∧
  (∀ c b, Q c = some b → b < nb ∧ ¬ f (ad 9 16) b = 1) ∧
  (∀ i, i < ne → f (ad 9 92) i = -1 ∨ ∃ b j, b < 60 ∧ f (ad 9 92) i = nI b ∧ f (ad 9 16) b = 1 ∧ j < kd ∧ f (ad 9 12) b = cdV j) ∧
  (wk = 0 → ∀ c, c < nc → W c = none) ∧ kd + cnQ Q nc ≤ 60 ∧ ne + cnQ Q nc ≤ 120 ∧ (nb ≤ 60 ∧ nc ≤ 7 ∧ wk < 52) ∧ f (ad 10 0) 17 = nI nc ∧ f (ad 10 0) 18 = nI nb ∧ f (ad 10 0) 19 = nI wk
def moW (f : Nat → Nat → Int32) (a : Nat) : Int32 := if f a 65 < f a 63 then f a 65 else f a 63
def moH (f : Nat → Nat → Int32) (a : Nat) : Nat → Nat → Int32 := up2 (up2 (up2 (up2 (up2 (up2 f a 0 0) a 21 1) a 71 1) a 20 0) a 65 (f a 65 - moW f a)) a 64 (f a 64 + moW f a)

set_option maxHeartbeats 4000000 in
set_option maxRecDepth 100000 in
theorem lp_MoOpen {d : Nat} {M : Mem} {f0 : Nat → Nat → Int32} {g0 : Nat → Nat → Int64} {ad : Nat → Nat → Nat} {R : Option Value → Mem → Prop} {nb nc nt wk ne kd : Nat} {Q W : Nat → Option Nat} {u1 : Value} (hd : 1 ≤ d) (hi : Inj ad) (hM : Mx M ad) (H : MOh ad f0 nb nc wk ne kd Q W) (hn : f0 (ad 10 0) 30 = nI nt) (hl : nt ≤ 3) (hR : ∀ f1 f3, MLo ad f0 ne kd wk Q W nc nc f1 → MT ad (mlF f1 (ad 10 0) (gsO Q (f0 (ad 9 8)) nc)) nt f3 → R (some (.int (nI (cnQ W nc)))) (mm M f3 (up2 g0 (ad 10 0) 99 (cdS (kd + cnQ Q nc))))) : ∀ c, c ≤ nc → ∀ w5 w6 w7 f, MLo ad f0 ne kd wk Q W c c f → Go d 209 0 0 77 [.ref (ad 10 0), u1, .int (nI (cnQ W c)), .int (gsO Q (f0 (ad 9 8)) c), .int (nI c), w5, w6, w7] [] (mm M f (up2 g0 (ad 10 0) 99 (cdS (kd + cnQ Q c)))) R := by
  obtain ⟨hQ, hW, hu, h16, hQb, hfr, h0, hkd, hne, ⟨nb3, nc3, hwk⟩, h17, h18, h19⟩ := H
  have pl : ∀ f, (∃ c e, MLo ad f0 ne kd wk Q W c e f) → ∀ i k, (i = 5 ∨ i = 6 ∨ i = 7 ∨ i = 15) → f (ad 9 i) k = f0 (ad 9 i) k := fun f ⟨c, e, z⟩ i k y => z.1 9 i k (by unfold mlX mjR; omega)
  have ps : ∀ f, (∃ c e, MLo ad f0 ne kd wk Q W c e f) → ∀ k, k = 17 ∨ k = 18 ∨ k = 19 ∨ k = 30 → f (ad 10 0) k = f0 (ad 10 0) k := fun f ⟨c, e, z⟩ k y => z.1 10 0 k (by unfold mlX mjR; omega)
  refine up_ind (P := fun c => ∀ w5 w6 w7 f, MLo ad f0 ne kd wk Q W c c f → Go d 209 0 0 77 [.ref (ad 10 0), u1, .int (nI (cnQ W c)), .int (gsO Q (f0 (ad 9 8)) c), .int (nI c), w5, w6, w7] [] (mm M f (up2 g0 (ad 10 0) 99 (cdS (kd + cnQ Q c)))) R) nc (fun w5 w6 w7 f h => ?_) (fun c hlt ih w5 w6 w7 f h => ?_)
  ·
    show Go d 209 0 0 77 [.ref (ad 10 0), u1, .int (nI (cnQ W nc)), .int (gsO Q (f0 (ad 9 8)) nc), .int (nI nc), w5, w6, w7] [] (mm M f (up2 g0 (ad 10 0) 99 (cdS (kd + cnQ Q nc)))) R
    refine go_blk 3 [some (.int (nI nc))] (pc' := 83) (vs' := [.ref (ad 10 0), u1, .int (nI (cnQ W nc)), .int (gsO Q (f0 (ad 9 8)) nc), .int (nI nc), w5, w6, w7]) (st' := [.int (nI nc), .int (nI nc)]) (M' := mm M f (up2 g0 (ad 10 0) 99 (cdS (kd + cnQ Q nc)))) (ps := [ob (mm M f (up2 g0 (ad 10 0) 99 (cdS (kd + cnQ Q nc)))) (ad 10 0) 12, (Value.int (f (ad 10 0) 17)) = .int (nI nc)]) rfl ⟨hM.1, congrArg Value.int ((ps f ⟨_, _, h⟩ 17 (by omega)).trans h17), trivial⟩ ?_
    refine go_icmp rfl (fun _ => ?_) (fun (z : ¬ (nI nc ≤ (nI nc))) => absurd (show nI nc ≤ (nI nc) from Int32.le_refl _) z)
    refine lp_MoTail hd hi hM ((ps f ⟨_, _, h⟩ 30 (by omega)).trans hn) hl (fun f3 h3 => hR f f3 h h3)
  ·
    show Go d 209 0 0 77 [.ref (ad 10 0), u1, .int (nI (cnQ W c)), .int (gsO Q (f0 (ad 9 8)) c), .int (nI c), w5, w6, w7] [] (mm M f (up2 g0 (ad 10 0) 99 (cdS (kd + cnQ Q c)))) R
    refine go_blk 3 [some (.int (nI nc))] (pc' := 83) (vs' := [.ref (ad 10 0), u1, .int (nI (cnQ W c)), .int (gsO Q (f0 (ad 9 8)) c), .int (nI c), w5, w6, w7]) (st' := [.int (nI nc), .int (nI c)]) (M' := mm M f (up2 g0 (ad 10 0) 99 (cdS (kd + cnQ Q c)))) (ps := [ob (mm M f (up2 g0 (ad 10 0) 99 (cdS (kd + cnQ Q c)))) (ad 10 0) 12, (Value.int (f (ad 10 0) 17)) = .int (nI nc)]) rfl ⟨hM.1, congrArg Value.int ((ps f ⟨_, _, h⟩ 17 (by omega)).trans h17), trivial⟩ ?_
    refine go_icmp rfl (fun (z : nI nc ≤ (nI c)) => absurd z (show ¬ (nI nc ≤ (nI c)) from (Int32.not_le.mpr ((nI_lts (a := c) (b := nc) (by omega) (by omega)).mpr hlt)))) (fun _ => ?_)
    have e15 := pl f ⟨_, _, h⟩
    refine mo_pA (nb := nb) (wk := wk) hd hM ((ps f ⟨_, _, h⟩ 18 (by omega)).trans h18) nb3 ((ps f ⟨_, _, h⟩ 19 (by omega)).trans h19) hwk (by omega) (fun a b ha hb => ?_) ?_
    · rw [e15 15 a (by omega), e15 15 b (by omega), e15 6 a (by omega), e15 6 b (by omega), e15 7 a (by omega), e15 7 b (by omega)]; exact hu a b ha hb
    rw [cmO_congr (V := fun i k => f0 (ad 9 i) k) e15, ← hQ c]
    have b16 : ∀ b, b < nb → (∃ c', c' < c ∧ Q c' = some b ∧ f (ad 9 16) b = 1 ∧ f0 (ad 9 7) b = nI wk ∧ ¬ f0 (ad 9 15) b = 0) ∨ f (ad 9 16) b = f0 (ad 9 16) b := fun b hb => by
      by_cases z : ∃ c', c' < c ∧ Q c' = some b
      · obtain ⟨c', z1, z2⟩ := z
        have y := id z2
        rw [hQ c'] at y
        have y2 := cmP_of.mp (cmO_some y).2
        exact Or.inl ⟨c', z1, z2, (h.2.2.1 c' b z1 z2).1, y2.2.2.1, y2.1⟩
      · exact Or.inr (h.2.2.2.1 b (fun c' hc' y => z ⟨c', hc', y⟩)).1
    have n15 : ∀ b, b < nb → ¬ f (ad 9 16) b = 0 → ¬ f0 (ad 9 15) b = 0 := fun b hb z => by
      rcases b16 b hb with ⟨c', z1, z2, z3, z4, z5⟩ | y
      · exact z5
      · rw [y] at z
        rcases (h16 b hb).1 with q | q
        · exact absurd q z
        · exact (h16 b hb).2 q
    refine mo_pB (nb := nb) (wk := wk) (o := W c) hd hM ((ps f ⟨_, _, h⟩ 18 (by omega)).trans h18) nb3 ((ps f ⟨_, _, h⟩ 19 (by omega)).trans h19) hwk (fun z => h0 z c hlt) (fun b hb => ?_) (fun hn b hb z1 z2 z3 => ?_) (fun a b ha hb z1 z2 => ?_) ?_
    · rw [hW c] at hb
      obtain ⟨y1, y2, y3, y4⟩ := waO_some hb
      have y2' : f0 (ad 9 16) b = 1 := y2
      refine ⟨y1, ?_, by rw [e15 6 b (by omega)]; exact y3, by rw [e15 7 b (by omega)]; exact y4⟩
      rw [(h.2.2.2.1 b (fun c' hc' y => (hQb c' b y).2 y2')).1]
      exact y2'
    · rw [e15 6 b (by omega)] at z2
      rw [e15 7 b (by omega)] at z3
      rcases b16 b hb with ⟨c', y1, y2, y3, y4, y5⟩ | y
      · rw [y4, show nI wk + 1 = nI (wk + 1) from nI_add wk 1] at z3
        have := (nI_eqs (a := wk + 1) (b := wk) (by omega) (by omega)).mp z3
        omega
      · rw [y] at z1
        rw [hW c] at hn
        refine waO_none hn b hb ⟨?_, z2, z3⟩
        rcases (h16 b hb).1 with q | q
        · exact absurd q z1
        · exact q
    · rw [e15 6 a (by omega), e15 6 b (by omega), e15 7 a (by omega), e15 7 b (by omega)]
      exact hu a b ha hb (n15 a ha z1) (n15 b hb z2)
    have mq := cnQ_mono Q (show c + 1 ≤ nc by omega)
    refine mo_pC hd hi hM h (by omega) (by omega) (by omega) (fun c b z => ⟨Nat.lt_of_lt_of_le (hQb c b z).1 nb3, (hQb c b z).2⟩) (fun c' b hc' y1 y2 => ?_) hfr (fun f2 h2 => ?_)
    · rw [hQ c'] at y1
      rw [hQ c] at y2
      have := cm_inj (by omega) (by omega) y1 y2
      omega
    refine mo_pD hd hi hM h2 (by omega) hwk h19 (fun c b z => Nat.lt_of_lt_of_le (hQb c b z).1 nb3) (fun c b z => ?_) (fun w5 w6 w7 f3 h3 => ih _ _ _ f3 h3)
    rw [hW c] at z
    exact Nat.lt_of_lt_of_le (waO_some z).1 nb3

set_option maxHeartbeats 4000000 in
set_option maxRecDepth 100000 in
theorem s_Mo_openDay {d : Nat} {M : Mem} {f : Nat → Nat → Int32} {g0 : Nat → Nat → Int64} {ad : Nat → Nat → Nat} {R : Option Value → Mem → Prop} {nb nc nt wk ne kd : Nat} {Q W : Nat → Option Nat} (hd : 1 ≤ d) (hi : Inj ad) (hM : Mx M ad) (H : MOh ad f nb nc wk ne kd Q W) (h21 : f (ad 10 0) 21 = 0) (h95 : f (ad 10 0) 95 = nI ne) (h99 : g0 (ad 10 0) 99 = cdS kd) (hn : f (ad 10 0) 30 = nI nt) (hl : nt ≤ 3) (hR : ∀ f1 f3, MLo ad (moH f (ad 10 0)) ne kd wk Q W nc nc f1 → MT ad (mlF f1 (ad 10 0) (gsO Q (f (ad 9 8)) nc)) nt f3 → R (some (.int (nI (cnQ W nc)))) (mm M f3 (up2 g0 (ad 10 0) 99 (cdS (kd + cnQ Q nc))))) : Call d 209 [.ref (ad 10 0)] (mm M f g0) R := by
  have hwk := H.2.2.2.2.2.2.2.2.2.1.2.2
  have h19 := H.2.2.2.2.2.2.2.2.2.2.2.2
  have e9 : ∀ i, moH f (ad 10 0) (ad 9 i) = f (ad 9 i) := fun i => by
    funext k
    simp [moH, up2_ad hi]
  have eX : ∀ k, ¬ (k = 0 ∨ k = 21 ∨ k = 71 ∨ k = 20 ∨ k = 65 ∨ k = 64) → moH f (ad 10 0) (ad 10 0) k = f (ad 10 0) k := fun k z => by
    unfold moH
    rw [up2_n _ _ (fun y => z (by omega)), up2_n _ _ (fun y => z (by omega)), up2_n _ _ (fun y => z (by omega)), up2_n _ _ (fun y => z (by omega)), up2_n _ _ (fun y => z (by omega)), up2_n _ _ (fun y => z (by omega))]
  have H2 : MOh ad (moH f (ad 10 0)) nb nc wk ne kd Q W := by
    unfold MOh at H ⊢
    simp only [e9]
    rw [eX 17 (by omega), eX 18 (by omega), eX 19 (by omega)]
    exact H
  have eG : up2 g0 (ad 10 0) 99 (cdS (kd + cnQ Q 0)) = g0 := up2_self h99
  have fin := lp_MoOpen (u1 := .int (moW f (ad 10 0))) (g0 := g0) hd hi hM H2 ((eX 30 (by omega)).trans hn) hl (R := R) (by rw [e9 8]; exact hR) 0 (Nat.zero_le _) (.retAddr 0) (.retAddr 0) (.retAddr 0) _ (MLo.zero ((eX 95 (by omega)).trans h95))
  rw [eG] at fin
  show Go d 209 0 0 0 [.ref (ad 10 0), .retAddr 0, .retAddr 0, .retAddr 0, .retAddr 0, .retAddr 0, .retAddr 0, .retAddr 0] [] (mm M f g0) R
  refine go_blk 5 [some (.int 0)] (pc' := 9) (vs' := [.ref (ad 10 0), .retAddr 0, .retAddr 0, .retAddr 0, .retAddr 0, .retAddr 0, .retAddr 0, .retAddr 0]) (st' := [.int 0]) (M' := mm M (up2 f (ad 10 0) 0 0) g0) (ps := [ob (mm M f g0) (ad 10 0) 12, ob (mm M (up2 f (ad 10 0) 0 0) g0) (ad 10 0) 12, (Value.int ((up2 f (ad 10 0) 0 0) (ad 10 0) 21)) = .int 0]) rfl ⟨hM.1, hM.1, congrArg Value.int (((up2_n _ _ (fun z => absurd z.2 (by decide))).trans (rfl)).trans h21), trivial⟩ ?_
  refine go_if rfl (fun (z : ¬ (0 : Int32) = 0) => absurd z (show ¬ (¬ (0 : Int32) = 0) from (by decide))) (fun _ => ?_)
  refine go_blk 3 [some (.int (nI wk))] (pc' := 18) (vs' := [.ref (ad 10 0), .retAddr 0, .retAddr 0, .retAddr 0, .retAddr 0, .retAddr 0, .retAddr 0, .retAddr 0]) (st' := [.int 52, .int (nI wk)]) (M' := mm M (up2 f (ad 10 0) 0 0) g0) (ps := [ob (mm M (up2 f (ad 10 0) 0 0) g0) (ad 10 0) 12, (Value.int ((up2 f (ad 10 0) 0 0) (ad 10 0) 19)) = .int (nI wk)]) rfl ⟨hM.1, congrArg Value.int (((up2_n _ _ (fun z => absurd z.2 (by decide))).trans (rfl)).trans h19), trivial⟩ ?_
  refine go_icmp rfl (fun _ => ?_) (fun (z : ¬ (¬ (nI wk) = 52)) => absurd (show ¬ (nI wk) = 52 from (fun z => absurd ((nI_eqs (a := wk) (b := 52) (by omega) (by decide)).mp z) (by omega))) z)
  refine go_blk 13 [some (.int (f (ad 10 0) 63)), some (.int (f (ad 10 0) 65))] (pc' := 46) (vs' := [.ref (ad 10 0), .retAddr 0, .retAddr 0, .retAddr 0, .retAddr 0, .retAddr 0, .retAddr 0, .retAddr 0]) (st' := [.int (f (ad 10 0) 65), .int (f (ad 10 0) 63)]) (M' := mm M (up2 (up2 (up2 (up2 f (ad 10 0) 0 0) (ad 10 0) 21 1) (ad 10 0) 71 1) (ad 10 0) 20 0) g0) (ps := [ob (mm M (up2 f (ad 10 0) 0 0) g0) (ad 10 0) 12, 1 = 0 ∨ 1 = 1, ob (mm M (up2 (up2 f (ad 10 0) 0 0) (ad 10 0) 21 1) g0) (ad 10 0) 12, 1 = 0 ∨ 1 = 1, ob (mm M (up2 (up2 (up2 f (ad 10 0) 0 0) (ad 10 0) 21 1) (ad 10 0) 71 1) g0) (ad 10 0) 12, ob (mm M (up2 (up2 (up2 (up2 f (ad 10 0) 0 0) (ad 10 0) 21 1) (ad 10 0) 71 1) (ad 10 0) 20 0) g0) (ad 10 0) 12, (Value.int ((up2 (up2 (up2 (up2 f (ad 10 0) 0 0) (ad 10 0) 21 1) (ad 10 0) 71 1) (ad 10 0) 20 0) (ad 10 0) 63)) = .int (f (ad 10 0) 63), ob (mm M (up2 (up2 (up2 (up2 f (ad 10 0) 0 0) (ad 10 0) 21 1) (ad 10 0) 71 1) (ad 10 0) 20 0) g0) (ad 10 0) 12, (Value.int ((up2 (up2 (up2 (up2 f (ad 10 0) 0 0) (ad 10 0) 21 1) (ad 10 0) 71 1) (ad 10 0) 20 0) (ad 10 0) 65)) = .int (f (ad 10 0) 65)]) rfl ⟨hM.1, (Or.inr rfl), hM.1, (Or.inr rfl), hM.1, hM.1, congrArg Value.int ((up2_n _ _ (fun z => absurd z.2 (by decide))).trans ((up2_n _ _ (fun z => absurd z.2 (by decide))).trans ((up2_n _ _ (fun z => absurd z.2 (by decide))).trans ((up2_n _ _ (fun z => absurd z.2 (by decide))).trans (rfl))))), hM.1, congrArg Value.int ((up2_n _ _ (fun z => absurd z.2 (by decide))).trans ((up2_n _ _ (fun z => absurd z.2 (by decide))).trans ((up2_n _ _ (fun z => absurd z.2 (by decide))).trans ((up2_n _ _ (fun z => absurd z.2 (by decide))).trans (rfl))))), trivial⟩ ?_
  refine go_callS rfl (by decide) rfl rfl (by omega) rfl (by decide) (by decide) ?_
  refine s_JM_min0 (by omega) ⟨ne_i, ?_⟩
  show Go d 209 0 0 49 [.ref (ad 10 0), .retAddr 0, .retAddr 0, .retAddr 0, .retAddr 0, .retAddr 0, .retAddr 0, .retAddr 0] [.int (if (f (ad 10 0) 65) < (f (ad 10 0) 63) then (f (ad 10 0) 65) else (f (ad 10 0) 63))] (mm M (up2 (up2 (up2 (up2 f (ad 10 0) 0 0) (ad 10 0) 21 1) (ad 10 0) 71 1) (ad 10 0) 20 0) g0) R
  refine go_blk 19 [some (.int (f (ad 10 0) 65)), some (.int (f (ad 10 0) 64))] (pc' := 77) (vs' := [.ref (ad 10 0), .int (if (f (ad 10 0) 65) < (f (ad 10 0) 63) then (f (ad 10 0) 65) else (f (ad 10 0) 63)), .int 0, .int 0, .int 0, .retAddr 0, .retAddr 0, .retAddr 0]) (st' := []) (M' := mm M (up2 (up2 (up2 (up2 (up2 (up2 f (ad 10 0) 0 0) (ad 10 0) 21 1) (ad 10 0) 71 1) (ad 10 0) 20 0) (ad 10 0) 65 ((f (ad 10 0) 65) - (if (f (ad 10 0) 65) < (f (ad 10 0) 63) then (f (ad 10 0) 65) else (f (ad 10 0) 63)))) (ad 10 0) 64 ((f (ad 10 0) 64) + (if (f (ad 10 0) 65) < (f (ad 10 0) 63) then (f (ad 10 0) 65) else (f (ad 10 0) 63)))) g0) (ps := [(.ref (ad 10 0) : Value).category = 1, ob (mm M (up2 (up2 (up2 (up2 f (ad 10 0) 0 0) (ad 10 0) 21 1) (ad 10 0) 71 1) (ad 10 0) 20 0) g0) (ad 10 0) 12, (Value.int ((up2 (up2 (up2 (up2 f (ad 10 0) 0 0) (ad 10 0) 21 1) (ad 10 0) 71 1) (ad 10 0) 20 0) (ad 10 0) 65)) = .int (f (ad 10 0) 65), ob (mm M (up2 (up2 (up2 (up2 f (ad 10 0) 0 0) (ad 10 0) 21 1) (ad 10 0) 71 1) (ad 10 0) 20 0) g0) (ad 10 0) 12, (.ref (ad 10 0) : Value).category = 1, ob (mm M (up2 (up2 (up2 (up2 (up2 f (ad 10 0) 0 0) (ad 10 0) 21 1) (ad 10 0) 71 1) (ad 10 0) 20 0) (ad 10 0) 65 ((f (ad 10 0) 65) - (if (f (ad 10 0) 65) < (f (ad 10 0) 63) then (f (ad 10 0) 65) else (f (ad 10 0) 63)))) g0) (ad 10 0) 12, (Value.int ((up2 (up2 (up2 (up2 (up2 f (ad 10 0) 0 0) (ad 10 0) 21 1) (ad 10 0) 71 1) (ad 10 0) 20 0) (ad 10 0) 65 ((f (ad 10 0) 65) - (if (f (ad 10 0) 65) < (f (ad 10 0) 63) then (f (ad 10 0) 65) else (f (ad 10 0) 63)))) (ad 10 0) 64)) = .int (f (ad 10 0) 64), ob (mm M (up2 (up2 (up2 (up2 (up2 f (ad 10 0) 0 0) (ad 10 0) 21 1) (ad 10 0) 71 1) (ad 10 0) 20 0) (ad 10 0) 65 ((f (ad 10 0) 65) - (if (f (ad 10 0) 65) < (f (ad 10 0) 63) then (f (ad 10 0) 65) else (f (ad 10 0) 63)))) g0) (ad 10 0) 12]) rfl ⟨rfl, hM.1, congrArg Value.int ((up2_n _ _ (fun z => absurd z.2 (by decide))).trans ((up2_n _ _ (fun z => absurd z.2 (by decide))).trans ((up2_n _ _ (fun z => absurd z.2 (by decide))).trans ((up2_n _ _ (fun z => absurd z.2 (by decide))).trans (rfl))))), hM.1, rfl, hM.1, congrArg Value.int ((up2_n _ _ (fun z => absurd z.2 (by decide))).trans ((up2_n _ _ (fun z => absurd z.2 (by decide))).trans ((up2_n _ _ (fun z => absurd z.2 (by decide))).trans ((up2_n _ _ (fun z => absurd z.2 (by decide))).trans ((up2_n _ _ (fun z => absurd z.2 (by decide))).trans (rfl)))))), hM.1, trivial⟩ ?_
  exact fin

