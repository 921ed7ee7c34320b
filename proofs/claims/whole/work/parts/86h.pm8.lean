/-! the class's planner: filling, and share -/
def fil {α : Type} (a n : Nat) (v : α) (g : Nat → Nat → α) : Nat → Nat → α := fun b k => if b = a ∧ k < n then v else g b k
theorem fil_0 {α : Type} {a : Nat} {v : α} {g : Nat → Nat → α} : fil a 0 v g = g := by
  funext b k
  unfold fil
  rw [if_neg (by omega)]
theorem fil_s {α : Type} {a n : Nat} {v : α} {g : Nat → Nat → α} : up2 (fil a n v g) a n v = fil a (n + 1) v g := by
  funext b k
  unfold up2 fil
  by_cases e : b = a ∧ k = n
  · rw [if_pos e, if_pos ⟨e.1, by omega⟩]
  · rw [if_neg e]
    by_cases z : b = a ∧ k < n
    · rw [if_pos z, if_pos ⟨z.1, by omega⟩]
    · rw [if_neg z, if_neg (fun y => e ⟨y.1, by
        have : ¬ k < n := fun q => z ⟨y.1, q⟩
        omega⟩)]
theorem fil_n {α : Type} {a n b k : Nat} {v : α} {g : Nat → Nat → α} (h : ¬ (b = a ∧ k < n)) : fil a n v g b k = g b k := if_neg h
theorem fil_at {α : Type} {a n k : Nat} {v : α} {g : Nat → Nat → α} (h : k < n) : fil a n v g a k = v := if_pos ⟨rfl, h⟩
theorem dfN_sub (a b : Nat) : dfN a b &&& a = dfN a b := by
  apply Nat.eq_of_testBit_eq
  intro i
  rw [Nat.testBit_and, dfN_tb]
  cases a.testBit i <;> cases b.testBit i <;> rfl
theorem dfN_le (a b : Nat) : dfN a b ≤ a := by
  have := Nat.and_le_right (n := dfN a b) (m := a)
  rwa [dfN_sub] at this
def Ws (A F : Nat) (σ : Nat × Nat × Nat) : Prop := ∃ F' s', F' < F ∧ s' &&& dfN A F' = s' ∧ σ = (F', s', dfN (dfN A F') s')
theorem Ws_s (A F : Nat) (σ : Nat × Nat × Nat) : Ws A (F + 1) σ ↔ Wa (Ws A F) F (dfN A F) σ := by
  constructor
  · rintro ⟨F', s', h1, h2, h3⟩
    by_cases e : F' = F
    · subst e; exact Or.inr ⟨s', h2, h3⟩
    · exact Or.inl ⟨F', s', by omega, h2, h3⟩
  · rintro (⟨F', s', h1, h2, h3⟩ | ⟨s', h2, h3⟩)
    · exact ⟨F', s', by omega, h2, h3⟩
    · exact ⟨F, s', by omega, h2, h3⟩

set_option maxHeartbeats 4000000 in
set_option maxRecDepth 100000 in
theorem s_JA_fill0 {d : Nat} {M : Mem} {f : Nat → Nat → Int32} {g : Nat → Nat → Int64} {ad : Nat → Nat → Nat} {R : Option Value → Mem → Prop} {a N : Nat} {v : Int32} (hd : 0 ≤ d) (ho : ob M a 15) (hN : mN M a = N) (h31 : N < 2 ^ 31) (hR : R none (mm M (fil a N v f) g)) : Call d 6 [.ref a, .int v] (mm M f g) R := by
  have loop : ∀ n, n ≤ N → Go d 6 0 0 5 [.ref a, .int v, .int (nI n), .int (nI N)] [] (mm M (fil a n v f) g) R := by
    refine up_ind (P := fun n => Go d 6 0 0 5 [.ref a, .int v, .int (nI n), .int (nI N)] [] (mm M (fil a n v f) g) R) N ?_ (fun n hlt ih => ?_)
    ·
      show Go d 6 0 0 5 [.ref a, .int v, .int (nI N), .int (nI N)] [] (mm M (fil a N v f) g) R
      refine go_blk 2 [] (pc' := 7) (vs' := [.ref a, .int v, .int (nI N), .int (nI N)]) (st' := [.int (nI N), .int (nI N)]) (M' := mm M (fil a N v f) g) (ps := []) rfl trivial ?_
      refine go_icmp rfl (fun _ => ?_) (fun (z : ¬ (nI N ≤ (nI N))) => absurd (show nI N ≤ (nI N) from Int32.le_refl _) z)
      refine go_vret rfl rfl ?_
      exact hR
    ·
      show Go d 6 0 0 5 [.ref a, .int v, .int (nI n), .int (nI N)] [] (mm M (fil a n v f) g) R
      refine go_blk 2 [] (pc' := 7) (vs' := [.ref a, .int v, .int (nI n), .int (nI N)]) (st' := [.int (nI N), .int (nI n)]) (M' := mm M (fil a n v f) g) (ps := []) rfl trivial ?_
      refine go_icmp rfl (fun (z : nI N ≤ (nI n)) => absurd z (show ¬ (nI N ≤ (nI n)) from (Int32.not_le.mpr ((nI_lts (a := n) (b := N) (by omega) (by omega)).mpr hlt)))) (fun _ => ?_)
      refine go_blk 6 [] (pc' := 5) (vs' := [.ref a, .int v, .int ((nI n) + 1), .int (nI N)]) (st' := []) (M' := mm M (up2 (fil a n v f) a ((nI n).toNatClampNeg) v) g) (ps := [ob (mm M (fil a n v f) g) a 15, vp_in (nI n) (mN (mm M (fil a n v f) g) a)]) rfl ⟨ho, (vpi hN hlt h31), trivial⟩ ?_
      rw [nI_clamp (n := n) (by omega)]
      rw [fil_s, show nI n + 1 = nI (n + 1) from nI_add n 1]
      exact ih
  show Go d 6 0 0 0 [.ref a, .int v, .retAddr 0, .retAddr 0] [] (mm M f g) R
  refine go_blk 5 [] (pc' := 5) (vs' := [.ref a, .int v, .int 0, .int (nI (mN (mm M f g) a))]) (st' := []) (M' := mm M f g) (ps := [ob (mm M f g) a 15, 13 ≤ 15 ∧ 15 < 22]) rfl ⟨ho, (by decide), trivial⟩ ?_
  rw [show mN (mm M f g) a = N from hN]
  have z := loop 0 (Nat.zero_le _)
  rw [fil_0] at z
  exact z

set_option maxHeartbeats 4000000 in
set_option maxRecDepth 100000 in
theorem s_JA_fill1 {d : Nat} {M : Mem} {f : Nat → Nat → Int32} {g : Nat → Nat → Int64} {ad : Nat → Nat → Nat} {R : Option Value → Mem → Prop} {a N : Nat} {v : Int64} (hd : 0 ≤ d) (ho : ob M a 16) (hN : mN M a = N) (h31 : N < 2 ^ 31) (hR : R none (mm M f (fil a N v g))) : Call d 7 [.ref a, .long v] (mm M f g) R := by
  have loop : ∀ n, n ≤ N → Go d 7 0 0 6 [.ref a, .long v, .retAddr 1, .int (nI n), .int (nI N)] [] (mm M f (fil a n v g)) R := by
    refine up_ind (P := fun n => Go d 7 0 0 6 [.ref a, .long v, .retAddr 1, .int (nI n), .int (nI N)] [] (mm M f (fil a n v g)) R) N ?_ (fun n hlt ih => ?_)
    ·
      show Go d 7 0 0 6 [.ref a, .long v, .retAddr 1, .int (nI N), .int (nI N)] [] (mm M f (fil a N v g)) R
      refine go_blk 2 [] (pc' := 9) (vs' := [.ref a, .long v, .retAddr 1, .int (nI N), .int (nI N)]) (st' := [.int (nI N), .int (nI N)]) (M' := mm M f (fil a N v g)) (ps := []) rfl trivial ?_
      refine go_icmp rfl (fun _ => ?_) (fun (z : ¬ (nI N ≤ (nI N))) => absurd (show nI N ≤ (nI N) from Int32.le_refl _) z)
      refine go_vret rfl rfl ?_
      exact hR
    ·
      show Go d 7 0 0 6 [.ref a, .long v, .retAddr 1, .int (nI n), .int (nI N)] [] (mm M f (fil a n v g)) R
      refine go_blk 2 [] (pc' := 9) (vs' := [.ref a, .long v, .retAddr 1, .int (nI n), .int (nI N)]) (st' := [.int (nI N), .int (nI n)]) (M' := mm M f (fil a n v g)) (ps := []) rfl trivial ?_
      refine go_icmp rfl (fun (z : nI N ≤ (nI n)) => absurd z (show ¬ (nI N ≤ (nI n)) from (Int32.not_le.mpr ((nI_lts (a := n) (b := N) (by omega) (by omega)).mpr hlt)))) (fun _ => ?_)
      refine go_blk 6 [] (pc' := 6) (vs' := [.ref a, .long v, .retAddr 1, .int ((nI n) + 1), .int (nI N)]) (st' := []) (M' := mm M f (up2 (fil a n v g) a ((nI n).toNatClampNeg) v)) (ps := [ob (mm M f (fil a n v g)) a 16, vp_in (nI n) (mN (mm M f (fil a n v g)) a)]) rfl ⟨ho, (vpi hN hlt h31), trivial⟩ ?_
      rw [nI_clamp (n := n) (by omega)]
      rw [fil_s, show nI n + 1 = nI (n + 1) from nI_add n 1]
      exact ih
  show Go d 7 0 0 0 [.ref a, .long v, .retAddr 1, .retAddr 0, .retAddr 0] [] (mm M f g) R
  refine go_blk 5 [] (pc' := 6) (vs' := [.ref a, .long v, .retAddr 1, .int 0, .int (nI (mN (mm M f g) a))]) (st' := []) (M' := mm M f g) (ps := [ob (mm M f g) a 16, 13 ≤ 16 ∧ 16 < 22]) rfl ⟨ho, (by decide), trivial⟩ ?_
  rw [show mN (mm M f g) a = N from hN]
  have z := loop 0 (Nat.zero_le _)
  rw [fil_0] at z
  exact z

set_option maxHeartbeats 4000000 in
set_option maxRecDepth 100000 in
theorem s_Pl_share {d : Nat} {M : Mem} {f : Nat → Nat → Int32} {g : Nat → Nat → Int64} {ad : Nat → Nat → Nat} {R : Option Value → Mem → Prop} {C Q : Nat → Nat → Nat} {ceil T A : Nat} (hd : 2 ≤ d) (hi : Inj ad) (hF : Fx M ad) (hce : ceil < 2 ^ 59) (tb : TBm ad C Q f g) (hQ : ∀ σ : Nat × Nat × Nat, c3 C σ ≤ ceil → (q3 Q σ).1 < 2 ^ 31 ∧ (q3 Q σ).2.1 < 2 ^ 31 ∧ (q3 Q σ).2.2 < 2 ^ 31) (hT : T ≤ 7) (hA : 2 ^ T = A + 1) (h2 : f (ad 0 7) 2 = nI T) (h16 : g (ad 0 7) 16 = lN ceil) (hR : ∀ B y, SV C Q ceil (Ws A (A + 1)) B y → R none (mm M (brF ad f y) (up2 g (ad 0 7) 17 (lN B)))) : Call d 64 [.ref (ad 0 7)] (mm M f g) R := by
  have A7 : A < 128 := by
    have : 2 ^ T ≤ 2 ^ 7 := Nat.pow_le_pow_right (by decide) hT
    omega
  have loop : ∀ F, F ≤ A + 1 → ∀ B y, SV C Q ceil (Ws A F) B y → Go d 64 0 0 21 [.ref (ad 0 7), .int (nI A), .int (nI F)] [] (mm M (brF ad f y) (up2 g (ad 0 7) 17 (lN B))) R := by
    refine up_ind (P := fun F => ∀ B y, SV C Q ceil (Ws A F) B y → Go d 64 0 0 21 [.ref (ad 0 7), .int (nI A), .int (nI F)] [] (mm M (brF ad f y) (up2 g (ad 0 7) 17 (lN B))) R) (A + 1) (fun B y hV => ?_) (fun F hlt ih B y hV => ?_)
    ·
      show Go d 64 0 0 21 [.ref (ad 0 7), .int (nI A), .int (nI (A + 1))] [] (mm M (brF ad f y) (up2 g (ad 0 7) 17 (lN B))) R
      refine go_blk 2 [] (pc' := 23) (vs' := [.ref (ad 0 7), .int (nI A), .int (nI (A + 1))]) (st' := [.int (nI A), .int (nI (A + 1))]) (M' := mm M (brF ad f y) (up2 g (ad 0 7) 17 (lN B))) (ps := []) rfl trivial ?_
      refine go_icmp rfl (fun _ => ?_) (fun (z : ¬ (nI A < (nI (A + 1)))) => absurd (show nI A < (nI (A + 1)) from ((nI_lts (a := A) (b := A + 1) (by omega) (by omega)).mpr (by omega))) z)
      refine go_vret rfl rfl ?_
      exact hR B y hV
    · have c0 : g (ad 0 19) F = lN (C 0 F) ∧ C 0 F ≤ 2 ^ 60 := by
        have := tb 0 F (by omega) (by omega)
        rw [Nat.mul_zero, Nat.zero_add] at this
        exact ⟨this.1, this.2.2⟩
      have B0 := hV.1
      have rA : dfN A F ≤ A := dfN_le A F
      show Go d 64 0 0 21 [.ref (ad 0 7), .int (nI A), .int (nI F)] [] (mm M (brF ad f y) (up2 g (ad 0 7) 17 (lN B))) R
      refine go_blk 2 [] (pc' := 23) (vs' := [.ref (ad 0 7), .int (nI A), .int (nI F)]) (st' := [.int (nI A), .int (nI F)]) (M' := mm M (brF ad f y) (up2 g (ad 0 7) 17 (lN B))) (ps := []) rfl trivial ?_
      refine go_icmp rfl (fun (z : nI A < (nI F)) => absurd z (show ¬ (nI A < (nI F)) from (Int32.not_lt.mpr ((nI_les (a := F) (b := A) (by omega) (by omega)).mpr (by omega))))) (fun _ => ?_)
      refine go_blk 7 [some (.ref (ad 0 19)), some (.long (lN (C 0 F))), some (.long (lN B))] (pc' := 37) (vs' := [.ref (ad 0 7), .int (nI A), .int (nI F)]) (st' := [.int (lg_cmp (lN (C 0 F)) (lN B))]) (M' := mm M (brF ad f y) (up2 g (ad 0 7) 17 (lN B))) (ps := [ob (mm M (brF ad f y) (up2 g (ad 0 7) 17 (lN B))) (ad 0 7) 6, mR (mm M (brF ad f y) (up2 g (ad 0 7) 17 (lN B))) (ad 0 7) 5 = some (ad 0 19), va_rf (some (ad 0 19)) = .ref (ad 0 19), ob (mm M (brF ad f y) (up2 g (ad 0 7) 17 (lN B))) (ad 0 19) 16, vp_in (nI F) (mN (mm M (brF ad f y) (up2 g (ad 0 7) 17 (lN B))) (ad 0 19)), (Value.long ((up2 g (ad 0 7) 17 (lN B)) (ad 0 19) ((nI F).toNatClampNeg))) = .long (lN (C 0 F)), ob (mm M (brF ad f y) (up2 g (ad 0 7) 17 (lN B))) (ad 0 7) 6, (Value.long ((up2 g (ad 0 7) 17 (lN B)) (ad 0 7) 17)) = .long (lN B)]) rfl ⟨(hF.o 7), (hF.r 7 5 19), rfl, (hF.o 19), (vpi (hF.n 19) (show _ < 384 by omega)), congrArg Value.long ((congrArg (fun z => (up2 g (ad 0 7) 17 (lN B)) (ad 0 19) z) (nI_clamp (by omega))).trans ((up2_n _ _ (fun z => by have := (hi _ _ _ _ z.1).2; omega)).trans c0.1)), (hF.o 7), congrArg Value.long (up2_s _ _ _ _), trivial⟩ ?_
      refine go_if rfl (fun (c21 : 0 < (lg_cmp (lN (C 0 F)) (lN B))) => ?_) (fun (c21 : ¬ (0 < (lg_cmp (lN (C 0 F)) (lN B)))) => ?_)
      · -- 0 < (lg_cmp (lN (C 0 F)) (lN B))
        refine go_blk 2 [] (pc' := 21) (vs' := [.ref (ad 0 7), .int (nI A), .int ((nI F) + 1)]) (st' := []) (M' := mm M (brF ad f y) (up2 g (ad 0 7) 17 (lN B))) (ps := []) rfl trivial ?_
        have gt := (lgG (a := C 0 F) (b := B) (by omega) (by omega)).mp c21
        rw [show nI F + 1 = nI (F + 1) from nI_add F 1]
        refine ih B y (hV.more (fun σ hσ => ?_) (fun σ hσ => (Ws_s A F σ).mpr (Or.inl hσ)))
        rcases (Ws_s A F σ).mp hσ with z | ⟨s', -, rfl⟩
        · exact Or.inl z
        · exact Or.inr (by unfold c3; simp only; omega)
      · -- ¬ (0 < (lg_cmp (lN (C 0 F)) (lN B)))
        refine go_blk 8 [] (pc' := 48) (vs' := [.ref (ad 0 7), .int (nI A), .int (nI F)]) (st' := [.int (nI A), .int ((nI A) &&& ((nI F) ^^^ (-1))), .int (nI F), .ref (ad 0 7)]) (M' := mm M (brF ad f y) (up2 g (ad 0 7) 17 (lN B))) (ps := []) rfl trivial ?_
        rw [nI_df (by omega)]
        refine go_callV rfl rfl rfl (by omega) rfl (by decide) (by decide) (hF.o 7) ?_
        refine s_Pl_shareOthers (C := C) (Q := Q) (r := dfN A F) (by omega) hi hF hce tb hQ (by omega) (by omega) A7 rA hV (fun B2 y2 hV2 => ⟨ne_v, ?_⟩)
        · -- ('v',)
          show Go d 64 0 0 51 [.ref (ad 0 7), .int (nI A), .int (nI F)] [] (mm M (brF ad f y2) (up2 g (ad 0 7) 17 (lN B2))) R
          refine go_blk 2 [] (pc' := 21) (vs' := [.ref (ad 0 7), .int (nI A), .int ((nI F) + 1)]) (st' := []) (M' := mm M (brF ad f y2) (up2 g (ad 0 7) 17 (lN B2))) (ps := []) rfl trivial ?_
          rw [show nI F + 1 = nI (F + 1) from nI_add F 1]
          exact ih B2 y2 (hV2.congr (Ws_s A F))
  show Go d 64 0 0 0 [.ref (ad 0 7), .retAddr 0, .retAddr 0] [] (mm M f g) R
  refine go_blk 6 [some (.int (nI T))] (pc' := 8) (vs' := [.ref (ad 0 7), .retAddr 0, .retAddr 0]) (st' := [.int ((1 <<< ((nI T) &&& 31)) - 1)]) (M' := mm M f g) (ps := [ob (mm M f g) (ad 0 7) 6, (Value.int (f (ad 0 7) 2)) = .int (nI T)]) rfl ⟨(hF.o 7), congrArg Value.int h2, trivial⟩ ?_
  rw [nI_sh1 T (by omega), hA, nI_s1]
  show Go d 64 0 0 8 [.ref (ad 0 7), .retAddr 0, .retAddr 0] [.int (nI A)] (mm M f g) R
  refine go_blk 9 [some (.long (lN ceil))] (pc' := 21) (vs' := [.ref (ad 0 7), .int (nI A), .int 0]) (st' := []) (M' := mm M f (up2 g (ad 0 7) 17 ((lN ceil) + 1))) (ps := [ob (mm M f g) (ad 0 7) 6, (Value.long (g (ad 0 7) 16)) = .long (lN ceil), ob (mm M f g) (ad 0 7) 6]) rfl ⟨(hF.o 7), congrArg Value.long h16, (hF.o 7), trivial⟩ ?_
  rw [lN_1]
  have z := loop 0 (Nat.zero_le _) (ceil + 1) (f (ad 0 30) 0, f (ad 0 30) 1, f (ad 0 30) 2) ⟨Nat.le_refl _, fun y => absurd y (by omega), fun σ hσ => by obtain ⟨F', s', h1, -⟩ := hσ; exact absurd h1 (by omega)⟩
  rw [brF_self] at z
  exact z

