/-! moves: the class's search -/
def MC (ad : Nat → Nat → Nat) (F f : Nat → Nat → Int32) (gs : List Nat) (nc i : Nat) (fr : Nat → Bool) (acc : Nat → Int32) (B : MvB) : Prop :=
  (∀ x k, ¬ (x = ad 0 6 ∧ (k = 7 ∨ k = 8)) → ¬ x = ad 0 12 → ¬ x = ad 0 14 → ¬ x = ad 0 15 → f x k = F x k) ∧ (∀ c, c < nc → f (ad 0 12) c = if fr c = true then 1 else 0) ∧ (∀ k, k < i → f (ad 0 14) k = acc (gs.getD k 0)) ∧
  f (ad 0 6) 7 = mvM B ∧ f (ad 0 6) 8 = mvA B ∧ ∀ r, B = some r → ∀ k, k < gs.length → f (ad 0 15) k = r.2.2 (gs.getD k 0)
/-- the mover's lists -/
def MG (M : Mem) (ad : Nat → Nat → Nat) (F : Nat → Nat → Int32) (gs : List Nat) (nc nb : Nat) : Prop :=
  (Inj ad ∧ Fx M ad ∧ Cs M ad nc ∧ Bs M ad nb) ∧ (F (ad 0 6) 2 = nI nc ∧ F (ad 0 6) 4 = nI gs.length ∧ nc ≤ 7 ∧ gs.length ≤ 7 ∧ gs.Nodup ∧ ∀ b, b ∈ gs → b < nb) ∧ (∀ c, c < nc → mR M (ad 0 11) c = some (ad 1 c)) ∧ ∀ k, k < gs.length → mR M (ad 0 13) k = some (ad 2 (gs.getD k 0))

set_option maxRecDepth 100000 in
theorem s_Co_takes {d : Nat} {M : Mem} {f : Nat → Nat → Int32} {g : Nat → Nat → Int64} {ad : Nat → Nat → Nat} {R : Option Value → Mem → Prop} {x y : Int32} {c nc : Nat} (hC : Cs M ad nc) (hc : c < nc) (h1 : (1 ≤ x ∧ x ≤ f (ad 1 c) 0 ∧ (¬ f (ad 1 c) 1 = 0 ∨ y = 0)) → R (some (.int 1)) (mm M f g)) (h0 : ¬ (1 ≤ x ∧ x ≤ f (ad 1 c) 0 ∧ (¬ f (ad 1 c) 1 = 0 ∨ y = 0)) → R (some (.int 0)) (mm M f g)) : Call d 21 [.ref (ad 1 c), .int x, .int y] (mm M f g) R := by
  show Go d 21 0 0 0 [.ref (ad 1 c), .int x, .int y] [] (mm M f g) R
  refine go_blk 2 [] (pc' := 2) (vs' := [.ref (ad 1 c), .int x, .int y]) (st' := [.int 1, .int x]) (M' := mm M f g) (ps := []) rfl trivial ?_
  refine go_icmp rfl (fun (c1 : x < 1) => ?_) (fun (c1 : ¬ (x < 1)) => ?_)
  · -- x < 1
    refine go_blk 1 [] (pc' := 29) (vs' := [.ref (ad 1 c), .int x, .int y]) (st' := [.int 0]) (M' := mm M f g) (ps := []) rfl trivial ?_
    refine go_zret rfl rfl (Or.inl rfl) ?_
    exact h0 (by grind)
  · -- ¬ (x < 1)
    refine go_blk 3 [] (pc' := 10) (vs' := [.ref (ad 1 c), .int x, .int y]) (st' := [.int (f (ad 1 c) 0), .int x]) (M' := mm M f g) (ps := [ob (mm M f g) (ad 1 c) 2]) rfl ⟨(hC c (by assumption)).2, trivial⟩ ?_
    refine go_icmp rfl (fun (c2 : f (ad 1 c) 0 < x) => ?_) (fun (c2 : ¬ (f (ad 1 c) 0 < x)) => ?_)
    · -- f (ad 1 c) 0 < x
      refine go_blk 1 [] (pc' := 29) (vs' := [.ref (ad 1 c), .int x, .int y]) (st' := [.int 0]) (M' := mm M f g) (ps := []) rfl trivial ?_
      refine go_zret rfl rfl (Or.inl rfl) ?_
      exact h0 (by grind)
    · -- ¬ (f (ad 1 c) 0 < x)
      refine go_blk 2 [] (pc' := 17) (vs' := [.ref (ad 1 c), .int x, .int y]) (st' := [.int (f (ad 1 c) 1)]) (M' := mm M f g) (ps := [ob (mm M f g) (ad 1 c) 2]) rfl ⟨(hC c (by assumption)).2, trivial⟩ ?_
      refine go_if rfl (fun (c3 : ¬ (f (ad 1 c) 1) = 0) => ?_) (fun (c3 : ¬ (¬ (f (ad 1 c) 1) = 0)) => ?_)
      · -- ¬ (f (ad 1 c) 1) = 0
        refine go_blk 2 [] (pc' := 29) (vs' := [.ref (ad 1 c), .int x, .int y]) (st' := [.int 1]) (M' := mm M f g) (ps := []) rfl trivial ?_
        refine go_zret rfl rfl (Or.inr rfl) ?_
        exact h1 (by grind)
      · -- ¬ (¬ (f (ad 1 c) 1) = 0)
        refine go_blk 1 [] (pc' := 21) (vs' := [.ref (ad 1 c), .int x, .int y]) (st' := [.int y]) (M' := mm M f g) (ps := []) rfl trivial ?_
        refine go_if rfl (fun (c4 : ¬ y = 0) => ?_) (fun (c4 : ¬ (¬ y = 0)) => ?_)
        · -- ¬ y = 0
          refine go_blk 1 [] (pc' := 29) (vs' := [.ref (ad 1 c), .int x, .int y]) (st' := [.int 0]) (M' := mm M f g) (ps := []) rfl trivial ?_
          refine go_zret rfl rfl (Or.inl rfl) ?_
          exact h0 (by grind)
        · -- ¬ (¬ y = 0)
          refine go_blk 2 [] (pc' := 29) (vs' := [.ref (ad 1 c), .int x, .int y]) (st' := [.int 1]) (M' := mm M f g) (ps := []) rfl trivial ?_
          refine go_zret rfl rfl (Or.inr rfl) ?_
          exact h1 (by grind)

set_option maxRecDepth 100000 in
theorem s_Mv_keep {d : Nat} {M : Mem} {f F : Nat → Nat → Int32} {g : Nat → Nat → Int64} {ad : Nat → Nat → Nat} {R : Option Value → Mem → Prop} {gs : List Nat} {nc nb m : Nat} {fr : Nat → Bool} {acc : Nat → Int32} {B : MvB} {a : Int32} (hd : 1 ≤ d) (hG : MG M ad F gs nc nb) (hm : m ≤ 60) (hB1 : ∀ r, B = some r → r.1 ≤ 60) (hf : MC ad F f gs nc gs.length fr acc B) (hR : ∀ f', MC ad F f' gs nc gs.length fr acc (mvU B m a acc) → R none (mm M f' g)) : Call d 42 [.ref (ad 0 6), .int (nI m), .int a] (mm M f g) R := by
  obtain ⟨⟨hi, hF, hC, hB⟩, ⟨g2, g4, gnc, gl7, gnd, gnb⟩, gh, gg⟩ := hG
  have n612 : ∀ i j, ¬ i = j → ¬ ad 0 i = ad 0 j := fun i j z y => z (hi _ _ _ _ y).2
  have upd : R none (mm M (va_up (up2 (up2 f (ad 0 6) 7 (nI m)) (ad 0 6) 8 a) (ad 0 15) (va_cpy ((up2 (up2 f (ad 0 6) 7 (nI m)) (ad 0 6) 8 a) (ad 0 14)) ((up2 (up2 f (ad 0 6) 7 (nI m)) (ad 0 6) 8 a) (ad 0 15)) 0 0 gs.length)) g) → True := fun _ => trivial
  have done : mvU B m a acc = some (m, a, acc) → R none (mm M (va_up (up2 (up2 f (ad 0 6) 7 (nI m)) (ad 0 6) 8 a) (ad 0 15) (va_cpy ((up2 (up2 f (ad 0 6) 7 (nI m)) (ad 0 6) 8 a) (ad 0 14)) ((up2 (up2 f (ad 0 6) 7 (nI m)) (ad 0 6) 8 a) (ad 0 15)) 0 0 gs.length)) g) := by
    intro e
    refine hR _ ?_
    rw [e]
    refine ⟨fun x k z1 z2 z3 z4 => ?_, fun c hc => ?_, fun k hk => ?_, ?_, ?_, fun r hr k hk => ?_⟩
    · simp only [va_up, if_neg z4]
      rw [up2_n _ _ (fun z => z1 ⟨z.1, Or.inr z.2⟩), up2_n _ _ (fun z => z1 ⟨z.1, Or.inl z.2⟩)]
      exact hf.1 x k z1 z2 z3 z4
    · simp only [va_up, if_neg (n612 12 15 (by decide))]
      rw [up2_n _ _ (fun z => n612 12 6 (by decide) z.1), up2_n _ _ (fun z => n612 12 6 (by decide) z.1)]
      exact hf.2.1 c hc
    · simp only [va_up, if_neg (n612 14 15 (by decide))]
      rw [up2_n _ _ (fun z => n612 14 6 (by decide) z.1), up2_n _ _ (fun z => n612 14 6 (by decide) z.1)]
      exact hf.2.2.1 k hk
    · simp only [va_up, if_neg (n612 6 15 (by decide))]
      rw [up2_n _ _ (fun z => absurd z.2 (by decide)), up2_s]; rfl
    · simp only [va_up, if_neg (n612 6 15 (by decide))]
      rw [up2_s]; rfl
    · cases hr
      rw [va_s]
      show (if 0 ≤ k ∧ k < 0 + gs.length then (up2 (up2 f (ad 0 6) 7 (nI m)) (ad 0 6) 8 a) (ad 0 14) (0 + (k - 0)) else _) = _
      rw [if_pos (by omega), up2_n _ _ (fun z => n612 14 6 (by decide) z.1), up2_n _ _ (fun z => n612 14 6 (by decide) z.1)]
      simp only [Nat.zero_add, Nat.sub_zero]
      exact hf.2.2.1 k hk
  have stay : mvU B m a acc = B → R none (mm M f g) := fun e => hR f (by rw [e]; exact hf)
  cases B with
  | none =>
    show Go d 42 0 0 0 [.ref (ad 0 6), .int (nI m), .int a] [] (mm M f g) R
    refine go_blk 3 [some (.int (-1))] (pc' := 5) (vs' := [.ref (ad 0 6), .int (nI m), .int a]) (st' := [.int (-1), .int (nI m)]) (M' := mm M f g) (ps := [ob (mm M f g) (ad 0 6) 5, (Value.int (f (ad 0 6) 7)) = .int (-1)]) rfl ⟨(hF.o 6), congrArg Value.int hf.2.2.2.1, trivial⟩ ?_
    refine go_icmp rfl (fun _ => ?_) (fun (z : ¬ ((-1) < (nI m))) => absurd (show (-1) < (nI m) from (by rw [i32_lt, nI_toInt (by omega)]; show (-1 : Int) < m; omega)) z)
    refine go_blk 14 [some (.ref (ad 0 14)), some (.ref (ad 0 15)), some (.int (nI gs.length))] (pc' := 48) (vs' := [.ref (ad 0 6), .int (nI m), .int a]) (st' := [.int (nI gs.length), .int 0, .ref (ad 0 15), .int 0, .ref (ad 0 14)]) (M' := mm M (up2 (up2 f (ad 0 6) 7 (nI m)) (ad 0 6) 8 a) g) (ps := [ob (mm M f g) (ad 0 6) 5, ob (mm M (up2 f (ad 0 6) 7 (nI m)) g) (ad 0 6) 5, ob (mm M (up2 (up2 f (ad 0 6) 7 (nI m)) (ad 0 6) 8 a) g) (ad 0 6) 5, mR (mm M (up2 (up2 f (ad 0 6) 7 (nI m)) (ad 0 6) 8 a) g) (ad 0 6) 5 = some (ad 0 14), va_rf (some (ad 0 14)) = .ref (ad 0 14), ob (mm M (up2 (up2 f (ad 0 6) 7 (nI m)) (ad 0 6) 8 a) g) (ad 0 6) 5, mR (mm M (up2 (up2 f (ad 0 6) 7 (nI m)) (ad 0 6) 8 a) g) (ad 0 6) 6 = some (ad 0 15), va_rf (some (ad 0 15)) = .ref (ad 0 15), ob (mm M (up2 (up2 f (ad 0 6) 7 (nI m)) (ad 0 6) 8 a) g) (ad 0 6) 5, (Value.int ((up2 (up2 f (ad 0 6) 7 (nI m)) (ad 0 6) 8 a) (ad 0 6) 4)) = .int (nI gs.length)]) rfl ⟨(hF.o 6), (hF.o 6), (hF.o 6), (hF.r 6 5 14), rfl, (hF.o 6), (hF.r 6 6 15), rfl, (hF.o 6), congrArg Value.int (((up2_n _ _ (fun z => absurd z.2 (by decide))).trans ((up2_n _ _ (fun z => absurd z.2 (by decide))).trans (rfl))).trans ((hf.1 _ _ (fun z => absurd z.2 (by decide)) (fun z => absurd (hi _ _ _ _ z).2 (by decide)) (fun z => absurd (hi _ _ _ _ z).2 (by decide)) (fun z => absurd (hi _ _ _ _ z).2 (by decide))).trans g4)), trivial⟩ ?_
    refine go_acp rfl (by omega) (by decide) (hF.o 14) (hF.o 15) (by decide) (by decide) (nI_nlt0 (by omega)) (by rw [nI_clamp (by omega)]; have e : mN M (ad 0 14) = 7 := hF.n 14; show 0 + gs.length ≤ mN M (ad 0 14); omega) (by rw [nI_clamp (by omega)]; have e : mN M (ad 0 15) = 7 := hF.n 15; show 0 + gs.length ≤ mN M (ad 0 15); omega) ?_
    rw [nI_clamp (n := gs.length) (by omega)]
    show Go d 42 0 0 51 [.ref (ad 0 6), .int (nI m), .int a] [] (mm M (va_up (up2 (up2 f (ad 0 6) 7 (nI m)) (ad 0 6) 8 a) (ad 0 15) (va_cpy ((up2 (up2 f (ad 0 6) 7 (nI m)) (ad 0 6) 8 a) (ad 0 14)) ((up2 (up2 f (ad 0 6) 7 (nI m)) (ad 0 6) 8 a) (ad 0 15)) 0 0 gs.length)) g) R
    refine go_vret rfl rfl ?_
    exact done rfl
  | some r =>
    have hr1 := hB1 r rfl
    show Go d 42 0 0 0 [.ref (ad 0 6), .int (nI m), .int a] [] (mm M f g) R
    refine go_blk 3 [some (.int (nI r.1))] (pc' := 5) (vs' := [.ref (ad 0 6), .int (nI m), .int a]) (st' := [.int (nI r.1), .int (nI m)]) (M' := mm M f g) (ps := [ob (mm M f g) (ad 0 6) 5, (Value.int (f (ad 0 6) 7)) = .int (nI r.1)]) rfl ⟨(hF.o 6), congrArg Value.int hf.2.2.2.1, trivial⟩ ?_
    refine go_icmp rfl (fun (c1 : nI r.1 < (nI m)) => ?_) (fun (c1 : ¬ (nI r.1 < (nI m))) => ?_)
    · -- nI r.1 < (nI m)
      refine go_blk 14 [some (.ref (ad 0 14)), some (.ref (ad 0 15)), some (.int (nI gs.length))] (pc' := 48) (vs' := [.ref (ad 0 6), .int (nI m), .int a]) (st' := [.int (nI gs.length), .int 0, .ref (ad 0 15), .int 0, .ref (ad 0 14)]) (M' := mm M (up2 (up2 f (ad 0 6) 7 (nI m)) (ad 0 6) 8 a) g) (ps := [ob (mm M f g) (ad 0 6) 5, ob (mm M (up2 f (ad 0 6) 7 (nI m)) g) (ad 0 6) 5, ob (mm M (up2 (up2 f (ad 0 6) 7 (nI m)) (ad 0 6) 8 a) g) (ad 0 6) 5, mR (mm M (up2 (up2 f (ad 0 6) 7 (nI m)) (ad 0 6) 8 a) g) (ad 0 6) 5 = some (ad 0 14), va_rf (some (ad 0 14)) = .ref (ad 0 14), ob (mm M (up2 (up2 f (ad 0 6) 7 (nI m)) (ad 0 6) 8 a) g) (ad 0 6) 5, mR (mm M (up2 (up2 f (ad 0 6) 7 (nI m)) (ad 0 6) 8 a) g) (ad 0 6) 6 = some (ad 0 15), va_rf (some (ad 0 15)) = .ref (ad 0 15), ob (mm M (up2 (up2 f (ad 0 6) 7 (nI m)) (ad 0 6) 8 a) g) (ad 0 6) 5, (Value.int ((up2 (up2 f (ad 0 6) 7 (nI m)) (ad 0 6) 8 a) (ad 0 6) 4)) = .int (nI gs.length)]) rfl ⟨(hF.o 6), (hF.o 6), (hF.o 6), (hF.r 6 5 14), rfl, (hF.o 6), (hF.r 6 6 15), rfl, (hF.o 6), congrArg Value.int (((up2_n _ _ (fun z => absurd z.2 (by decide))).trans ((up2_n _ _ (fun z => absurd z.2 (by decide))).trans (rfl))).trans ((hf.1 _ _ (fun z => absurd z.2 (by decide)) (fun z => absurd (hi _ _ _ _ z).2 (by decide)) (fun z => absurd (hi _ _ _ _ z).2 (by decide)) (fun z => absurd (hi _ _ _ _ z).2 (by decide))).trans g4)), trivial⟩ ?_
      refine go_acp rfl (by omega) (by decide) (hF.o 14) (hF.o 15) (by decide) (by decide) (nI_nlt0 (by omega)) (by rw [nI_clamp (by omega)]; have e : mN M (ad 0 14) = 7 := hF.n 14; show 0 + gs.length ≤ mN M (ad 0 14); omega) (by rw [nI_clamp (by omega)]; have e : mN M (ad 0 15) = 7 := hF.n 15; show 0 + gs.length ≤ mN M (ad 0 15); omega) ?_
      rw [nI_clamp (n := gs.length) (by omega)]
      show Go d 42 0 0 51 [.ref (ad 0 6), .int (nI m), .int a] [] (mm M (va_up (up2 (up2 f (ad 0 6) 7 (nI m)) (ad 0 6) 8 a) (ad 0 15) (va_cpy ((up2 (up2 f (ad 0 6) 7 (nI m)) (ad 0 6) 8 a) (ad 0 14)) ((up2 (up2 f (ad 0 6) 7 (nI m)) (ad 0 6) 8 a) (ad 0 15)) 0 0 gs.length)) g) R
      refine go_vret rfl rfl ?_
      refine done (if_pos ?_)
      have q1 := nI_lts (a := r.1) (b := m) (by omega) (by omega)
      have q2 := nI_eqs (a := m) (b := r.1) (by omega) (by omega)
      grind
    · -- ¬ (nI r.1 < (nI m))
      refine go_blk 3 [some (.int (nI r.1))] (pc' := 13) (vs' := [.ref (ad 0 6), .int (nI m), .int a]) (st' := [.int (nI r.1), .int (nI m)]) (M' := mm M f g) (ps := [ob (mm M f g) (ad 0 6) 5, (Value.int (f (ad 0 6) 7)) = .int (nI r.1)]) rfl ⟨(hF.o 6), congrArg Value.int hf.2.2.2.1, trivial⟩ ?_
      refine go_icmp rfl (fun (c2 : ¬ (nI m) = nI r.1) => ?_) (fun (c2 : ¬ (¬ (nI m) = nI r.1)) => ?_)
      · -- ¬ (nI m) = nI r.1
        refine go_vret rfl rfl ?_
        refine stay (if_neg ?_)
        have q1 := nI_lts (a := r.1) (b := m) (by omega) (by omega)
        have q2 := nI_eqs (a := m) (b := r.1) (by omega) (by omega)
        grind
      · -- ¬ (¬ (nI m) = nI r.1)
        refine go_blk 3 [some (.int r.2.1)] (pc' := 21) (vs' := [.ref (ad 0 6), .int (nI m), .int a]) (st' := [.int r.2.1, .int a]) (M' := mm M f g) (ps := [ob (mm M f g) (ad 0 6) 5, (Value.int (f (ad 0 6) 8)) = .int r.2.1]) rfl ⟨(hF.o 6), congrArg Value.int hf.2.2.2.2.1, trivial⟩ ?_
        refine go_icmp rfl (fun (c3 : r.2.1 ≤ a) => ?_) (fun (c3 : ¬ (r.2.1 ≤ a)) => ?_)
        · -- r.2.1 ≤ a
          refine go_vret rfl rfl ?_
          refine stay (if_neg ?_)
          have q1 := nI_lts (a := r.1) (b := m) (by omega) (by omega)
          have q2 := nI_eqs (a := m) (b := r.1) (by omega) (by omega)
          grind
        · -- ¬ (r.2.1 ≤ a)
          refine go_blk 14 [some (.ref (ad 0 14)), some (.ref (ad 0 15)), some (.int (nI gs.length))] (pc' := 48) (vs' := [.ref (ad 0 6), .int (nI m), .int a]) (st' := [.int (nI gs.length), .int 0, .ref (ad 0 15), .int 0, .ref (ad 0 14)]) (M' := mm M (up2 (up2 f (ad 0 6) 7 (nI m)) (ad 0 6) 8 a) g) (ps := [ob (mm M f g) (ad 0 6) 5, ob (mm M (up2 f (ad 0 6) 7 (nI m)) g) (ad 0 6) 5, ob (mm M (up2 (up2 f (ad 0 6) 7 (nI m)) (ad 0 6) 8 a) g) (ad 0 6) 5, mR (mm M (up2 (up2 f (ad 0 6) 7 (nI m)) (ad 0 6) 8 a) g) (ad 0 6) 5 = some (ad 0 14), va_rf (some (ad 0 14)) = .ref (ad 0 14), ob (mm M (up2 (up2 f (ad 0 6) 7 (nI m)) (ad 0 6) 8 a) g) (ad 0 6) 5, mR (mm M (up2 (up2 f (ad 0 6) 7 (nI m)) (ad 0 6) 8 a) g) (ad 0 6) 6 = some (ad 0 15), va_rf (some (ad 0 15)) = .ref (ad 0 15), ob (mm M (up2 (up2 f (ad 0 6) 7 (nI m)) (ad 0 6) 8 a) g) (ad 0 6) 5, (Value.int ((up2 (up2 f (ad 0 6) 7 (nI m)) (ad 0 6) 8 a) (ad 0 6) 4)) = .int (nI gs.length)]) rfl ⟨(hF.o 6), (hF.o 6), (hF.o 6), (hF.r 6 5 14), rfl, (hF.o 6), (hF.r 6 6 15), rfl, (hF.o 6), congrArg Value.int (((up2_n _ _ (fun z => absurd z.2 (by decide))).trans ((up2_n _ _ (fun z => absurd z.2 (by decide))).trans (rfl))).trans ((hf.1 _ _ (fun z => absurd z.2 (by decide)) (fun z => absurd (hi _ _ _ _ z).2 (by decide)) (fun z => absurd (hi _ _ _ _ z).2 (by decide)) (fun z => absurd (hi _ _ _ _ z).2 (by decide))).trans g4)), trivial⟩ ?_
          refine go_acp rfl (by omega) (by decide) (hF.o 14) (hF.o 15) (by decide) (by decide) (nI_nlt0 (by omega)) (by rw [nI_clamp (by omega)]; have e : mN M (ad 0 14) = 7 := hF.n 14; show 0 + gs.length ≤ mN M (ad 0 14); omega) (by rw [nI_clamp (by omega)]; have e : mN M (ad 0 15) = 7 := hF.n 15; show 0 + gs.length ≤ mN M (ad 0 15); omega) ?_
          rw [nI_clamp (n := gs.length) (by omega)]
          show Go d 42 0 0 51 [.ref (ad 0 6), .int (nI m), .int a] [] (mm M (va_up (up2 (up2 f (ad 0 6) 7 (nI m)) (ad 0 6) 8 a) (ad 0 15) (va_cpy ((up2 (up2 f (ad 0 6) 7 (nI m)) (ad 0 6) 8 a) (ad 0 14)) ((up2 (up2 f (ad 0 6) 7 (nI m)) (ad 0 6) 8 a) (ad 0 15)) 0 0 gs.length)) g) R
          refine go_vret rfl rfl ?_
          refine done (if_pos ?_)
          have q1 := nI_lts (a := r.1) (b := m) (by omega) (by omega)
          have q2 := nI_eqs (a := m) (b := r.1) (by omega) (by omega)
          grind

