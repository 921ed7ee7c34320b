/-! call: count -/
def loT (f : Nat → Nat → Int32) (w : Int32) (o : Option Nat) : Int32 := match o with
  | none => 0
  | some q => if f q 2 < w then (if f q 8 = -1 then 1 else 0) else 0
def ltT (f : Nat → Nat → Int32) (o : Option Nat) : Int32 := match o with
  | none => 0
  | some q => if f q 8 = -1 then 0 else mx0 (f q 8 - f q 3)
theorem smI_ct {p : Nat → Bool} {t : Nat → Int32} : ∀ {n : Nat}, (∀ b, b < n → t b = if p b = true then 1 else 0) → smI t n = nI (ctB p n)
  | 0, _ => rfl
  | n + 1, h => by
    rw [smI, ctB, smI_ct (fun b hb => h b (by omega)), h n (by omega)]
    by_cases c : p n = true
    · rw [if_pos c, if_pos c]; exact nI_add _ 1
    · rw [if_neg c, if_neg c]; exact Int32.add_zero _
/-- a sum by places is the sum by what stands there -/
theorem smI_zero {t : Nat → Int32} : ∀ {n : Nat}, (∀ k, k < n → t k = 0) → smI t n = 0
  | 0, _ => rfl
  | n + 1, h => by rw [smI, smI_zero (fun k hk => h k (by omega)), h n (by omega)]; rfl
theorem smI_upd {t : Nat → Int32} {j : Nat} : ∀ {n : Nat}, j < n → smI t n = smI (fun k => if k = j then 0 else t k) n + t j
  | 0, h => absurd h (Nat.not_lt_zero j)
  | n + 1, h => by
    rw [smI, smI]
    by_cases c : n = j
    · subst c
      rw [if_pos rfl, smI_congr (t := t) (t' := fun k => if k = n then 0 else t k) (fun k hk => by rw [if_neg (by omega)]), Int32.add_zero]
    · rw [if_neg c, smI_upd (t := t) (j := j) (n := n) (by omega), Int32.add_assoc, Int32.add_comm (t j), ← Int32.add_assoc]
theorem smI_re {T C : Nat → Int32} {pos : Nat → Option Nat} {N n : Nat} : ∀ (hC : ∀ b, b < n → C b = (match pos b with | some j => T j | none => 0)) (hp : ∀ b j, b < n → pos b = some j → j < N) (hi : ∀ a b j, a < n → b < n → pos a = some j → pos b = some j → a = b) (hz : ∀ j, j < N → (∃ b, b < n ∧ pos b = some j) ∨ T j = 0), smI T N = smI C n := by
  induction n generalizing T with
  | zero =>
    intro hC hp hi hz
    exact smI_zero (fun k hk => by
      rcases hz k hk with ⟨b, hb, _⟩ | h
      · omega
      · exact h)
  | succ n ih =>
    intro hC hp hi hz
    rw [smI]
    cases hn : pos n with
    | none =>
      rw [hC n (by omega), hn]
      show smI T N = smI C n + 0
      rw [Int32.add_zero]
      refine ih (fun b hb => hC b (by omega)) (fun b j hb => hp b j (by omega)) (fun a b j ha hb => hi a b j (by omega) (by omega)) (fun j hj => ?_)
      rcases hz j hj with ⟨b, hb, h⟩ | h
      · by_cases c : b = n
        · subst c; rw [hn] at h; cases h
        · exact Or.inl ⟨b, by omega, h⟩
      · exact Or.inr h
    | some j0 =>
      rw [hC n (by omega), hn, smI_upd (hp n j0 (by omega) hn)]
      show _ + T j0 = smI C n + T j0
      congr 1
      refine ih (fun b hb => ?_) (fun b j hb => hp b j (by omega)) (fun a b j ha hb => hi a b j (by omega) (by omega)) (fun j hj => ?_)
      · rw [hC b (by omega)]
        cases hb2 : pos b with
        | none => rfl
        | some j =>
          show T j = if j = j0 then 0 else T j
          rw [if_neg]
          rintro rfl
          have := hi b n j (by omega) (by omega) hb2 hn
          omega
      · by_cases c : j = j0
        · exact Or.inr (if_pos c)
        · rcases hz j hj with ⟨b, hb, h⟩ | h
          · refine Or.inl ⟨b, ?_, h⟩
            by_cases c2 : b = n
            · subst c2; rw [hn] at h; cases h; exact absurd rfl c
            · omega
          · exact Or.inr (by rw [if_neg c]; exact h)

set_option maxRecDepth 100000 in
theorem lp_CY_jobsLeftOut {d : Nat} {M : Mem} {f : Nat → Nat → Int32} {g : Nat → Nat → Int64} {ad : Nat → Nat → Nat} {R : Option Value → Mem → Prop} {nb : Nat} (hd : 1 ≤ d) (hF : Fx M ad) (hB : Bs M ad nb) (hn : f (ad 0 0) 3 = nI nb) (hl : nb ≤ 60) (hJq : ∀ b, b < nb → ∀ q, mR M (ad 2 b) 12 = some q → ob M q 3) (hx : ∀ u : Value, Go d 183 0 0 58 [.ref (ad 0 0), .int (smI (fun b => loT f (f (ad 0 0) 7) (mR M (ad 2 b) 12)) nb), .int (nI nb), u] [] (mm M f g) R) : ∀ i, i ≤ nb → ∀ u : Value, Go d 183 0 0 4 [.ref (ad 0 0), .int (smI (fun b => loT f (f (ad 0 0) 7) (mR M (ad 2 b) 12)) i), .int (nI i), u] [] (mm M f g) R := by
  refine up_ind (P := fun i => ∀ u : Value, Go d 183 0 0 4 [.ref (ad 0 0), .int (smI (fun b => loT f (f (ad 0 0) 7) (mR M (ad 2 b) 12)) i), .int (nI i), u] [] (mm M f g) R) nb ?_ (fun i hi ih => ?_)
  ·
    intro u
    show Go d 183 0 0 4 [.ref (ad 0 0), .int (smI (fun b => loT f (f (ad 0 0) 7) (mR M (ad 2 b) 12)) nb), .int (nI nb), u] [] (mm M f g) R
    refine go_blk 3 [some (.int (nI nb))] (pc' := 9) (vs' := [.ref (ad 0 0), .int (smI (fun b => loT f (f (ad 0 0) 7) (mR M (ad 2 b) 12)) nb), .int (nI nb), u]) (st' := [.int (nI nb), .int (nI nb)]) (M' := mm M f g) (ps := [ob (mm M f g) (ad 0 0) 11, (Value.int (f (ad 0 0) 3)) = .int (nI nb)]) rfl ⟨(hF.o 0), congrArg Value.int hn, trivial⟩ ?_
    refine go_icmp rfl (fun _ => ?_) (fun (z : ¬ (nI nb ≤ (nI nb))) => absurd (show nI nb ≤ (nI nb) from Int32.le_refl _) z)
    exact hx u
  ·
    intro u
    show Go d 183 0 0 4 [.ref (ad 0 0), .int (smI (fun b => loT f (f (ad 0 0) 7) (mR M (ad 2 b) 12)) i), .int (nI i), u] [] (mm M f g) R
    refine go_blk 3 [some (.int (nI nb))] (pc' := 9) (vs' := [.ref (ad 0 0), .int (smI (fun b => loT f (f (ad 0 0) 7) (mR M (ad 2 b) 12)) i), .int (nI i), u]) (st' := [.int (nI nb), .int (nI i)]) (M' := mm M f g) (ps := [ob (mm M f g) (ad 0 0) 11, (Value.int (f (ad 0 0) 3)) = .int (nI nb)]) rfl ⟨(hF.o 0), congrArg Value.int hn, trivial⟩ ?_
    refine go_icmp rfl (fun (z : nI nb ≤ (nI i)) => absurd z (show ¬ (nI nb ≤ (nI i)) from (Int32.not_le.mpr ((nI_lts (a := i) (b := nb) (by omega) (by omega)).mpr hi)))) (fun _ => ?_)
    refine go_blk 4 [some (.ref (ad 0 2)), some (.ref (ad 2 i))] (pc' := 18) (vs' := [.ref (ad 0 0), .int (smI (fun b => loT f (f (ad 0 0) 7) (mR M (ad 2 b) 12)) i), .int (nI i), u]) (st' := [.ref (ad 2 i)]) (M' := mm M f g) (ps := [ob (mm M f g) (ad 0 0) 11, mR (mm M f g) (ad 0 0) 2 = some (ad 0 2), va_rf (some (ad 0 2)) = .ref (ad 0 2), ob (mm M f g) (ad 0 2) 17, 17 ≤ 17 ∧ 17 < 22, vp_in (nI i) (mN (mm M f g) (ad 0 2)), mR (mm M f g) (ad 0 2) ((nI i).toNatClampNeg) = some (ad 2 i), va_rf (some (ad 2 i)) = .ref (ad 2 i)]) rfl ⟨(hF.o 0), (hF.r 0 2 2), rfl, (hF.o 2), (by decide), (vpi (hF.n 2) (show _ < 60 by omega)), (cl_rf rfl (by omega) (hB i (by assumption)).1), rfl, trivial⟩ ?_
    rcases hq1 : mR M (ad 2 i) 12 with _ | q1
    · -- None
      show Go d 183 0 0 18 [.ref (ad 0 0), .int (smI (fun b => loT f (f (ad 0 0) 7) (mR M (ad 2 b) 12)) i), .int (nI i), u] [.ref (ad 2 i)] (mm M f g) R
      refine go_blk 4 [some .null] (pc' := 24) (vs' := [.ref (ad 0 0), .int (smI (fun b => loT f (f (ad 0 0) 7) (mR M (ad 2 b) 12)) i), .int (nI i), .null]) (st' := [.null, .int (smI (fun b => loT f (f (ad 0 0) 7) (mR M (ad 2 b) 12)) i)]) (M' := mm M f g) (ps := [ob (mm M f g) (ad 2 i) 0, mR (mm M f g) (ad 2 i) 12 = none, va_rf none = .null]) rfl ⟨(hB i (by assumption)).2, hq1, rfl, trivial⟩ ?_
      refine go_ifnull0 rfl ?_
      refine go_blk 5 [] (pc' := 4) (vs' := [.ref (ad 0 0), .int ((smI (fun b => loT f (f (ad 0 0) 7) (mR M (ad 2 b) 12)) i) + 0), .int ((nI i) + 1), .null]) (st' := []) (M' := mm M f g) (ps := []) rfl trivial ?_
      have e1 : nI i + 1 = nI (i + 1) := nI_add i 1
      have e3 : ((smI (fun b => loT f (f (ad 0 0) 7) (mR M (ad 2 b) 12)) i) + 0) = smI (fun b => loT f (f (ad 0 0) 7) (mR M (ad 2 b) 12)) (i + 1) := (by rw [smI]; clear ih hx; simp only [loT, ltT]; grind)
      rw [e1, e3]
      exact ih _
    · -- q#
      show Go d 183 0 0 18 [.ref (ad 0 0), .int (smI (fun b => loT f (f (ad 0 0) 7) (mR M (ad 2 b) 12)) i), .int (nI i), u] [.ref (ad 2 i)] (mm M f g) R
      refine go_blk 4 [some (.ref q1)] (pc' := 24) (vs' := [.ref (ad 0 0), .int (smI (fun b => loT f (f (ad 0 0) 7) (mR M (ad 2 b) 12)) i), .int (nI i), .ref q1]) (st' := [.ref q1, .int (smI (fun b => loT f (f (ad 0 0) 7) (mR M (ad 2 b) 12)) i)]) (M' := mm M f g) (ps := [ob (mm M f g) (ad 2 i) 0, mR (mm M f g) (ad 2 i) 12 = some q1, va_rf (some q1) = .ref q1]) rfl ⟨(hB i (by assumption)).2, hq1, rfl, trivial⟩ ?_
      refine go_ifnull1 rfl ?_
      refine go_blk 4 [] (pc' := 35) (vs' := [.ref (ad 0 0), .int (smI (fun b => loT f (f (ad 0 0) 7) (mR M (ad 2 b) 12)) i), .int (nI i), .ref q1]) (st' := [.int (f (ad 0 0) 7), .int (f q1 2), .int (smI (fun b => loT f (f (ad 0 0) 7) (mR M (ad 2 b) 12)) i)]) (M' := mm M f g) (ps := [ob (mm M f g) q1 3, ob (mm M f g) (ad 0 0) 11]) rfl ⟨(hJq i (by assumption) q1 hq1), (hF.o 0), trivial⟩ ?_
      refine go_icmp rfl (fun (c2 : f (ad 0 0) 7 ≤ (f q1 2)) => ?_) (fun (c2 : ¬ (f (ad 0 0) 7 ≤ (f q1 2))) => ?_)
      · -- f (ad 0 0) 7 ≤ (f q1 2)
        refine go_blk 5 [] (pc' := 4) (vs' := [.ref (ad 0 0), .int ((smI (fun b => loT f (f (ad 0 0) 7) (mR M (ad 2 b) 12)) i) + 0), .int ((nI i) + 1), .ref q1]) (st' := []) (M' := mm M f g) (ps := []) rfl trivial ?_
        have e1 : nI i + 1 = nI (i + 1) := nI_add i 1
        have e3 : ((smI (fun b => loT f (f (ad 0 0) 7) (mR M (ad 2 b) 12)) i) + 0) = smI (fun b => loT f (f (ad 0 0) 7) (mR M (ad 2 b) 12)) (i + 1) := (by rw [smI]; clear ih hx; simp only [loT, ltT]; grind)
        rw [e1, e3]
        exact ih _
      · -- ¬ (f (ad 0 0) 7 ≤ (f q1 2))
        refine go_blk 1 [] (pc' := 39) (vs' := [.ref (ad 0 0), .int (smI (fun b => loT f (f (ad 0 0) 7) (mR M (ad 2 b) 12)) i), .int (nI i), .ref q1]) (st' := [.ref q1, .int (smI (fun b => loT f (f (ad 0 0) 7) (mR M (ad 2 b) 12)) i)]) (M' := mm M f g) (ps := []) rfl trivial ?_
        refine go_callV rfl rfl rfl (by omega) rfl (by decide) (by decide) (hJq i (by assumption) q1 hq1) ?_
        show Go (d - 1) 27 0 0 0 [.ref q1] [] (mm M f g) _
        refine go_blk 3 [] (pc' := 5) (vs' := [.ref q1]) (st' := [.int (-1), .int (f q1 8)]) (M' := mm M f g) (ps := [ob (mm M f g) q1 3]) rfl ⟨(hJq i (by assumption) q1 hq1), trivial⟩ ?_
        refine go_icmp rfl (fun (c3 : (f q1 8) = (-1)) => ?_) (fun (c3 : ¬ ((f q1 8) = (-1))) => ?_)
        · -- (f q1 8) = (-1)
          refine go_blk 1 [] (pc' := 13) (vs' := [.ref q1]) (st' := [.int 0]) (M' := mm M f g) (ps := []) rfl trivial ?_
          refine go_zret rfl rfl (Or.inl rfl) ?_
          refine ⟨ne_i, ?_⟩
          show Go d 183 0 0 42 [.ref (ad 0 0), .int (smI (fun b => loT f (f (ad 0 0) 7) (mR M (ad 2 b) 12)) i), .int (nI i), .ref q1] [.int 0, .int (smI (fun b => loT f (f (ad 0 0) 7) (mR M (ad 2 b) 12)) i)] (mm M f g) R
          refine go_if rfl (fun (z : ¬ (0 : Int32) = 0) => absurd z (show ¬ (¬ (0 : Int32) = 0) from (by decide))) (fun _ => ?_)
          refine go_blk 6 [] (pc' := 4) (vs' := [.ref (ad 0 0), .int ((smI (fun b => loT f (f (ad 0 0) 7) (mR M (ad 2 b) 12)) i) + 1), .int ((nI i) + 1), .ref q1]) (st' := []) (M' := mm M f g) (ps := []) rfl trivial ?_
          have e1 : nI i + 1 = nI (i + 1) := nI_add i 1
          have e3 : ((smI (fun b => loT f (f (ad 0 0) 7) (mR M (ad 2 b) 12)) i) + 1) = smI (fun b => loT f (f (ad 0 0) 7) (mR M (ad 2 b) 12)) (i + 1) := (by rw [smI]; clear ih hx; simp only [loT, ltT]; grind)
          rw [e1, e3]
          exact ih _
        · -- ¬ ((f q1 8) = (-1))
          refine go_blk 2 [] (pc' := 13) (vs' := [.ref q1]) (st' := [.int 1]) (M' := mm M f g) (ps := []) rfl trivial ?_
          refine go_zret rfl rfl (Or.inr rfl) ?_
          refine ⟨ne_i, ?_⟩
          show Go d 183 0 0 42 [.ref (ad 0 0), .int (smI (fun b => loT f (f (ad 0 0) 7) (mR M (ad 2 b) 12)) i), .int (nI i), .ref q1] [.int 1, .int (smI (fun b => loT f (f (ad 0 0) 7) (mR M (ad 2 b) 12)) i)] (mm M f g) R
          refine go_if rfl (fun _ => ?_) (fun (z : ¬ (¬ (1 : Int32) = 0)) => absurd (show ¬ (1 : Int32) = 0 from (by decide)) z)
          refine go_blk 5 [] (pc' := 4) (vs' := [.ref (ad 0 0), .int ((smI (fun b => loT f (f (ad 0 0) 7) (mR M (ad 2 b) 12)) i) + 0), .int ((nI i) + 1), .ref q1]) (st' := []) (M' := mm M f g) (ps := []) rfl trivial ?_
          have e1 : nI i + 1 = nI (i + 1) := nI_add i 1
          have e3 : ((smI (fun b => loT f (f (ad 0 0) 7) (mR M (ad 2 b) 12)) i) + 0) = smI (fun b => loT f (f (ad 0 0) 7) (mR M (ad 2 b) 12)) (i + 1) := (by rw [smI]; clear ih hx; simp only [loT, ltT]; grind)
          rw [e1, e3]
          exact ih _

set_option maxRecDepth 100000 in
theorem s_CY_jobsLeftOut {d : Nat} {M : Mem} {f : Nat → Nat → Int32} {g : Nat → Nat → Int64} {ad : Nat → Nat → Nat} {R : Option Value → Mem → Prop} {nb : Nat} (hd : 1 ≤ d) (hF : Fx M ad) (hB : Bs M ad nb) (hn : f (ad 0 0) 3 = nI nb) (hl : nb ≤ 60) (hJq : ∀ b, b < nb → ∀ q, mR M (ad 2 b) 12 = some q → ob M q 3) (hR : R (some (.int (smI (fun b => loT f (f (ad 0 0) 7) (mR M (ad 2 b) 12)) nb))) (mm M f g)) : Call d 183 [.ref (ad 0 0)] (mm M f g) R := by
  show Go d 183 0 0 0 [.ref (ad 0 0), .retAddr 0, .retAddr 0, .retAddr 0] [] (mm M f g) R
  refine go_blk 4 [] (pc' := 4) (vs' := [.ref (ad 0 0), .int 0, .int 0, .retAddr 0]) (st' := []) (M' := mm M f g) (ps := []) rfl trivial ?_
  refine lp_CY_jobsLeftOut hd hF hB hn hl hJq (fun u => ?_) 0 (Nat.zero_le _) _
  show Go d 183 0 0 58 [.ref (ad 0 0), .int (smI (fun b => loT f (f (ad 0 0) 7) (mR M (ad 2 b) 12)) nb), .int (nI nb), u] [] (mm M f g) R
  refine go_blk 1 [] (pc' := 59) (vs' := [.ref (ad 0 0), .int (smI (fun b => loT f (f (ad 0 0) 7) (mR M (ad 2 b) 12)) nb), .int (nI nb), u]) (st' := [.int (smI (fun b => loT f (f (ad 0 0) 7) (mR M (ad 2 b) 12)) nb)]) (M' := mm M f g) (ps := []) rfl trivial ?_
  refine go_iret rfl rfl ?_
  exact hR

set_option maxRecDepth 100000 in
theorem lp_CY_lateMinutes {d : Nat} {M : Mem} {f : Nat → Nat → Int32} {g : Nat → Nat → Int64} {ad : Nat → Nat → Nat} {R : Option Value → Mem → Prop} {nb : Nat} (hd : 2 ≤ d) (hF : Fx M ad) (hB : Bs M ad nb) (hn : f (ad 0 0) 3 = nI nb) (hl : nb ≤ 60) (hJq : ∀ b, b < nb → ∀ q, mR M (ad 2 b) 12 = some q → ob M q 3) (hx : ∀ u : Value, Go d 184 0 0 50 [.ref (ad 0 0), .int (smI (fun b => ltT f (mR M (ad 2 b) 12)) nb), .int (nI nb), u] [] (mm M f g) R) : ∀ i, i ≤ nb → ∀ u : Value, Go d 184 0 0 4 [.ref (ad 0 0), .int (smI (fun b => ltT f (mR M (ad 2 b) 12)) i), .int (nI i), u] [] (mm M f g) R := by
  refine up_ind (P := fun i => ∀ u : Value, Go d 184 0 0 4 [.ref (ad 0 0), .int (smI (fun b => ltT f (mR M (ad 2 b) 12)) i), .int (nI i), u] [] (mm M f g) R) nb ?_ (fun i hi ih => ?_)
  ·
    intro u
    show Go d 184 0 0 4 [.ref (ad 0 0), .int (smI (fun b => ltT f (mR M (ad 2 b) 12)) nb), .int (nI nb), u] [] (mm M f g) R
    refine go_blk 3 [some (.int (nI nb))] (pc' := 9) (vs' := [.ref (ad 0 0), .int (smI (fun b => ltT f (mR M (ad 2 b) 12)) nb), .int (nI nb), u]) (st' := [.int (nI nb), .int (nI nb)]) (M' := mm M f g) (ps := [ob (mm M f g) (ad 0 0) 11, (Value.int (f (ad 0 0) 3)) = .int (nI nb)]) rfl ⟨(hF.o 0), congrArg Value.int hn, trivial⟩ ?_
    refine go_icmp rfl (fun _ => ?_) (fun (z : ¬ (nI nb ≤ (nI nb))) => absurd (show nI nb ≤ (nI nb) from Int32.le_refl _) z)
    exact hx u
  ·
    intro u
    show Go d 184 0 0 4 [.ref (ad 0 0), .int (smI (fun b => ltT f (mR M (ad 2 b) 12)) i), .int (nI i), u] [] (mm M f g) R
    refine go_blk 3 [some (.int (nI nb))] (pc' := 9) (vs' := [.ref (ad 0 0), .int (smI (fun b => ltT f (mR M (ad 2 b) 12)) i), .int (nI i), u]) (st' := [.int (nI nb), .int (nI i)]) (M' := mm M f g) (ps := [ob (mm M f g) (ad 0 0) 11, (Value.int (f (ad 0 0) 3)) = .int (nI nb)]) rfl ⟨(hF.o 0), congrArg Value.int hn, trivial⟩ ?_
    refine go_icmp rfl (fun (z : nI nb ≤ (nI i)) => absurd z (show ¬ (nI nb ≤ (nI i)) from (Int32.not_le.mpr ((nI_lts (a := i) (b := nb) (by omega) (by omega)).mpr hi)))) (fun _ => ?_)
    refine go_blk 4 [some (.ref (ad 0 2)), some (.ref (ad 2 i))] (pc' := 18) (vs' := [.ref (ad 0 0), .int (smI (fun b => ltT f (mR M (ad 2 b) 12)) i), .int (nI i), u]) (st' := [.ref (ad 2 i)]) (M' := mm M f g) (ps := [ob (mm M f g) (ad 0 0) 11, mR (mm M f g) (ad 0 0) 2 = some (ad 0 2), va_rf (some (ad 0 2)) = .ref (ad 0 2), ob (mm M f g) (ad 0 2) 17, 17 ≤ 17 ∧ 17 < 22, vp_in (nI i) (mN (mm M f g) (ad 0 2)), mR (mm M f g) (ad 0 2) ((nI i).toNatClampNeg) = some (ad 2 i), va_rf (some (ad 2 i)) = .ref (ad 2 i)]) rfl ⟨(hF.o 0), (hF.r 0 2 2), rfl, (hF.o 2), (by decide), (vpi (hF.n 2) (show _ < 60 by omega)), (cl_rf rfl (by omega) (hB i (by assumption)).1), rfl, trivial⟩ ?_
    rcases hq1 : mR M (ad 2 i) 12 with _ | q1
    · -- None
      show Go d 184 0 0 18 [.ref (ad 0 0), .int (smI (fun b => ltT f (mR M (ad 2 b) 12)) i), .int (nI i), u] [.ref (ad 2 i)] (mm M f g) R
      refine go_blk 4 [some .null] (pc' := 24) (vs' := [.ref (ad 0 0), .int (smI (fun b => ltT f (mR M (ad 2 b) 12)) i), .int (nI i), .null]) (st' := [.null, .int (smI (fun b => ltT f (mR M (ad 2 b) 12)) i)]) (M' := mm M f g) (ps := [ob (mm M f g) (ad 2 i) 0, mR (mm M f g) (ad 2 i) 12 = none, va_rf none = .null]) rfl ⟨(hB i (by assumption)).2, hq1, rfl, trivial⟩ ?_
      refine go_ifnull0 rfl ?_
      refine go_blk 5 [] (pc' := 4) (vs' := [.ref (ad 0 0), .int ((smI (fun b => ltT f (mR M (ad 2 b) 12)) i) + 0), .int ((nI i) + 1), .null]) (st' := []) (M' := mm M f g) (ps := []) rfl trivial ?_
      have e1 : nI i + 1 = nI (i + 1) := nI_add i 1
      have e3 : ((smI (fun b => ltT f (mR M (ad 2 b) 12)) i) + 0) = smI (fun b => ltT f (mR M (ad 2 b) 12)) (i + 1) := (by rw [smI]; clear ih hx; simp only [loT, ltT]; grind)
      rw [e1, e3]
      exact ih _
    · -- q#
      show Go d 184 0 0 18 [.ref (ad 0 0), .int (smI (fun b => ltT f (mR M (ad 2 b) 12)) i), .int (nI i), u] [.ref (ad 2 i)] (mm M f g) R
      refine go_blk 4 [some (.ref q1)] (pc' := 24) (vs' := [.ref (ad 0 0), .int (smI (fun b => ltT f (mR M (ad 2 b) 12)) i), .int (nI i), .ref q1]) (st' := [.ref q1, .int (smI (fun b => ltT f (mR M (ad 2 b) 12)) i)]) (M' := mm M f g) (ps := [ob (mm M f g) (ad 2 i) 0, mR (mm M f g) (ad 2 i) 12 = some q1, va_rf (some q1) = .ref q1]) rfl ⟨(hB i (by assumption)).2, hq1, rfl, trivial⟩ ?_
      refine go_ifnull1 rfl ?_
      refine go_blk 1 [] (pc' := 28) (vs' := [.ref (ad 0 0), .int (smI (fun b => ltT f (mR M (ad 2 b) 12)) i), .int (nI i), .ref q1]) (st' := [.ref q1, .int (smI (fun b => ltT f (mR M (ad 2 b) 12)) i)]) (M' := mm M f g) (ps := []) rfl trivial ?_
      refine go_callV rfl rfl rfl (by omega) rfl (by decide) (by decide) (hJq i (by assumption) q1 hq1) ?_
      show Go (d - 1) 27 0 0 0 [.ref q1] [] (mm M f g) _
      refine go_blk 3 [] (pc' := 5) (vs' := [.ref q1]) (st' := [.int (-1), .int (f q1 8)]) (M' := mm M f g) (ps := [ob (mm M f g) q1 3]) rfl ⟨(hJq i (by assumption) q1 hq1), trivial⟩ ?_
      refine go_icmp rfl (fun (c2 : (f q1 8) = (-1)) => ?_) (fun (c2 : ¬ ((f q1 8) = (-1))) => ?_)
      · -- (f q1 8) = (-1)
        refine go_blk 1 [] (pc' := 13) (vs' := [.ref q1]) (st' := [.int 0]) (M' := mm M f g) (ps := []) rfl trivial ?_
        refine go_zret rfl rfl (Or.inl rfl) ?_
        refine ⟨ne_i, ?_⟩
        show Go d 184 0 0 31 [.ref (ad 0 0), .int (smI (fun b => ltT f (mR M (ad 2 b) 12)) i), .int (nI i), .ref q1] [.int 0, .int (smI (fun b => ltT f (mR M (ad 2 b) 12)) i)] (mm M f g) R
        refine go_if rfl (fun _ => ?_) (fun (z : ¬ ((0 : Int32) = 0)) => absurd (show (0 : Int32) = 0 from (by decide)) z)
        refine go_blk 5 [] (pc' := 4) (vs' := [.ref (ad 0 0), .int ((smI (fun b => ltT f (mR M (ad 2 b) 12)) i) + 0), .int ((nI i) + 1), .ref q1]) (st' := []) (M' := mm M f g) (ps := []) rfl trivial ?_
        have e1 : nI i + 1 = nI (i + 1) := nI_add i 1
        have e3 : ((smI (fun b => ltT f (mR M (ad 2 b) 12)) i) + 0) = smI (fun b => ltT f (mR M (ad 2 b) 12)) (i + 1) := (by rw [smI]; clear ih hx; simp only [loT, ltT]; grind)
        rw [e1, e3]
        exact ih _
      · -- ¬ ((f q1 8) = (-1))
        refine go_blk 2 [] (pc' := 13) (vs' := [.ref q1]) (st' := [.int 1]) (M' := mm M f g) (ps := []) rfl trivial ?_
        refine go_zret rfl rfl (Or.inr rfl) ?_
        refine ⟨ne_i, ?_⟩
        show Go d 184 0 0 31 [.ref (ad 0 0), .int (smI (fun b => ltT f (mR M (ad 2 b) 12)) i), .int (nI i), .ref q1] [.int 1, .int (smI (fun b => ltT f (mR M (ad 2 b) 12)) i)] (mm M f g) R
        refine go_if rfl (fun (z : (1 : Int32) = 0) => absurd z (show ¬ ((1 : Int32) = 0) from (by decide))) (fun _ => ?_)
        refine go_blk 1 [] (pc' := 35) (vs' := [.ref (ad 0 0), .int (smI (fun b => ltT f (mR M (ad 2 b) 12)) i), .int (nI i), .ref q1]) (st' := [.ref q1, .int (smI (fun b => ltT f (mR M (ad 2 b) 12)) i)]) (M' := mm M f g) (ps := []) rfl trivial ?_
        refine go_callV rfl rfl rfl (by omega) rfl (by decide) (by decide) (hJq i (by assumption) q1 hq1) ?_
        show Go (d - 1) 28 0 0 0 [.ref q1] [] (mm M f g) _
        refine go_blk 1 [] (pc' := 1) (vs' := [.ref q1]) (st' := [.ref q1]) (M' := mm M f g) (ps := []) rfl trivial ?_
        refine go_callV rfl rfl rfl (by omega) rfl (by decide) (by decide) (hJq i (by assumption) q1 hq1) ?_
        show Go ((d - 1) - 1) 27 0 0 0 [.ref q1] [] (mm M f g) _
        refine go_blk 3 [] (pc' := 5) (vs' := [.ref q1]) (st' := [.int (-1), .int (f q1 8)]) (M' := mm M f g) (ps := [ob (mm M f g) q1 3]) rfl ⟨(hJq i (by assumption) q1 hq1), trivial⟩ ?_
        refine go_icmp rfl (fun (z : (f q1 8) = (-1)) => absurd z (show ¬ ((f q1 8) = (-1)) from c2)) (fun _ => ?_)
        refine go_blk 2 [] (pc' := 13) (vs' := [.ref q1]) (st' := [.int 1]) (M' := mm M f g) (ps := []) rfl trivial ?_
        refine go_zret rfl rfl (Or.inr rfl) ?_
        refine ⟨ne_i, ?_⟩
        show Go (d - 1) 28 0 0 4 [.ref q1] [.int 1] (mm M f g) _
        refine go_if rfl (fun (z : (1 : Int32) = 0) => absurd z (show ¬ ((1 : Int32) = 0) from (by decide))) (fun _ => ?_)
        refine go_blk 6 [] (pc' := 17) (vs' := [.ref q1]) (st' := [.int ((f q1 8) - (f q1 3)), .int 0]) (M' := mm M f g) (ps := [ob (mm M f g) q1 3, ob (mm M f g) q1 3]) rfl ⟨(hJq i (by assumption) q1 hq1), (hJq i (by assumption) q1 hq1), trivial⟩ ?_
        refine go_callS rfl (by decide) rfl rfl (by omega) rfl (by decide) (by decide) ?_
        refine s_JM_max0 (by omega) ⟨ne_i, ?_⟩
        show Go (d - 1) 28 0 0 20 [.ref q1] [.int (mx0 ((f q1 8) - (f q1 3)))] (mm M f g) _
        refine go_blk 1 [] (pc' := 24) (vs' := [.ref q1]) (st' := [.int (mx0 ((f q1 8) - (f q1 3)))]) (M' := mm M f g) (ps := []) rfl trivial ?_
        refine go_iret rfl rfl ?_
        refine ⟨ne_i, ?_⟩
        show Go d 184 0 0 38 [.ref (ad 0 0), .int (smI (fun b => ltT f (mR M (ad 2 b) 12)) i), .int (nI i), .ref q1] [.int (mx0 ((f q1 8) - (f q1 3))), .int (smI (fun b => ltT f (mR M (ad 2 b) 12)) i)] (mm M f g) R
        refine go_blk 5 [] (pc' := 4) (vs' := [.ref (ad 0 0), .int ((smI (fun b => ltT f (mR M (ad 2 b) 12)) i) + (mx0 ((f q1 8) - (f q1 3)))), .int ((nI i) + 1), .ref q1]) (st' := []) (M' := mm M f g) (ps := []) rfl trivial ?_
        have e1 : nI i + 1 = nI (i + 1) := nI_add i 1
        have e3 : ((smI (fun b => ltT f (mR M (ad 2 b) 12)) i) + (mx0 ((f q1 8) - (f q1 3)))) = smI (fun b => ltT f (mR M (ad 2 b) 12)) (i + 1) := (by rw [smI]; clear ih hx; simp only [loT, ltT]; grind)
        rw [e1, e3]
        exact ih _

set_option maxRecDepth 100000 in
theorem s_CY_lateMinutes {d : Nat} {M : Mem} {f : Nat → Nat → Int32} {g : Nat → Nat → Int64} {ad : Nat → Nat → Nat} {R : Option Value → Mem → Prop} {nb : Nat} (hd : 2 ≤ d) (hF : Fx M ad) (hB : Bs M ad nb) (hn : f (ad 0 0) 3 = nI nb) (hl : nb ≤ 60) (hJq : ∀ b, b < nb → ∀ q, mR M (ad 2 b) 12 = some q → ob M q 3) (hR : R (some (.int (smI (fun b => ltT f (mR M (ad 2 b) 12)) nb))) (mm M f g)) : Call d 184 [.ref (ad 0 0)] (mm M f g) R := by
  show Go d 184 0 0 0 [.ref (ad 0 0), .retAddr 0, .retAddr 0, .retAddr 0] [] (mm M f g) R
  refine go_blk 4 [] (pc' := 4) (vs' := [.ref (ad 0 0), .int 0, .int 0, .retAddr 0]) (st' := []) (M' := mm M f g) (ps := []) rfl trivial ?_
  refine lp_CY_lateMinutes hd hF hB hn hl hJq (fun u => ?_) 0 (Nat.zero_le _) _
  show Go d 184 0 0 50 [.ref (ad 0 0), .int (smI (fun b => ltT f (mR M (ad 2 b) 12)) nb), .int (nI nb), u] [] (mm M f g) R
  refine go_blk 1 [] (pc' := 51) (vs' := [.ref (ad 0 0), .int (smI (fun b => ltT f (mR M (ad 2 b) 12)) nb), .int (nI nb), u]) (st' := [.int (smI (fun b => ltT f (mR M (ad 2 b) 12)) nb)]) (M' := mm M f g) (ps := []) rfl trivial ?_
  refine go_iret rfl rfl ?_
  exact hR

set_option maxRecDepth 100000 in
theorem s_CY_bookingsInForce {d : Nat} {M : Mem} {f : Nat → Nat → Int32} {g : Nat → Nat → Int64} {ad : Nat → Nat → Nat} {R : Option Value → Mem → Prop} {nb : Nat} (hd : 0 ≤ d) (hF : Fx M ad) (hB : Bs M ad nb) (hn : f (ad 0 0) 3 = nI nb) (hl : nb ≤ 60) (hR : R (some (.int (smI (fun b => if f (ad 2 b) 6 = 0 then 0 else 1) nb))) (mm M f g)) : Call d 182 [.ref (ad 0 0)] (mm M f g) R := by
  show Go d 182 0 0 0 [.ref (ad 0 0), .retAddr 0, .retAddr 0] [] (mm M f g) R
  refine go_blk 4 [] (pc' := 4) (vs' := [.ref (ad 0 0), .int 0, .int 0]) (st' := []) (M' := mm M f g) (ps := []) rfl trivial ?_
  refine lp_CY_bookingsInForce hd hF hB hn hl ?_ 0 (Nat.zero_le _)
  show Go d 182 0 0 38 [.ref (ad 0 0), .int (smI (fun b => if f (ad 2 b) 6 = 0 then 0 else 1) nb), .int (nI nb)] [] (mm M f g) R
  refine go_blk 1 [] (pc' := 39) (vs' := [.ref (ad 0 0), .int (smI (fun b => if f (ad 2 b) 6 = 0 then 0 else 1) nb), .int (nI nb)]) (st' := [.int (smI (fun b => if f (ad 2 b) 6 = 0 then 0 else 1) nb)]) (M' := mm M f g) (ps := []) rfl trivial ?_
  refine go_iret rfl rfl ?_
  exact hR

set_option maxRecDepth 100000 in
theorem lp_Mo_count13 {d : Nat} {M : Mem} {f : Nat → Nat → Int32} {g : Nat → Nat → Int64} {ad : Nat → Nat → Nat} {R : Option Value → Mem → Prop} {x : Int32} (hd : 2 ≤ d) (hM : Mx M ad) (hx : Go d 275 0 0 244 [.ref (ad 10 0), .int x, .int (smI (fun j => if f (ad 9 32) j = 0 then 0 else if f (ad 9 38) j = -1 then 0 else mx0 (f (ad 9 38) j - f (ad 9 34) j)) 364), .int (nI 364)] [] (mm M f g) R) : ∀ i, i ≤ 364 → Go d 275 0 0 200 [.ref (ad 10 0), .int x, .int (smI (fun j => if f (ad 9 32) j = 0 then 0 else if f (ad 9 38) j = -1 then 0 else mx0 (f (ad 9 38) j - f (ad 9 34) j)) i), .int (nI i)] [] (mm M f g) R := by
  refine up_ind (P := fun i => Go d 275 0 0 200 [.ref (ad 10 0), .int x, .int (smI (fun j => if f (ad 9 32) j = 0 then 0 else if f (ad 9 38) j = -1 then 0 else mx0 (f (ad 9 38) j - f (ad 9 34) j)) i), .int (nI i)] [] (mm M f g) R) 364 ?_ (fun i hi ih => ?_)
  ·
    skip
    show Go d 275 0 0 200 [.ref (ad 10 0), .int x, .int (smI (fun j => if f (ad 9 32) j = 0 then 0 else if f (ad 9 38) j = -1 then 0 else mx0 (f (ad 9 38) j - f (ad 9 34) j)) 364), .int (nI 364)] [] (mm M f g) R
    refine go_blk 2 [] (pc' := 204) (vs' := [.ref (ad 10 0), .int x, .int (smI (fun j => if f (ad 9 32) j = 0 then 0 else if f (ad 9 38) j = -1 then 0 else mx0 (f (ad 9 38) j - f (ad 9 34) j)) 364), .int (nI 364)]) (st' := [.int 364, .int (nI 364)]) (M' := mm M f g) (ps := []) rfl trivial ?_
    refine go_icmp rfl (fun _ => ?_) (fun (z : ¬ (364 ≤ (nI 364))) => absurd (show 364 ≤ (nI 364) from Int32.le_refl _) z)
    exact hx
  ·
    skip
    show Go d 275 0 0 200 [.ref (ad 10 0), .int x, .int (smI (fun j => if f (ad 9 32) j = 0 then 0 else if f (ad 9 38) j = -1 then 0 else mx0 (f (ad 9 38) j - f (ad 9 34) j)) i), .int (nI i)] [] (mm M f g) R
    refine go_blk 2 [] (pc' := 204) (vs' := [.ref (ad 10 0), .int x, .int (smI (fun j => if f (ad 9 32) j = 0 then 0 else if f (ad 9 38) j = -1 then 0 else mx0 (f (ad 9 38) j - f (ad 9 34) j)) i), .int (nI i)]) (st' := [.int 364, .int (nI i)]) (M' := mm M f g) (ps := []) rfl trivial ?_
    refine go_icmp rfl (fun (z : 364 ≤ (nI i)) => absurd z (show ¬ (364 ≤ (nI i)) from (Int32.not_le.mpr ((nI_lts (a := i) (b := 364) (by omega) (by omega)).mpr hi)))) (fun _ => ?_)
    refine go_blk 5 [some (.ref (ad 9 32)), some (.int (f (ad 9 32) i))] (pc' := 214) (vs' := [.ref (ad 10 0), .int x, .int (smI (fun j => if f (ad 9 32) j = 0 then 0 else if f (ad 9 38) j = -1 then 0 else mx0 (f (ad 9 38) j - f (ad 9 34) j)) i), .int (nI i)]) (st' := [.int (f (ad 9 32) i), .int (smI (fun j => if f (ad 9 32) j = 0 then 0 else if f (ad 9 38) j = -1 then 0 else mx0 (f (ad 9 38) j - f (ad 9 34) j)) i)]) (M' := mm M f g) (ps := [ob (mm M f g) (ad 10 0) 12, mR (mm M f g) (ad 10 0) 32 = some (ad 9 32), va_rf (some (ad 9 32)) = .ref (ad 9 32), ob (mm M f g) (ad 9 32) 13, 13 = 13 ∨ 13 = 14, vp_in (nI i) (mN (mm M f g) (ad 9 32)), (Value.int (f (ad 9 32) ((nI i).toNatClampNeg))) = .int (f (ad 9 32) i)]) rfl ⟨hM.1, (hM.r 32 13 364), rfl, (hM.o 32 13 364), (by decide), (vpi (hM.n 32 13 364) (by omega)), congrArg (fun z => Value.int (f (ad 9 32) z)) (nI_clamp (by omega)), trivial⟩ ?_
    refine go_if rfl (fun (c1 : (f (ad 9 32) i) = 0) => ?_) (fun (c1 : ¬ ((f (ad 9 32) i) = 0)) => ?_)
    · -- (f (ad 9 32) i) = 0
      refine go_blk 5 [] (pc' := 200) (vs' := [.ref (ad 10 0), .int x, .int ((smI (fun j => if f (ad 9 32) j = 0 then 0 else if f (ad 9 38) j = -1 then 0 else mx0 (f (ad 9 38) j - f (ad 9 34) j)) i) + 0), .int ((nI i) + 1)]) (st' := []) (M' := mm M f g) (ps := []) rfl trivial ?_
      have e1 : nI i + 1 = nI (i + 1) := nI_add i 1
      have e4 : ((smI (fun j => if f (ad 9 32) j = 0 then 0 else if f (ad 9 38) j = -1 then 0 else mx0 (f (ad 9 38) j - f (ad 9 34) j)) i) + 0) = smI (fun j => if f (ad 9 32) j = 0 then 0 else if f (ad 9 38) j = -1 then 0 else mx0 (f (ad 9 38) j - f (ad 9 34) j)) (i + 1) := (by first | rfl | (rw [smI]; clear ih hx; grind))
      rw [e1, e4]
      exact ih
    · -- ¬ ((f (ad 9 32) i) = 0)
      refine go_blk 5 [some (.ref (ad 9 38)), some (.int (f (ad 9 38) i))] (pc' := 224) (vs' := [.ref (ad 10 0), .int x, .int (smI (fun j => if f (ad 9 32) j = 0 then 0 else if f (ad 9 38) j = -1 then 0 else mx0 (f (ad 9 38) j - f (ad 9 34) j)) i), .int (nI i)]) (st' := [.int (-1), .int (f (ad 9 38) i), .int (smI (fun j => if f (ad 9 32) j = 0 then 0 else if f (ad 9 38) j = -1 then 0 else mx0 (f (ad 9 38) j - f (ad 9 34) j)) i)]) (M' := mm M f g) (ps := [ob (mm M f g) (ad 10 0) 12, mR (mm M f g) (ad 10 0) 38 = some (ad 9 38), va_rf (some (ad 9 38)) = .ref (ad 9 38), ob (mm M f g) (ad 9 38) 15, vp_in (nI i) (mN (mm M f g) (ad 9 38)), (Value.int (f (ad 9 38) ((nI i).toNatClampNeg))) = .int (f (ad 9 38) i)]) rfl ⟨hM.1, (hM.r 38 15 364), rfl, (hM.o 38 15 364), (vpi (hM.n 38 15 364) (by omega)), congrArg (fun z => Value.int (f (ad 9 38) z)) (nI_clamp (by omega)), trivial⟩ ?_
      refine go_icmp rfl (fun (c2 : (f (ad 9 38) i) = (-1)) => ?_) (fun (c2 : ¬ ((f (ad 9 38) i) = (-1))) => ?_)
      · -- (f (ad 9 38) i) = (-1)
        refine go_blk 5 [] (pc' := 200) (vs' := [.ref (ad 10 0), .int x, .int ((smI (fun j => if f (ad 9 32) j = 0 then 0 else if f (ad 9 38) j = -1 then 0 else mx0 (f (ad 9 38) j - f (ad 9 34) j)) i) + 0), .int ((nI i) + 1)]) (st' := []) (M' := mm M f g) (ps := []) rfl trivial ?_
        have e1 : nI i + 1 = nI (i + 1) := nI_add i 1
        have e4 : ((smI (fun j => if f (ad 9 32) j = 0 then 0 else if f (ad 9 38) j = -1 then 0 else mx0 (f (ad 9 38) j - f (ad 9 34) j)) i) + 0) = smI (fun j => if f (ad 9 32) j = 0 then 0 else if f (ad 9 38) j = -1 then 0 else mx0 (f (ad 9 38) j - f (ad 9 34) j)) (i + 1) := (by first | rfl | (rw [smI]; clear ih hx; grind))
        rw [e1, e4]
        exact ih
      · -- ¬ ((f (ad 9 38) i) = (-1))
        refine go_blk 2 [] (pc' := 229) (vs' := [.ref (ad 10 0), .int x, .int (smI (fun j => if f (ad 9 32) j = 0 then 0 else if f (ad 9 38) j = -1 then 0 else mx0 (f (ad 9 38) j - f (ad 9 34) j)) i), .int (nI i)]) (st' := [.int (nI i), .ref (ad 10 0), .int (smI (fun j => if f (ad 9 32) j = 0 then 0 else if f (ad 9 38) j = -1 then 0 else mx0 (f (ad 9 38) j - f (ad 9 34) j)) i)]) (M' := mm M f g) (ps := []) rfl trivial ?_
        refine go_callV rfl rfl rfl (by omega) rfl (by decide) (by decide) hM.1 ?_
        show Go (d - 1) 229 0 0 0 [.ref (ad 10 0), .int (nI i)] [] (mm M f g) _
        refine go_blk 5 [some (.ref (ad 9 38)), some (.int (f (ad 9 38) i))] (pc' := 7) (vs' := [.ref (ad 10 0), .int (nI i)]) (st' := [.int (-1), .int (f (ad 9 38) i)]) (M' := mm M f g) (ps := [ob (mm M f g) (ad 10 0) 12, mR (mm M f g) (ad 10 0) 38 = some (ad 9 38), va_rf (some (ad 9 38)) = .ref (ad 9 38), ob (mm M f g) (ad 9 38) 15, vp_in (nI i) (mN (mm M f g) (ad 9 38)), (Value.int (f (ad 9 38) ((nI i).toNatClampNeg))) = .int (f (ad 9 38) i)]) rfl ⟨hM.1, (hM.r 38 15 364), rfl, (hM.o 38 15 364), (vpi (hM.n 38 15 364) (by omega)), congrArg (fun z => Value.int (f (ad 9 38) z)) (nI_clamp (by omega)), trivial⟩ ?_
        refine go_icmp rfl (fun _ => ?_) (fun (z : ¬ (¬ (f (ad 9 38) i) = (-1))) => absurd (show ¬ (f (ad 9 38) i) = (-1) from c2) z)
        refine go_blk 10 [some (.ref (ad 9 38)), some (.int (f (ad 9 38) i)), some (.ref (ad 9 34)), some (.int (f (ad 9 34) i))] (pc' := 28) (vs' := [.ref (ad 10 0), .int (nI i)]) (st' := [.int ((f (ad 9 38) i) - (f (ad 9 34) i)), .int 0]) (M' := mm M f g) (ps := [ob (mm M f g) (ad 10 0) 12, mR (mm M f g) (ad 10 0) 38 = some (ad 9 38), va_rf (some (ad 9 38)) = .ref (ad 9 38), ob (mm M f g) (ad 9 38) 15, vp_in (nI i) (mN (mm M f g) (ad 9 38)), (Value.int (f (ad 9 38) ((nI i).toNatClampNeg))) = .int (f (ad 9 38) i), ob (mm M f g) (ad 10 0) 12, mR (mm M f g) (ad 10 0) 34 = some (ad 9 34), va_rf (some (ad 9 34)) = .ref (ad 9 34), ob (mm M f g) (ad 9 34) 15, vp_in (nI i) (mN (mm M f g) (ad 9 34)), (Value.int (f (ad 9 34) ((nI i).toNatClampNeg))) = .int (f (ad 9 34) i)]) rfl ⟨hM.1, (hM.r 38 15 364), rfl, (hM.o 38 15 364), (vpi (hM.n 38 15 364) (by omega)), congrArg (fun z => Value.int (f (ad 9 38) z)) (nI_clamp (by omega)), hM.1, (hM.r 34 15 364), rfl, (hM.o 34 15 364), (vpi (hM.n 34 15 364) (by omega)), congrArg (fun z => Value.int (f (ad 9 34) z)) (nI_clamp (by omega)), trivial⟩ ?_
        refine go_callS rfl (by decide) rfl rfl (by omega) rfl (by decide) (by decide) ?_
        refine s_JM_max0 (by omega) ⟨ne_i, ?_⟩
        show Go (d - 1) 229 0 0 31 [.ref (ad 10 0), .int (nI i)] [.int (mx0 ((f (ad 9 38) i) - (f (ad 9 34) i)))] (mm M f g) _
        refine go_iret rfl rfl ?_
        refine ⟨ne_i, ?_⟩
        show Go d 275 0 0 232 [.ref (ad 10 0), .int x, .int (smI (fun j => if f (ad 9 32) j = 0 then 0 else if f (ad 9 38) j = -1 then 0 else mx0 (f (ad 9 38) j - f (ad 9 34) j)) i), .int (nI i)] [.int (mx0 ((f (ad 9 38) i) - (f (ad 9 34) i))), .int (smI (fun j => if f (ad 9 32) j = 0 then 0 else if f (ad 9 38) j = -1 then 0 else mx0 (f (ad 9 38) j - f (ad 9 34) j)) i)] (mm M f g) R
        refine go_blk 5 [] (pc' := 200) (vs' := [.ref (ad 10 0), .int x, .int ((smI (fun j => if f (ad 9 32) j = 0 then 0 else if f (ad 9 38) j = -1 then 0 else mx0 (f (ad 9 38) j - f (ad 9 34) j)) i) + (mx0 ((f (ad 9 38) i) - (f (ad 9 34) i)))), .int ((nI i) + 1)]) (st' := []) (M' := mm M f g) (ps := []) rfl trivial ?_
        have e1 : nI i + 1 = nI (i + 1) := nI_add i 1
        have e4 : ((smI (fun j => if f (ad 9 32) j = 0 then 0 else if f (ad 9 38) j = -1 then 0 else mx0 (f (ad 9 38) j - f (ad 9 34) j)) i) + (mx0 ((f (ad 9 38) i) - (f (ad 9 34) i)))) = smI (fun j => if f (ad 9 32) j = 0 then 0 else if f (ad 9 38) j = -1 then 0 else mx0 (f (ad 9 38) j - f (ad 9 34) j)) (i + 1) := (by first | rfl | (rw [smI]; clear ih hx; grind))
        rw [e1, e4]
        exact ih

set_option maxHeartbeats 20000000 in
set_option maxRecDepth 100000 in
theorem op42 {x o u : Nat} {sc : Nat × Nat × (Nat → Int32)} : Op42 (II x o u sc) x o := by
  intro M a1 hI R K
  obtain ⟨hsc, ad, nc, nb, nt, wk, nw, nx, nl, ne, nk, kd, op, rfl, rfl, rfl, hW⟩ := hI
  obtain ⟨hi, ⟨hF, hM, hC, hB, hT, hX⟩, ⟨iS, iC, iB, iR, iL, iT⟩, ⟨jO, jR, jB, jX, jL⟩, kO, kC, kD, kP, kX⟩ := id hW
  obtain ⟨⟨nc1, nc2, nc3⟩, ⟨nb1, nb2, nb3⟩, ⟨nt1, nt2, nt3⟩, ⟨wk1, wk2, wk3⟩, ⟨nw1, nw2, nw3⟩, ⟨op1, op2, op3⟩, ncm, ncm1, ncm2, ncm3⟩ := id iS
  simp only [vw] at nc1 nc2 nb1 nb2 nt1 nt2 wk1 wk2 nw1 nw2 op1 op2 ncm2 ncm3
  obtain ⟨nn, nn3, nn1, nn2, nnb⟩ := jX.2.1
  simp only [vw] at nn1 nn2
  have nl3 := jL.1.2.2.1
  have nx3 := jX.1.2.2
  have nk3 := jB.1.2.2.2.2.1
  have ne3 := jB.1.2.2.2.2.2
  have hJq : ∀ b, b < nb → ∀ q, mR M (ad 2 b) 12 = some q → ob M q 3 := by
    intro b hb q hq
    by_cases hj : hJ (vw ad (mI M)) wk op b
    · obtain ⟨q1, q2, -⟩ := (jR.1 b hb).1 hj
      rw [q1] at hq; cases hq; exact q2
    · rw [(jR.1 b hb).2 hj] at hq; cases hq
  have hLO : ∀ b, b < nb → loT (mI M) (mI M (ad 0 0) 7) (mR M (ad 2 b) 12) = if ((vw ad (mI M) 9 16 b == 1) && decide (vw ad (mI M) 9 7 b + 1 < nI wk) && (vw ad (mI M) 6 b 8 == -1)) = true then 1 else 0 := by
    intro b hb
    obtain ⟨w, w1, w2, w3⟩ := (iB.1 b hb).2.2.1
    obtain ⟨c, c1, c2⟩ := (iB.1 b hb).2.1.1
    by_cases hj : hJ (vw ad (mI M)) wk op b
    · have q2 := (jO.1 b hb hj (7 * (w + 1) + c) ⟨c, w, by omega, w1, c2, w2, rfl⟩).1.2.1
      rw [((jR.1 b hb).1 hj).1]
      show (if mI M (ad 6 b) 2 < mI M (ad 0 0) 7 then (if mI M (ad 6 b) 8 = -1 then 1 else 0) else (0 : Int32)) = _
      rw [show mI M (ad 6 b) 2 = vw ad (mI M) 9 7 b + 1 from q2, wk1, hj.1]
      by_cases z1 : vw ad (mI M) 9 7 b + 1 < nI wk
      · by_cases z2 : vw ad (mI M) 6 b 8 = -1
        · simp [z1, z2]
          exact z2
        · simp [z1, z2]
          exact z2
      · simp [z1]
    · rw [(jR.1 b hb).2 hj]
      show (0 : Int32) = _
      by_cases z0 : vw ad (mI M) 9 16 b = 1
      · have z1 : ¬ (vw ad (mI M) 9 7 b + 1 < nI wk) := fun z => hj ⟨z0, w, w2, w1, Or.inl (by rw [w2, show nI w + 1 = nI (w + 1) from nI_add w 1, nI_lts (by omega) (by omega)] at z; exact z)⟩
        simp [z1]
      · simp [z0]
  have hLT : smI (fun j => if (up2 (mI M) (ad 10 0) 0 0) (ad 9 32) j = 0 then 0 else if (up2 (mI M) (ad 10 0) 0 0) (ad 9 38) j = -1 then 0 else mx0 ((up2 (mI M) (ad 10 0) 0 0) (ad 9 38) j - (up2 (mI M) (ad 10 0) 0 0) (ad 9 34) j)) 364 = smI (fun b => ltT (mI M) (mR M (ad 2 b) 12)) nb := by
    refine smI_re (pos := fun b => (mR M (ad 2 b) 12).map (fun _ => 7 * ((mI M (ad 9 7) b).toNatClampNeg + 1) + (mI M (ad 9 6) b).toNatClampNeg)) (fun b hb => ?_) (fun b j hb hq => ?_) (fun a b j ha hb h1 h2 => ?_) (fun j hj => ?_)
    · by_cases hj : hJ (vw ad (mI M)) wk op b
      · obtain ⟨w, w1, w2, w3⟩ := (iB.1 b hb).2.2.1
        obtain ⟨c, c1, c2⟩ := (iB.1 b hb).2.1.1
        obtain ⟨p, ⟨-, -, p3⟩, -⟩ := jO.1 b hb hj (7 * (w + 1) + c) ⟨c, w, by omega, w1, c2, w2, rfl⟩
        rw [((jR.1 b hb).1 hj).1]
        simp only [vw] at p p3 c2 w2
        simp only [Option.map, c2, w2, nI_clamp (show w < 2 ^ 31 by omega), nI_clamp (show c < 2 ^ 31 by omega), ltT]
        simp [up2_ad hi, p3, p]
      · rw [(jR.1 b hb).2 hj]; rfl
    · by_cases hj : hJ (vw ad (mI M)) wk op b
      · obtain ⟨q0, w, w2, w1, w3⟩ := hj
        obtain ⟨c, c1, c2⟩ := (iB.1 b hb).2.1.1
        rw [((jR.1 b hb).1 ⟨q0, w, w2, w1, w3⟩).1] at hq
        simp only [vw] at c2 w2
        simp only [Option.map, c2, w2, nI_clamp (show w < 2 ^ 31 by omega), nI_clamp (show c < 2 ^ 31 by omega)] at hq
        cases hq
        have : op = true → wk < 52 := op3
        rcases w3 with z | ⟨z, z2⟩
        · omega
        · have := op3 z2; omega
      · rw [(jR.1 b hb).2 hj] at hq; cases hq
    · have ga : ∀ b, b < nb → (mR M (ad 2 b) 12).map (fun _ => 7 * ((mI M (ad 9 7) b).toNatClampNeg + 1) + (mI M (ad 9 6) b).toNatClampNeg) = some j → hJ (vw ad (mI M)) wk op b ∧ jAt (vw ad (mI M)) b j := by
        intro b hb hq
        by_cases hj : hJ (vw ad (mI M)) wk op b
        · refine ⟨hj, ?_⟩
          obtain ⟨w, w1, w2, w3⟩ := (iB.1 b hb).2.2.1
          obtain ⟨c, c1, c2⟩ := (iB.1 b hb).2.1.1
          rw [((jR.1 b hb).1 hj).1] at hq
          refine ⟨c, w, by omega, w1, c2, w2, ?_⟩
          simp only [vw] at c2 w2
          simp only [Option.map, c2, w2, nI_clamp (show w < 2 ^ 31 by omega), nI_clamp (show c < 2 ^ 31 by omega)] at hq
          cases hq; rfl
        · rw [(jR.1 b hb).2 hj] at hq; cases hq
      obtain ⟨a1, a2⟩ := ga a ha h1
      obtain ⟨b1, b2⟩ := ga b hb h2
      exact jAt_inj iB ha hb a1 b1 a2 b2
    · rcases jO.2 j hj with ⟨b, hb, q1, c, w, z1, z2, z3, z4, z5⟩ | q
      · refine Or.inl ⟨b, hb, ?_⟩
        show (mR M (ad 2 b) 12).map (fun _ => 7 * ((mI M (ad 9 7) b).toNatClampNeg + 1) + (mI M (ad 9 6) b).toNatClampNeg) = some j
        rw [((jR.1 b hb).1 q1).1]
        simp only [vw] at z3 z4
        simp only [Option.map, z3, z4, nI_clamp (show w < 2 ^ 31 by omega), nI_clamp (show c < 2 ^ 31 by omega), z5]
      · refine Or.inr ?_
        have q1 := q.1
        simp only [vw] at q1
        simp [up2_ad hi, q1]
  rcases op with _ | _
  · replace op1 : mI M (ad 0 0) 8 = 0 := op1
    replace op2 : mI M (ad 10 0) 21 = 0 := op2
    show Go 1311 158 0 0 0 [.ref (ad 0 0), .int a1] [] (mm M (mI M) (mJ M)) R
    refine go_blk 1 [] (pc' := 1) (vs' := [.ref (ad 0 0), .int a1]) (st' := [.int a1]) (M' := mm M (mI M) (mJ M)) (ps := []) rfl trivial ?_
    refine go_tsw rfl ?_
    refine ⟨fun (c1 : a1 = 0) => ?_, fun (c1n : ¬ (a1 = 0)) => ?_⟩
    · -- a1 = 0
      subst c1
      show Go 1311 158 0 0 76 [.ref (ad 0 0), .int 0] [] (mm M (mI M) (mJ M)) R
      refine go_blk 2 [some (.int (nI wk))] (pc' := 80) (vs' := [.ref (ad 0 0), .int 0]) (st' := [.int (nI wk)]) (M' := mm M (mI M) (mJ M)) (ps := [ob (mm M (mI M) (mJ M)) (ad 0 0) 11, (Value.int ((mI M) (ad 0 0) 7)) = .int (nI wk)]) rfl ⟨(hF.o 0), congrArg Value.int wk1, trivial⟩ ?_
      refine go_iret rfl rfl ?_
      refine K _ _ hM.1 rfl (fun R2 h2 => ?_)
      show Go 1311 275 0 0 0 [.ref (ad 10 0), .int 0, .retAddr 0, .retAddr 0] [] (mm M (mI M) (mJ M)) R2
      refine go_blk 6 [] (pc' := 8) (vs' := [.ref (ad 10 0), .int 0, .int 0, .retAddr 0]) (st' := [.int 0]) (M' := mm M (up2 (mI M) (ad 10 0) 0 0) (mJ M)) (ps := [ob (mm M (mI M) (mJ M)) (ad 10 0) 12]) rfl ⟨hM.1, trivial⟩ ?_
      refine go_tsw rfl ?_
      refine ⟨fun _ => ?_, fun z => absurd rfl z⟩
      show Go 1311 275 0 0 84 [.ref (ad 10 0), .int 0, .int 0, .retAddr 0] [] (mm M (up2 (mI M) (ad 10 0) 0 0) (mJ M)) R2
      refine go_blk 2 [some (.int (nI wk))] (pc' := 88) (vs' := [.ref (ad 10 0), .int 0, .int 0, .retAddr 0]) (st' := [.int (nI wk)]) (M' := mm M (up2 (mI M) (ad 10 0) 0 0) (mJ M)) (ps := [ob (mm M (up2 (mI M) (ad 10 0) 0 0) (mJ M)) (ad 10 0) 12, (Value.int ((up2 (mI M) (ad 10 0) 0 0) (ad 10 0) 19)) = .int (nI wk)]) rfl ⟨hM.1, congrArg Value.int (((up2_n _ _ (fun z => absurd z.2 (by decide))).trans (rfl)).trans wk2), trivial⟩ ?_
      refine go_iret rfl rfl ?_
      exact h2 _ ⟨hsc, ad, nc, nb, nt, wk, nw, nx, nl, ne, nk, kd, false, rfl, rfl, rfl, hW.thr⟩
    refine ⟨fun (c2 : a1 = 1) => ?_, fun (c2n : ¬ (a1 = 1)) => ?_⟩
    · -- a1 = 1
      subst c2
      show Go 1311 158 0 0 81 [.ref (ad 0 0), .int 1] [] (mm M (mI M) (mJ M)) R
      refine go_blk 2 [some (.int 0)] (pc' := 85) (vs' := [.ref (ad 0 0), .int 1]) (st' := [.int 0]) (M' := mm M (mI M) (mJ M)) (ps := [ob (mm M (mI M) (mJ M)) (ad 0 0) 11, (Value.int ((mI M) (ad 0 0) 8)) = .int 0]) rfl ⟨(hF.o 0), congrArg Value.int op1, trivial⟩ ?_
      refine go_if rfl (fun _ => ?_) (fun (z : ¬ ((0 : Int32) = 0)) => absurd (show (0 : Int32) = 0 from (by decide)) z)
      refine go_blk 1 [] (pc' := 93) (vs' := [.ref (ad 0 0), .int 1]) (st' := [.int 0]) (M' := mm M (mI M) (mJ M)) (ps := []) rfl trivial ?_
      refine go_iret rfl rfl ?_
      refine K _ _ hM.1 rfl (fun R2 h2 => ?_)
      show Go 1311 275 0 0 0 [.ref (ad 10 0), .int 1, .retAddr 0, .retAddr 0] [] (mm M (mI M) (mJ M)) R2
      refine go_blk 6 [] (pc' := 8) (vs' := [.ref (ad 10 0), .int 1, .int 0, .retAddr 0]) (st' := [.int 1]) (M' := mm M (up2 (mI M) (ad 10 0) 0 0) (mJ M)) (ps := [ob (mm M (mI M) (mJ M)) (ad 10 0) 12]) rfl ⟨hM.1, trivial⟩ ?_
      refine go_tsw rfl ?_
      refine ⟨fun (z : (1 : Int32) = 0) => absurd z (by decide), fun _ => ?_⟩
      refine ⟨fun _ => ?_, fun z => absurd rfl z⟩
      show Go 1311 275 0 0 89 [.ref (ad 10 0), .int 1, .int 0, .retAddr 0] [] (mm M (up2 (mI M) (ad 10 0) 0 0) (mJ M)) R2
      refine go_blk 2 [some (.int 0)] (pc' := 93) (vs' := [.ref (ad 10 0), .int 1, .int 0, .retAddr 0]) (st' := [.int 0]) (M' := mm M (up2 (mI M) (ad 10 0) 0 0) (mJ M)) (ps := [ob (mm M (up2 (mI M) (ad 10 0) 0 0) (mJ M)) (ad 10 0) 12, (Value.int ((up2 (mI M) (ad 10 0) 0 0) (ad 10 0) 21)) = .int 0]) rfl ⟨hM.1, congrArg Value.int (((up2_n _ _ (fun z => absurd z.2 (by decide))).trans (rfl)).trans op2), trivial⟩ ?_
      refine go_if rfl (fun _ => ?_) (fun (z : ¬ ((0 : Int32) = 0)) => absurd (show (0 : Int32) = 0 from (by decide)) z)
      refine go_blk 1 [] (pc' := 101) (vs' := [.ref (ad 10 0), .int 1, .int 0, .retAddr 0]) (st' := [.int 0]) (M' := mm M (up2 (mI M) (ad 10 0) 0 0) (mJ M)) (ps := []) rfl trivial ?_
      refine go_iret rfl rfl ?_
      exact h2 _ ⟨hsc, ad, nc, nb, nt, wk, nw, nx, nl, ne, nk, kd, false, rfl, rfl, rfl, hW.thr⟩
    refine ⟨fun (c3 : a1 = 2) => ?_, fun (c3n : ¬ (a1 = 2)) => ?_⟩
    · -- a1 = 2
      subst c3
      show Go 1311 158 0 0 94 [.ref (ad 0 0), .int 2] [] (mm M (mI M) (mJ M)) R
      refine go_blk 2 [some (.int 0)] (pc' := 98) (vs' := [.ref (ad 0 0), .int 2]) (st' := [.int 0]) (M' := mm M (mI M) (mJ M)) (ps := [ob (mm M (mI M) (mJ M)) (ad 0 0) 11, (Value.int ((mI M) (ad 0 0) 8)) = .int 0]) rfl ⟨(hF.o 0), congrArg Value.int op1, trivial⟩ ?_
      refine go_if rfl (fun _ => ?_) (fun (z : ¬ ((0 : Int32) = 0)) => absurd (show (0 : Int32) = 0 from (by decide)) z)
      refine go_blk 1 [] (pc' := 109) (vs' := [.ref (ad 0 0), .int 2]) (st' := [.int (-1)]) (M' := mm M (mI M) (mJ M)) (ps := []) rfl trivial ?_
      refine go_iret rfl rfl ?_
      refine K _ _ hM.1 rfl (fun R2 h2 => ?_)
      show Go 1311 275 0 0 0 [.ref (ad 10 0), .int 2, .retAddr 0, .retAddr 0] [] (mm M (mI M) (mJ M)) R2
      refine go_blk 6 [] (pc' := 8) (vs' := [.ref (ad 10 0), .int 2, .int 0, .retAddr 0]) (st' := [.int 2]) (M' := mm M (up2 (mI M) (ad 10 0) 0 0) (mJ M)) (ps := [ob (mm M (mI M) (mJ M)) (ad 10 0) 12]) rfl ⟨hM.1, trivial⟩ ?_
      refine go_tsw rfl ?_
      refine ⟨fun (z : (2 : Int32) = 0) => absurd z (by decide), fun _ => ?_⟩
      refine ⟨fun (z : (2 : Int32) = 1) => absurd z (by decide), fun _ => ?_⟩
      refine ⟨fun _ => ?_, fun z => absurd rfl z⟩
      show Go 1311 275 0 0 102 [.ref (ad 10 0), .int 2, .int 0, .retAddr 0] [] (mm M (up2 (mI M) (ad 10 0) 0 0) (mJ M)) R2
      refine go_blk 2 [some (.int 0)] (pc' := 106) (vs' := [.ref (ad 10 0), .int 2, .int 0, .retAddr 0]) (st' := [.int 0]) (M' := mm M (up2 (mI M) (ad 10 0) 0 0) (mJ M)) (ps := [ob (mm M (up2 (mI M) (ad 10 0) 0 0) (mJ M)) (ad 10 0) 12, (Value.int ((up2 (mI M) (ad 10 0) 0 0) (ad 10 0) 21)) = .int 0]) rfl ⟨hM.1, congrArg Value.int (((up2_n _ _ (fun z => absurd z.2 (by decide))).trans (rfl)).trans op2), trivial⟩ ?_
      refine go_if rfl (fun _ => ?_) (fun (z : ¬ ((0 : Int32) = 0)) => absurd (show (0 : Int32) = 0 from (by decide)) z)
      refine go_blk 1 [] (pc' := 117) (vs' := [.ref (ad 10 0), .int 2, .int 0, .retAddr 0]) (st' := [.int (-1)]) (M' := mm M (up2 (mI M) (ad 10 0) 0 0) (mJ M)) (ps := []) rfl trivial ?_
      refine go_iret rfl rfl ?_
      exact h2 _ ⟨hsc, ad, nc, nb, nt, wk, nw, nx, nl, ne, nk, kd, false, rfl, rfl, rfl, hW.thr⟩
    refine ⟨fun (c4 : a1 = 3) => ?_, fun (c4n : ¬ (a1 = 3)) => ?_⟩
    · -- a1 = 3
      subst c4
      show Go 1311 158 0 0 110 [.ref (ad 0 0), .int 3] [] (mm M (mI M) (mJ M)) R
      refine go_blk 2 [some (.int (nI nc))] (pc' := 114) (vs' := [.ref (ad 0 0), .int 3]) (st' := [.int (nI nc)]) (M' := mm M (mI M) (mJ M)) (ps := [ob (mm M (mI M) (mJ M)) (ad 0 0) 11, (Value.int ((mI M) (ad 0 0) 1)) = .int (nI nc)]) rfl ⟨(hF.o 0), congrArg Value.int nc1, trivial⟩ ?_
      refine go_iret rfl rfl ?_
      refine K _ _ hM.1 rfl (fun R2 h2 => ?_)
      show Go 1311 275 0 0 0 [.ref (ad 10 0), .int 3, .retAddr 0, .retAddr 0] [] (mm M (mI M) (mJ M)) R2
      refine go_blk 6 [] (pc' := 8) (vs' := [.ref (ad 10 0), .int 3, .int 0, .retAddr 0]) (st' := [.int 3]) (M' := mm M (up2 (mI M) (ad 10 0) 0 0) (mJ M)) (ps := [ob (mm M (mI M) (mJ M)) (ad 10 0) 12]) rfl ⟨hM.1, trivial⟩ ?_
      refine go_tsw rfl ?_
      refine ⟨fun (z : (3 : Int32) = 0) => absurd z (by decide), fun _ => ?_⟩
      refine ⟨fun (z : (3 : Int32) = 1) => absurd z (by decide), fun _ => ?_⟩
      refine ⟨fun (z : (3 : Int32) = 2) => absurd z (by decide), fun _ => ?_⟩
      refine ⟨fun _ => ?_, fun z => absurd rfl z⟩
      show Go 1311 275 0 0 118 [.ref (ad 10 0), .int 3, .int 0, .retAddr 0] [] (mm M (up2 (mI M) (ad 10 0) 0 0) (mJ M)) R2
      refine go_blk 2 [some (.int (nI nc))] (pc' := 122) (vs' := [.ref (ad 10 0), .int 3, .int 0, .retAddr 0]) (st' := [.int (nI nc)]) (M' := mm M (up2 (mI M) (ad 10 0) 0 0) (mJ M)) (ps := [ob (mm M (up2 (mI M) (ad 10 0) 0 0) (mJ M)) (ad 10 0) 12, (Value.int ((up2 (mI M) (ad 10 0) 0 0) (ad 10 0) 17)) = .int (nI nc)]) rfl ⟨hM.1, congrArg Value.int (((up2_n _ _ (fun z => absurd z.2 (by decide))).trans (rfl)).trans nc2), trivial⟩ ?_
      refine go_iret rfl rfl ?_
      exact h2 _ ⟨hsc, ad, nc, nb, nt, wk, nw, nx, nl, ne, nk, kd, false, rfl, rfl, rfl, hW.thr⟩
    refine ⟨fun (c5 : a1 = 4) => ?_, fun (c5n : ¬ (a1 = 4)) => ?_⟩
    · -- a1 = 4
      subst c5
      show Go 1311 158 0 0 115 [.ref (ad 0 0), .int 4] [] (mm M (mI M) (mJ M)) R
      refine go_blk 2 [some (.int (nI nb))] (pc' := 119) (vs' := [.ref (ad 0 0), .int 4]) (st' := [.int (nI nb)]) (M' := mm M (mI M) (mJ M)) (ps := [ob (mm M (mI M) (mJ M)) (ad 0 0) 11, (Value.int ((mI M) (ad 0 0) 3)) = .int (nI nb)]) rfl ⟨(hF.o 0), congrArg Value.int nb1, trivial⟩ ?_
      refine go_iret rfl rfl ?_
      refine K _ _ hM.1 rfl (fun R2 h2 => ?_)
      show Go 1311 275 0 0 0 [.ref (ad 10 0), .int 4, .retAddr 0, .retAddr 0] [] (mm M (mI M) (mJ M)) R2
      refine go_blk 6 [] (pc' := 8) (vs' := [.ref (ad 10 0), .int 4, .int 0, .retAddr 0]) (st' := [.int 4]) (M' := mm M (up2 (mI M) (ad 10 0) 0 0) (mJ M)) (ps := [ob (mm M (mI M) (mJ M)) (ad 10 0) 12]) rfl ⟨hM.1, trivial⟩ ?_
      refine go_tsw rfl ?_
      refine ⟨fun (z : (4 : Int32) = 0) => absurd z (by decide), fun _ => ?_⟩
      refine ⟨fun (z : (4 : Int32) = 1) => absurd z (by decide), fun _ => ?_⟩
      refine ⟨fun (z : (4 : Int32) = 2) => absurd z (by decide), fun _ => ?_⟩
      refine ⟨fun (z : (4 : Int32) = 3) => absurd z (by decide), fun _ => ?_⟩
      refine ⟨fun _ => ?_, fun z => absurd rfl z⟩
      show Go 1311 275 0 0 123 [.ref (ad 10 0), .int 4, .int 0, .retAddr 0] [] (mm M (up2 (mI M) (ad 10 0) 0 0) (mJ M)) R2
      refine go_blk 2 [some (.int (nI nb))] (pc' := 127) (vs' := [.ref (ad 10 0), .int 4, .int 0, .retAddr 0]) (st' := [.int (nI nb)]) (M' := mm M (up2 (mI M) (ad 10 0) 0 0) (mJ M)) (ps := [ob (mm M (up2 (mI M) (ad 10 0) 0 0) (mJ M)) (ad 10 0) 12, (Value.int ((up2 (mI M) (ad 10 0) 0 0) (ad 10 0) 18)) = .int (nI nb)]) rfl ⟨hM.1, congrArg Value.int (((up2_n _ _ (fun z => absurd z.2 (by decide))).trans (rfl)).trans nb2), trivial⟩ ?_
      refine go_iret rfl rfl ?_
      exact h2 _ ⟨hsc, ad, nc, nb, nt, wk, nw, nx, nl, ne, nk, kd, false, rfl, rfl, rfl, hW.thr⟩
    refine ⟨fun (c6 : a1 = 5) => ?_, fun (c6n : ¬ (a1 = 5)) => ?_⟩
    · -- a1 = 5
      subst c6
      show Go 1311 158 0 0 120 [.ref (ad 0 0), .int 5] [] (mm M (mI M) (mJ M)) R
      refine go_blk 1 [] (pc' := 121) (vs' := [.ref (ad 0 0), .int 5]) (st' := [.ref (ad 0 0)]) (M' := mm M (mI M) (mJ M)) (ps := []) rfl trivial ?_
      refine go_callV rfl rfl rfl (by omega) rfl (by decide) (by decide) (hF.o 0) ?_
      refine s_CY_bookingsInForce (f := mI M) (by omega) hF hB nb1 nb3 ⟨ne_i, ?_⟩
      show Go 1311 158 0 0 124 [.ref (ad 0 0), .int 5] [.int (smI (fun b => if (mI M) (ad 2 b) 6 = 0 then 0 else 1) nb)] (mm M (mI M) (mJ M)) R
      refine go_iret rfl rfl ?_
      refine K _ _ hM.1 rfl (fun R2 h2 => ?_)
      show Go 1311 275 0 0 0 [.ref (ad 10 0), .int 5, .retAddr 0, .retAddr 0] [] (mm M (mI M) (mJ M)) R2
      refine go_blk 6 [] (pc' := 8) (vs' := [.ref (ad 10 0), .int 5, .int 0, .retAddr 0]) (st' := [.int 5]) (M' := mm M (up2 (mI M) (ad 10 0) 0 0) (mJ M)) (ps := [ob (mm M (mI M) (mJ M)) (ad 10 0) 12]) rfl ⟨hM.1, trivial⟩ ?_
      refine go_tsw rfl ?_
      refine ⟨fun (z : (5 : Int32) = 0) => absurd z (by decide), fun _ => ?_⟩
      refine ⟨fun (z : (5 : Int32) = 1) => absurd z (by decide), fun _ => ?_⟩
      refine ⟨fun (z : (5 : Int32) = 2) => absurd z (by decide), fun _ => ?_⟩
      refine ⟨fun (z : (5 : Int32) = 3) => absurd z (by decide), fun _ => ?_⟩
      refine ⟨fun (z : (5 : Int32) = 4) => absurd z (by decide), fun _ => ?_⟩
      refine ⟨fun _ => ?_, fun z => absurd rfl z⟩
      show Go 1311 275 0 0 128 [.ref (ad 10 0), .int 5, .int 0, .retAddr 0] [] (mm M (up2 (mI M) (ad 10 0) 0 0) (mJ M)) R2
      refine go_blk 2 [] (pc' := 130) (vs' := [.ref (ad 10 0), .int 5, .int 0, .int 0]) (st' := []) (M' := mm M (up2 (mI M) (ad 10 0) 0 0) (mJ M)) (ps := []) rfl trivial ?_
      refine lp_Mo_count5 (f := (up2 (mI M) (ad 10 0) 0 0)) (by omega) hM (by simpa [up2_ad hi] using nb2) nb3 ?_ 0 (Nat.zero_le _)
      show Go 1311 275 0 0 161 [.ref (ad 10 0), .int 5, .int (smI (fun b => if (up2 (mI M) (ad 10 0) 0 0) (ad 9 15) b = 0 then 0 else 1) nb), .int (nI nb)] [] (mm M (up2 (mI M) (ad 10 0) 0 0) (mJ M)) R2
      refine go_blk 1 [] (pc' := 162) (vs' := [.ref (ad 10 0), .int 5, .int (smI (fun b => if (up2 (mI M) (ad 10 0) 0 0) (ad 9 15) b = 0 then 0 else 1) nb), .int (nI nb)]) (st' := [.int (smI (fun b => if (up2 (mI M) (ad 10 0) 0 0) (ad 9 15) b = 0 then 0 else 1) nb)]) (M' := mm M (up2 (mI M) (ad 10 0) 0 0) (mJ M)) (ps := []) rfl trivial ?_
      refine go_iret rfl rfl ?_
      have e9 : (smI (fun b => if (up2 (mI M) (ad 10 0) 0 0) (ad 9 15) b = 0 then 0 else 1) nb) = smI (fun b => if (mI M) (ad 2 b) 6 = 0 then 0 else 1) nb := (smI_congr (fun b hb => by have q := (iB.1 b hb).1; simp only [vw] at q; simp [up2_ad hi, q]))
      rw [e9]
      exact h2 _ ⟨hsc, ad, nc, nb, nt, wk, nw, nx, nl, ne, nk, kd, false, rfl, rfl, rfl, hW.thr⟩
    refine ⟨fun (c7 : a1 = 6) => ?_, fun (c7n : ¬ (a1 = 6)) => ?_⟩
    · -- a1 = 6
      subst c7
      show Go 1311 158 0 0 125 [.ref (ad 0 0), .int 6] [] (mm M (mI M) (mJ M)) R
      refine go_blk 2 [some (.int (nI nt))] (pc' := 129) (vs' := [.ref (ad 0 0), .int 6]) (st' := [.int (nI nt)]) (M' := mm M (mI M) (mJ M)) (ps := [ob (mm M (mI M) (mJ M)) (ad 0 0) 11, (Value.int ((mI M) (ad 0 0) 5)) = .int (nI nt)]) rfl ⟨(hF.o 0), congrArg Value.int nt1, trivial⟩ ?_
      refine go_iret rfl rfl ?_
      refine K _ _ hM.1 rfl (fun R2 h2 => ?_)
      show Go 1311 275 0 0 0 [.ref (ad 10 0), .int 6, .retAddr 0, .retAddr 0] [] (mm M (mI M) (mJ M)) R2
      refine go_blk 6 [] (pc' := 8) (vs' := [.ref (ad 10 0), .int 6, .int 0, .retAddr 0]) (st' := [.int 6]) (M' := mm M (up2 (mI M) (ad 10 0) 0 0) (mJ M)) (ps := [ob (mm M (mI M) (mJ M)) (ad 10 0) 12]) rfl ⟨hM.1, trivial⟩ ?_
      refine go_tsw rfl ?_
      refine ⟨fun (z : (6 : Int32) = 0) => absurd z (by decide), fun _ => ?_⟩
      refine ⟨fun (z : (6 : Int32) = 1) => absurd z (by decide), fun _ => ?_⟩
      refine ⟨fun (z : (6 : Int32) = 2) => absurd z (by decide), fun _ => ?_⟩
      refine ⟨fun (z : (6 : Int32) = 3) => absurd z (by decide), fun _ => ?_⟩
      refine ⟨fun (z : (6 : Int32) = 4) => absurd z (by decide), fun _ => ?_⟩
      refine ⟨fun (z : (6 : Int32) = 5) => absurd z (by decide), fun _ => ?_⟩
      refine ⟨fun _ => ?_, fun z => absurd rfl z⟩
      show Go 1311 275 0 0 163 [.ref (ad 10 0), .int 6, .int 0, .retAddr 0] [] (mm M (up2 (mI M) (ad 10 0) 0 0) (mJ M)) R2
      refine go_blk 2 [some (.int (nI nt))] (pc' := 167) (vs' := [.ref (ad 10 0), .int 6, .int 0, .retAddr 0]) (st' := [.int (nI nt)]) (M' := mm M (up2 (mI M) (ad 10 0) 0 0) (mJ M)) (ps := [ob (mm M (up2 (mI M) (ad 10 0) 0 0) (mJ M)) (ad 10 0) 12, (Value.int ((up2 (mI M) (ad 10 0) 0 0) (ad 10 0) 30)) = .int (nI nt)]) rfl ⟨hM.1, congrArg Value.int (((up2_n _ _ (fun z => absurd z.2 (by decide))).trans (rfl)).trans nt2), trivial⟩ ?_
      refine go_iret rfl rfl ?_
      exact h2 _ ⟨hsc, ad, nc, nb, nt, wk, nw, nx, nl, ne, nk, kd, false, rfl, rfl, rfl, hW.thr⟩
    refine ⟨fun (c8 : a1 = 7) => ?_, fun (c8n : ¬ (a1 = 7)) => ?_⟩
    · -- a1 = 7
      subst c8
      show Go 1311 158 0 0 130 [.ref (ad 0 0), .int 7] [] (mm M (mI M) (mJ M)) R
      refine go_blk 3 [some (.ref (ad 0 10)), some (.int (nI nx))] (pc' := 137) (vs' := [.ref (ad 0 0), .int 7]) (st' := [.int (nI nx)]) (M' := mm M (mI M) (mJ M)) (ps := [ob (mm M (mI M) (mJ M)) (ad 0 0) 11, mR (mm M (mI M) (mJ M)) (ad 0 0) 17 = some (ad 0 10), va_rf (some (ad 0 10)) = .ref (ad 0 10), ob (mm M (mI M) (mJ M)) (ad 0 10) 10, (Value.int ((mI M) (ad 0 10) 2)) = .int (nI nx)]) rfl ⟨(hF.o 0), (hF.r 0 17 10), rfl, (hF.o 10), congrArg Value.int jX.1.1, trivial⟩ ?_
      refine go_iret rfl rfl ?_
      refine K _ _ hM.1 rfl (fun R2 h2 => ?_)
      show Go 1311 275 0 0 0 [.ref (ad 10 0), .int 7, .retAddr 0, .retAddr 0] [] (mm M (mI M) (mJ M)) R2
      refine go_blk 6 [] (pc' := 8) (vs' := [.ref (ad 10 0), .int 7, .int 0, .retAddr 0]) (st' := [.int 7]) (M' := mm M (up2 (mI M) (ad 10 0) 0 0) (mJ M)) (ps := [ob (mm M (mI M) (mJ M)) (ad 10 0) 12]) rfl ⟨hM.1, trivial⟩ ?_
      refine go_tsw rfl ?_
      refine ⟨fun (z : (7 : Int32) = 0) => absurd z (by decide), fun _ => ?_⟩
      refine ⟨fun (z : (7 : Int32) = 1) => absurd z (by decide), fun _ => ?_⟩
      refine ⟨fun (z : (7 : Int32) = 2) => absurd z (by decide), fun _ => ?_⟩
      refine ⟨fun (z : (7 : Int32) = 3) => absurd z (by decide), fun _ => ?_⟩
      refine ⟨fun (z : (7 : Int32) = 4) => absurd z (by decide), fun _ => ?_⟩
      refine ⟨fun (z : (7 : Int32) = 5) => absurd z (by decide), fun _ => ?_⟩
      refine ⟨fun (z : (7 : Int32) = 6) => absurd z (by decide), fun _ => ?_⟩
      refine ⟨fun _ => ?_, fun z => absurd rfl z⟩
      show Go 1311 275 0 0 168 [.ref (ad 10 0), .int 7, .int 0, .retAddr 0] [] (mm M (up2 (mI M) (ad 10 0) 0 0) (mJ M)) R2
      refine go_blk 2 [some (.int (nI nx))] (pc' := 172) (vs' := [.ref (ad 10 0), .int 7, .int 0, .retAddr 0]) (st' := [.int (nI nx)]) (M' := mm M (up2 (mI M) (ad 10 0) 0 0) (mJ M)) (ps := [ob (mm M (up2 (mI M) (ad 10 0) 0 0) (mJ M)) (ad 10 0) 12, (Value.int ((up2 (mI M) (ad 10 0) 0 0) (ad 10 0) 81)) = .int (nI nx)]) rfl ⟨hM.1, congrArg Value.int (((up2_n _ _ (fun z => absurd z.2 (by decide))).trans (rfl)).trans jX.1.2.1), trivial⟩ ?_
      refine go_iret rfl rfl ?_
      exact h2 _ ⟨hsc, ad, nc, nb, nt, wk, nw, nx, nl, ne, nk, kd, false, rfl, rfl, rfl, hW.thr⟩
    refine ⟨fun (c9 : a1 = 8) => ?_, fun (c9n : ¬ (a1 = 8)) => ?_⟩
    · -- a1 = 8
      subst c9
      show Go 1311 158 0 0 138 [.ref (ad 0 0), .int 8] [] (mm M (mI M) (mJ M)) R
      refine go_blk 3 [some (.ref (ad 0 10)), some (.int (nI nl))] (pc' := 145) (vs' := [.ref (ad 0 0), .int 8]) (st' := [.int (nI nl)]) (M' := mm M (mI M) (mJ M)) (ps := [ob (mm M (mI M) (mJ M)) (ad 0 0) 11, mR (mm M (mI M) (mJ M)) (ad 0 0) 17 = some (ad 0 10), va_rf (some (ad 0 10)) = .ref (ad 0 10), ob (mm M (mI M) (mJ M)) (ad 0 10) 10, (Value.int ((mI M) (ad 0 10) 6)) = .int (nI nl)]) rfl ⟨(hF.o 0), (hF.r 0 17 10), rfl, (hF.o 10), congrArg Value.int jL.1.1, trivial⟩ ?_
      refine go_iret rfl rfl ?_
      refine K _ _ hM.1 rfl (fun R2 h2 => ?_)
      show Go 1311 275 0 0 0 [.ref (ad 10 0), .int 8, .retAddr 0, .retAddr 0] [] (mm M (mI M) (mJ M)) R2
      refine go_blk 6 [] (pc' := 8) (vs' := [.ref (ad 10 0), .int 8, .int 0, .retAddr 0]) (st' := [.int 8]) (M' := mm M (up2 (mI M) (ad 10 0) 0 0) (mJ M)) (ps := [ob (mm M (mI M) (mJ M)) (ad 10 0) 12]) rfl ⟨hM.1, trivial⟩ ?_
      refine go_tsw rfl ?_
      refine ⟨fun (z : (8 : Int32) = 0) => absurd z (by decide), fun _ => ?_⟩
      refine ⟨fun (z : (8 : Int32) = 1) => absurd z (by decide), fun _ => ?_⟩
      refine ⟨fun (z : (8 : Int32) = 2) => absurd z (by decide), fun _ => ?_⟩
      refine ⟨fun (z : (8 : Int32) = 3) => absurd z (by decide), fun _ => ?_⟩
      refine ⟨fun (z : (8 : Int32) = 4) => absurd z (by decide), fun _ => ?_⟩
      refine ⟨fun (z : (8 : Int32) = 5) => absurd z (by decide), fun _ => ?_⟩
      refine ⟨fun (z : (8 : Int32) = 6) => absurd z (by decide), fun _ => ?_⟩
      refine ⟨fun (z : (8 : Int32) = 7) => absurd z (by decide), fun _ => ?_⟩
      refine ⟨fun _ => ?_, fun z => absurd rfl z⟩
      show Go 1311 275 0 0 173 [.ref (ad 10 0), .int 8, .int 0, .retAddr 0] [] (mm M (up2 (mI M) (ad 10 0) 0 0) (mJ M)) R2
      refine go_blk 2 [some (.int (nI nl))] (pc' := 177) (vs' := [.ref (ad 10 0), .int 8, .int 0, .retAddr 0]) (st' := [.int (nI nl)]) (M' := mm M (up2 (mI M) (ad 10 0) 0 0) (mJ M)) (ps := [ob (mm M (up2 (mI M) (ad 10 0) 0 0) (mJ M)) (ad 10 0) 12, (Value.int ((up2 (mI M) (ad 10 0) 0 0) (ad 10 0) 73)) = .int (nI nl)]) rfl ⟨hM.1, congrArg Value.int (((up2_n _ _ (fun z => absurd z.2 (by decide))).trans (rfl)).trans jL.1.2.1), trivial⟩ ?_
      refine go_iret rfl rfl ?_
      exact h2 _ ⟨hsc, ad, nc, nb, nt, wk, nw, nx, nl, ne, nk, kd, false, rfl, rfl, rfl, hW.thr⟩
    refine ⟨fun (c10 : a1 = 9) => ?_, fun (c10n : ¬ (a1 = 9)) => ?_⟩
    · -- a1 = 9
      subst c10
      show Go 1311 158 0 0 146 [.ref (ad 0 0), .int 9] [] (mm M (mI M) (mJ M)) R
      refine go_blk 3 [some (.ref (ad 0 10)), some (.int ((mI M) (ad 10 0) 74))] (pc' := 153) (vs' := [.ref (ad 0 0), .int 9]) (st' := [.int ((mI M) (ad 10 0) 74)]) (M' := mm M (mI M) (mJ M)) (ps := [ob (mm M (mI M) (mJ M)) (ad 0 0) 11, mR (mm M (mI M) (mJ M)) (ad 0 0) 17 = some (ad 0 10), va_rf (some (ad 0 10)) = .ref (ad 0 10), ob (mm M (mI M) (mJ M)) (ad 0 10) 10, (Value.int ((mI M) (ad 0 10) 7)) = .int ((mI M) (ad 10 0) 74)]) rfl ⟨(hF.o 0), (hF.r 0 17 10), rfl, (hF.o 10), congrArg Value.int jL.1.2.2.2, trivial⟩ ?_
      refine go_iret rfl rfl ?_
      refine K _ _ hM.1 rfl (fun R2 h2 => ?_)
      show Go 1311 275 0 0 0 [.ref (ad 10 0), .int 9, .retAddr 0, .retAddr 0] [] (mm M (mI M) (mJ M)) R2
      refine go_blk 6 [] (pc' := 8) (vs' := [.ref (ad 10 0), .int 9, .int 0, .retAddr 0]) (st' := [.int 9]) (M' := mm M (up2 (mI M) (ad 10 0) 0 0) (mJ M)) (ps := [ob (mm M (mI M) (mJ M)) (ad 10 0) 12]) rfl ⟨hM.1, trivial⟩ ?_
      refine go_tsw rfl ?_
      refine ⟨fun (z : (9 : Int32) = 0) => absurd z (by decide), fun _ => ?_⟩
      refine ⟨fun (z : (9 : Int32) = 1) => absurd z (by decide), fun _ => ?_⟩
      refine ⟨fun (z : (9 : Int32) = 2) => absurd z (by decide), fun _ => ?_⟩
      refine ⟨fun (z : (9 : Int32) = 3) => absurd z (by decide), fun _ => ?_⟩
      refine ⟨fun (z : (9 : Int32) = 4) => absurd z (by decide), fun _ => ?_⟩
      refine ⟨fun (z : (9 : Int32) = 5) => absurd z (by decide), fun _ => ?_⟩
      refine ⟨fun (z : (9 : Int32) = 6) => absurd z (by decide), fun _ => ?_⟩
      refine ⟨fun (z : (9 : Int32) = 7) => absurd z (by decide), fun _ => ?_⟩
      refine ⟨fun (z : (9 : Int32) = 8) => absurd z (by decide), fun _ => ?_⟩
      refine ⟨fun _ => ?_, fun z => absurd rfl z⟩
      show Go 1311 275 0 0 178 [.ref (ad 10 0), .int 9, .int 0, .retAddr 0] [] (mm M (up2 (mI M) (ad 10 0) 0 0) (mJ M)) R2
      refine go_blk 2 [some (.int ((mI M) (ad 10 0) 74))] (pc' := 182) (vs' := [.ref (ad 10 0), .int 9, .int 0, .retAddr 0]) (st' := [.int ((mI M) (ad 10 0) 74)]) (M' := mm M (up2 (mI M) (ad 10 0) 0 0) (mJ M)) (ps := [ob (mm M (up2 (mI M) (ad 10 0) 0 0) (mJ M)) (ad 10 0) 12, (Value.int ((up2 (mI M) (ad 10 0) 0 0) (ad 10 0) 74)) = .int ((mI M) (ad 10 0) 74)]) rfl ⟨hM.1, congrArg Value.int ((up2_n _ _ (fun z => absurd z.2 (by decide))).trans (rfl)), trivial⟩ ?_
      refine go_iret rfl rfl ?_
      exact h2 _ ⟨hsc, ad, nc, nb, nt, wk, nw, nx, nl, ne, nk, kd, false, rfl, rfl, rfl, hW.thr⟩
    refine ⟨fun (c11 : a1 = 10) => ?_, fun (c11n : ¬ (a1 = 10)) => ?_⟩
    · -- a1 = 10
      subst c11
      show Go 1311 158 0 0 154 [.ref (ad 0 0), .int 10] [] (mm M (mI M) (mJ M)) R
      refine go_blk 3 [some (.ref (ad 0 9)), some (.int (nI nk))] (pc' := 161) (vs' := [.ref (ad 0 0), .int 10]) (st' := [.int (nI nk)]) (M' := mm M (mI M) (mJ M)) (ps := [ob (mm M (mI M) (mJ M)) (ad 0 0) 11, mR (mm M (mI M) (mJ M)) (ad 0 0) 16 = some (ad 0 9), va_rf (some (ad 0 9)) = .ref (ad 0 9), ob (mm M (mI M) (mJ M)) (ad 0 9) 1, (Value.int ((mI M) (ad 0 9) 4)) = .int (nI nk)]) rfl ⟨(hF.o 0), (hF.r 0 16 9), rfl, (hF.o 9), congrArg Value.int jB.1.2.2.1, trivial⟩ ?_
      refine go_iret rfl rfl ?_
      refine K _ _ hM.1 rfl (fun R2 h2 => ?_)
      show Go 1311 275 0 0 0 [.ref (ad 10 0), .int 10, .retAddr 0, .retAddr 0] [] (mm M (mI M) (mJ M)) R2
      refine go_blk 6 [] (pc' := 8) (vs' := [.ref (ad 10 0), .int 10, .int 0, .retAddr 0]) (st' := [.int 10]) (M' := mm M (up2 (mI M) (ad 10 0) 0 0) (mJ M)) (ps := [ob (mm M (mI M) (mJ M)) (ad 10 0) 12]) rfl ⟨hM.1, trivial⟩ ?_
      refine go_tsw rfl ?_
      refine ⟨fun (z : (10 : Int32) = 0) => absurd z (by decide), fun _ => ?_⟩
      refine ⟨fun (z : (10 : Int32) = 1) => absurd z (by decide), fun _ => ?_⟩
      refine ⟨fun (z : (10 : Int32) = 2) => absurd z (by decide), fun _ => ?_⟩
      refine ⟨fun (z : (10 : Int32) = 3) => absurd z (by decide), fun _ => ?_⟩
      refine ⟨fun (z : (10 : Int32) = 4) => absurd z (by decide), fun _ => ?_⟩
      refine ⟨fun (z : (10 : Int32) = 5) => absurd z (by decide), fun _ => ?_⟩
      refine ⟨fun (z : (10 : Int32) = 6) => absurd z (by decide), fun _ => ?_⟩
      refine ⟨fun (z : (10 : Int32) = 7) => absurd z (by decide), fun _ => ?_⟩
      refine ⟨fun (z : (10 : Int32) = 8) => absurd z (by decide), fun _ => ?_⟩
      refine ⟨fun (z : (10 : Int32) = 9) => absurd z (by decide), fun _ => ?_⟩
      refine ⟨fun _ => ?_, fun z => absurd rfl z⟩
      show Go 1311 275 0 0 183 [.ref (ad 10 0), .int 10, .int 0, .retAddr 0] [] (mm M (up2 (mI M) (ad 10 0) 0 0) (mJ M)) R2
      refine go_blk 2 [some (.int (nI nk))] (pc' := 187) (vs' := [.ref (ad 10 0), .int 10, .int 0, .retAddr 0]) (st' := [.int (nI nk)]) (M' := mm M (up2 (mI M) (ad 10 0) 0 0) (mJ M)) (ps := [ob (mm M (up2 (mI M) (ad 10 0) 0 0) (mJ M)) (ad 10 0) 12, (Value.int ((up2 (mI M) (ad 10 0) 0 0) (ad 10 0) 96)) = .int (nI nk)]) rfl ⟨hM.1, congrArg Value.int (((up2_n _ _ (fun z => absurd z.2 (by decide))).trans (rfl)).trans jB.1.2.2.2.1), trivial⟩ ?_
      refine go_iret rfl rfl ?_
      exact h2 _ ⟨hsc, ad, nc, nb, nt, wk, nw, nx, nl, ne, nk, kd, false, rfl, rfl, rfl, hW.thr⟩
    refine ⟨fun (c12 : a1 = 11) => ?_, fun (c12n : ¬ (a1 = 11)) => ?_⟩
    · -- a1 = 11
      subst c12
      show Go 1311 158 0 0 162 [.ref (ad 0 0), .int 11] [] (mm M (mI M) (mJ M)) R
      refine go_blk 2 [some (.int (nI ncm))] (pc' := 166) (vs' := [.ref (ad 0 0), .int 11]) (st' := [.int (nI ncm)]) (M' := mm M (mI M) (mJ M)) (ps := [ob (mm M (mI M) (mJ M)) (ad 0 0) 11, (Value.int ((mI M) (ad 0 0) 6)) = .int (nI ncm)]) rfl ⟨(hF.o 0), congrArg Value.int ncm2, trivial⟩ ?_
      refine go_iret rfl rfl ?_
      refine K _ _ hM.1 rfl (fun R2 h2 => ?_)
      show Go 1311 275 0 0 0 [.ref (ad 10 0), .int 11, .retAddr 0, .retAddr 0] [] (mm M (mI M) (mJ M)) R2
      refine go_blk 6 [] (pc' := 8) (vs' := [.ref (ad 10 0), .int 11, .int 0, .retAddr 0]) (st' := [.int 11]) (M' := mm M (up2 (mI M) (ad 10 0) 0 0) (mJ M)) (ps := [ob (mm M (mI M) (mJ M)) (ad 10 0) 12]) rfl ⟨hM.1, trivial⟩ ?_
      refine go_tsw rfl ?_
      refine ⟨fun (z : (11 : Int32) = 0) => absurd z (by decide), fun _ => ?_⟩
      refine ⟨fun (z : (11 : Int32) = 1) => absurd z (by decide), fun _ => ?_⟩
      refine ⟨fun (z : (11 : Int32) = 2) => absurd z (by decide), fun _ => ?_⟩
      refine ⟨fun (z : (11 : Int32) = 3) => absurd z (by decide), fun _ => ?_⟩
      refine ⟨fun (z : (11 : Int32) = 4) => absurd z (by decide), fun _ => ?_⟩
      refine ⟨fun (z : (11 : Int32) = 5) => absurd z (by decide), fun _ => ?_⟩
      refine ⟨fun (z : (11 : Int32) = 6) => absurd z (by decide), fun _ => ?_⟩
      refine ⟨fun (z : (11 : Int32) = 7) => absurd z (by decide), fun _ => ?_⟩
      refine ⟨fun (z : (11 : Int32) = 8) => absurd z (by decide), fun _ => ?_⟩
      refine ⟨fun (z : (11 : Int32) = 9) => absurd z (by decide), fun _ => ?_⟩
      refine ⟨fun (z : (11 : Int32) = 10) => absurd z (by decide), fun _ => ?_⟩
      refine ⟨fun _ => ?_, fun z => absurd rfl z⟩
      show Go 1311 275 0 0 188 [.ref (ad 10 0), .int 11, .int 0, .retAddr 0] [] (mm M (up2 (mI M) (ad 10 0) 0 0) (mJ M)) R2
      refine go_blk 2 [some (.int (nI ncm))] (pc' := 192) (vs' := [.ref (ad 10 0), .int 11, .int 0, .retAddr 0]) (st' := [.int (nI ncm)]) (M' := mm M (up2 (mI M) (ad 10 0) 0 0) (mJ M)) (ps := [ob (mm M (up2 (mI M) (ad 10 0) 0 0) (mJ M)) (ad 10 0) 12, (Value.int ((up2 (mI M) (ad 10 0) 0 0) (ad 10 0) 98)) = .int (nI ncm)]) rfl ⟨hM.1, congrArg Value.int (((up2_n _ _ (fun z => absurd z.2 (by decide))).trans (rfl)).trans ncm3), trivial⟩ ?_
      refine go_iret rfl rfl ?_
      exact h2 _ ⟨hsc, ad, nc, nb, nt, wk, nw, nx, nl, ne, nk, kd, false, rfl, rfl, rfl, hW.thr⟩
    refine ⟨fun (c13 : a1 = 12) => ?_, fun (c13n : ¬ (a1 = 12)) => ?_⟩
    · -- a1 = 12
      subst c13
      show Go 1311 158 0 0 167 [.ref (ad 0 0), .int 12] [] (mm M (mI M) (mJ M)) R
      refine go_blk 1 [] (pc' := 168) (vs' := [.ref (ad 0 0), .int 12]) (st' := [.ref (ad 0 0)]) (M' := mm M (mI M) (mJ M)) (ps := []) rfl trivial ?_
      refine go_callV rfl rfl rfl (by omega) rfl (by decide) (by decide) (hF.o 0) ?_
      refine s_CY_jobsLeftOut (f := mI M) (by omega) hF hB nb1 nb3 hJq ⟨ne_i, ?_⟩
      show Go 1311 158 0 0 171 [.ref (ad 0 0), .int 12] [.int (smI (fun b => loT (mI M) ((mI M) (ad 0 0) 7) (mR M (ad 2 b) 12)) nb)] (mm M (mI M) (mJ M)) R
      refine go_iret rfl rfl ?_
      refine K _ _ hM.1 rfl (fun R2 h2 => ?_)
      show Go 1311 275 0 0 0 [.ref (ad 10 0), .int 12, .retAddr 0, .retAddr 0] [] (mm M (mI M) (mJ M)) R2
      refine go_blk 6 [] (pc' := 8) (vs' := [.ref (ad 10 0), .int 12, .int 0, .retAddr 0]) (st' := [.int 12]) (M' := mm M (up2 (mI M) (ad 10 0) 0 0) (mJ M)) (ps := [ob (mm M (mI M) (mJ M)) (ad 10 0) 12]) rfl ⟨hM.1, trivial⟩ ?_
      refine go_tsw rfl ?_
      refine ⟨fun (z : (12 : Int32) = 0) => absurd z (by decide), fun _ => ?_⟩
      refine ⟨fun (z : (12 : Int32) = 1) => absurd z (by decide), fun _ => ?_⟩
      refine ⟨fun (z : (12 : Int32) = 2) => absurd z (by decide), fun _ => ?_⟩
      refine ⟨fun (z : (12 : Int32) = 3) => absurd z (by decide), fun _ => ?_⟩
      refine ⟨fun (z : (12 : Int32) = 4) => absurd z (by decide), fun _ => ?_⟩
      refine ⟨fun (z : (12 : Int32) = 5) => absurd z (by decide), fun _ => ?_⟩
      refine ⟨fun (z : (12 : Int32) = 6) => absurd z (by decide), fun _ => ?_⟩
      refine ⟨fun (z : (12 : Int32) = 7) => absurd z (by decide), fun _ => ?_⟩
      refine ⟨fun (z : (12 : Int32) = 8) => absurd z (by decide), fun _ => ?_⟩
      refine ⟨fun (z : (12 : Int32) = 9) => absurd z (by decide), fun _ => ?_⟩
      refine ⟨fun (z : (12 : Int32) = 10) => absurd z (by decide), fun _ => ?_⟩
      refine ⟨fun (z : (12 : Int32) = 11) => absurd z (by decide), fun _ => ?_⟩
      refine ⟨fun _ => ?_, fun z => absurd rfl z⟩
      show Go 1311 275 0 0 193 [.ref (ad 10 0), .int 12, .int 0, .retAddr 0] [] (mm M (up2 (mI M) (ad 10 0) 0 0) (mJ M)) R2
      refine go_blk 2 [some (.int ((mI M) (ad 10 0) 52))] (pc' := 197) (vs' := [.ref (ad 10 0), .int 12, .int 0, .retAddr 0]) (st' := [.int ((mI M) (ad 10 0) 52)]) (M' := mm M (up2 (mI M) (ad 10 0) 0 0) (mJ M)) (ps := [ob (mm M (up2 (mI M) (ad 10 0) 0 0) (mJ M)) (ad 10 0) 12, (Value.int ((up2 (mI M) (ad 10 0) 0 0) (ad 10 0) 52)) = .int ((mI M) (ad 10 0) 52)]) rfl ⟨hM.1, congrArg Value.int ((up2_n _ _ (fun z => absurd z.2 (by decide))).trans (rfl)), trivial⟩ ?_
      refine go_iret rfl rfl ?_
      have e9 : ((mI M) (ad 10 0) 52) = smI (fun b => loT (mI M) ((mI M) (ad 0 0) 7) (mR M (ad 2 b) 12)) nb := (by simpa [vw] using kO.trans (smI_ct (fun b hb => by exact hLO b hb)).symm)
      rw [e9]
      exact h2 _ ⟨hsc, ad, nc, nb, nt, wk, nw, nx, nl, ne, nk, kd, false, rfl, rfl, rfl, hW.thr⟩
    refine ⟨fun (c14 : a1 = 13) => ?_, fun (c14n : ¬ (a1 = 13)) => ?_⟩
    · -- a1 = 13
      subst c14
      show Go 1311 158 0 0 172 [.ref (ad 0 0), .int 13] [] (mm M (mI M) (mJ M)) R
      refine go_blk 1 [] (pc' := 173) (vs' := [.ref (ad 0 0), .int 13]) (st' := [.ref (ad 0 0)]) (M' := mm M (mI M) (mJ M)) (ps := []) rfl trivial ?_
      refine go_callV rfl rfl rfl (by omega) rfl (by decide) (by decide) (hF.o 0) ?_
      refine s_CY_lateMinutes (f := mI M) (by omega) hF hB nb1 nb3 hJq ⟨ne_i, ?_⟩
      show Go 1311 158 0 0 176 [.ref (ad 0 0), .int 13] [.int (smI (fun b => ltT (mI M) (mR M (ad 2 b) 12)) nb)] (mm M (mI M) (mJ M)) R
      refine go_iret rfl rfl ?_
      refine K _ _ hM.1 rfl (fun R2 h2 => ?_)
      show Go 1311 275 0 0 0 [.ref (ad 10 0), .int 13, .retAddr 0, .retAddr 0] [] (mm M (mI M) (mJ M)) R2
      refine go_blk 6 [] (pc' := 8) (vs' := [.ref (ad 10 0), .int 13, .int 0, .retAddr 0]) (st' := [.int 13]) (M' := mm M (up2 (mI M) (ad 10 0) 0 0) (mJ M)) (ps := [ob (mm M (mI M) (mJ M)) (ad 10 0) 12]) rfl ⟨hM.1, trivial⟩ ?_
      refine go_tsw rfl ?_
      refine ⟨fun (z : (13 : Int32) = 0) => absurd z (by decide), fun _ => ?_⟩
      refine ⟨fun (z : (13 : Int32) = 1) => absurd z (by decide), fun _ => ?_⟩
      refine ⟨fun (z : (13 : Int32) = 2) => absurd z (by decide), fun _ => ?_⟩
      refine ⟨fun (z : (13 : Int32) = 3) => absurd z (by decide), fun _ => ?_⟩
      refine ⟨fun (z : (13 : Int32) = 4) => absurd z (by decide), fun _ => ?_⟩
      refine ⟨fun (z : (13 : Int32) = 5) => absurd z (by decide), fun _ => ?_⟩
      refine ⟨fun (z : (13 : Int32) = 6) => absurd z (by decide), fun _ => ?_⟩
      refine ⟨fun (z : (13 : Int32) = 7) => absurd z (by decide), fun _ => ?_⟩
      refine ⟨fun (z : (13 : Int32) = 8) => absurd z (by decide), fun _ => ?_⟩
      refine ⟨fun (z : (13 : Int32) = 9) => absurd z (by decide), fun _ => ?_⟩
      refine ⟨fun (z : (13 : Int32) = 10) => absurd z (by decide), fun _ => ?_⟩
      refine ⟨fun (z : (13 : Int32) = 11) => absurd z (by decide), fun _ => ?_⟩
      refine ⟨fun (z : (13 : Int32) = 12) => absurd z (by decide), fun _ => ?_⟩
      refine ⟨fun _ => ?_, fun z => absurd rfl z⟩
      show Go 1311 275 0 0 198 [.ref (ad 10 0), .int 13, .int 0, .retAddr 0] [] (mm M (up2 (mI M) (ad 10 0) 0 0) (mJ M)) R2
      refine go_blk 2 [] (pc' := 200) (vs' := [.ref (ad 10 0), .int 13, .int 0, .int 0]) (st' := []) (M' := mm M (up2 (mI M) (ad 10 0) 0 0) (mJ M)) (ps := []) rfl trivial ?_
      refine lp_Mo_count13 (f := (up2 (mI M) (ad 10 0) 0 0)) (by omega) hM ?_ 0 (Nat.zero_le _)
      show Go 1311 275 0 0 244 [.ref (ad 10 0), .int 13, .int (smI (fun j => if (up2 (mI M) (ad 10 0) 0 0) (ad 9 32) j = 0 then 0 else if (up2 (mI M) (ad 10 0) 0 0) (ad 9 38) j = -1 then 0 else mx0 ((up2 (mI M) (ad 10 0) 0 0) (ad 9 38) j - (up2 (mI M) (ad 10 0) 0 0) (ad 9 34) j)) 364), .int (nI 364)] [] (mm M (up2 (mI M) (ad 10 0) 0 0) (mJ M)) R2
      refine go_blk 1 [] (pc' := 245) (vs' := [.ref (ad 10 0), .int 13, .int (smI (fun j => if (up2 (mI M) (ad 10 0) 0 0) (ad 9 32) j = 0 then 0 else if (up2 (mI M) (ad 10 0) 0 0) (ad 9 38) j = -1 then 0 else mx0 ((up2 (mI M) (ad 10 0) 0 0) (ad 9 38) j - (up2 (mI M) (ad 10 0) 0 0) (ad 9 34) j)) 364), .int (nI 364)]) (st' := [.int (smI (fun j => if (up2 (mI M) (ad 10 0) 0 0) (ad 9 32) j = 0 then 0 else if (up2 (mI M) (ad 10 0) 0 0) (ad 9 38) j = -1 then 0 else mx0 ((up2 (mI M) (ad 10 0) 0 0) (ad 9 38) j - (up2 (mI M) (ad 10 0) 0 0) (ad 9 34) j)) 364)]) (M' := mm M (up2 (mI M) (ad 10 0) 0 0) (mJ M)) (ps := []) rfl trivial ?_
      refine go_iret rfl rfl ?_
      have e9 : (smI (fun j => if (up2 (mI M) (ad 10 0) 0 0) (ad 9 32) j = 0 then 0 else if (up2 (mI M) (ad 10 0) 0 0) (ad 9 38) j = -1 then 0 else mx0 ((up2 (mI M) (ad 10 0) 0 0) (ad 9 38) j - (up2 (mI M) (ad 10 0) 0 0) (ad 9 34) j)) 364) = smI (fun b => ltT (mI M) (mR M (ad 2 b) 12)) nb := hLT
      rw [e9]
      exact h2 _ ⟨hsc, ad, nc, nb, nt, wk, nw, nx, nl, ne, nk, kd, false, rfl, rfl, rfl, hW.thr⟩
    refine ⟨fun (c15 : a1 = 14) => ?_, fun (c15n : ¬ (a1 = 14)) => ?_⟩
    · -- a1 = 14
      subst c15
      show Go 1311 158 0 0 177 [.ref (ad 0 0), .int 14] [] (mm M (mI M) (mJ M)) R
      refine go_blk 4 [some (.ref (ad 0 10)), some (.ref (ad 7 nx)), some (.int (nI nn))] (pc' := 187) (vs' := [.ref (ad 0 0), .int 14]) (st' := [.int (nI nn)]) (M' := mm M (mI M) (mJ M)) (ps := [ob (mm M (mI M) (mJ M)) (ad 0 0) 11, mR (mm M (mI M) (mJ M)) (ad 0 0) 17 = some (ad 0 10), va_rf (some (ad 0 10)) = .ref (ad 0 10), ob (mm M (mI M) (mJ M)) (ad 0 10) 10, mR (mm M (mI M) (mJ M)) (ad 0 10) 0 = some (ad 7 nx), va_rf (some (ad 7 nx)) = .ref (ad 7 nx), ob (mm M (mI M) (mJ M)) (ad 7 nx) 9, (Value.int ((mI M) (ad 7 nx) 1)) = .int (nI nn)]) rfl ⟨(hF.o 0), (hF.r 0 17 10), rfl, (hF.o 10), hX.1, rfl, (hX.2.2 nx (by omega)).1, congrArg Value.int nn1, trivial⟩ ?_
      refine go_iret rfl rfl ?_
      refine K _ _ hM.1 rfl (fun R2 h2 => ?_)
      show Go 1311 275 0 0 0 [.ref (ad 10 0), .int 14, .retAddr 0, .retAddr 0] [] (mm M (mI M) (mJ M)) R2
      refine go_blk 6 [] (pc' := 8) (vs' := [.ref (ad 10 0), .int 14, .int 0, .retAddr 0]) (st' := [.int 14]) (M' := mm M (up2 (mI M) (ad 10 0) 0 0) (mJ M)) (ps := [ob (mm M (mI M) (mJ M)) (ad 10 0) 12]) rfl ⟨hM.1, trivial⟩ ?_
      refine go_tsw rfl ?_
      refine ⟨fun (z : (14 : Int32) = 0) => absurd z (by decide), fun _ => ?_⟩
      refine ⟨fun (z : (14 : Int32) = 1) => absurd z (by decide), fun _ => ?_⟩
      refine ⟨fun (z : (14 : Int32) = 2) => absurd z (by decide), fun _ => ?_⟩
      refine ⟨fun (z : (14 : Int32) = 3) => absurd z (by decide), fun _ => ?_⟩
      refine ⟨fun (z : (14 : Int32) = 4) => absurd z (by decide), fun _ => ?_⟩
      refine ⟨fun (z : (14 : Int32) = 5) => absurd z (by decide), fun _ => ?_⟩
      refine ⟨fun (z : (14 : Int32) = 6) => absurd z (by decide), fun _ => ?_⟩
      refine ⟨fun (z : (14 : Int32) = 7) => absurd z (by decide), fun _ => ?_⟩
      refine ⟨fun (z : (14 : Int32) = 8) => absurd z (by decide), fun _ => ?_⟩
      refine ⟨fun (z : (14 : Int32) = 9) => absurd z (by decide), fun _ => ?_⟩
      refine ⟨fun (z : (14 : Int32) = 10) => absurd z (by decide), fun _ => ?_⟩
      refine ⟨fun (z : (14 : Int32) = 11) => absurd z (by decide), fun _ => ?_⟩
      refine ⟨fun (z : (14 : Int32) = 12) => absurd z (by decide), fun _ => ?_⟩
      refine ⟨fun (z : (14 : Int32) = 13) => absurd z (by decide), fun _ => ?_⟩
      refine ⟨fun _ => ?_, fun z => absurd rfl z⟩
      show Go 1311 275 0 0 246 [.ref (ad 10 0), .int 14, .int 0, .retAddr 0] [] (mm M (up2 (mI M) (ad 10 0) 0 0) (mJ M)) R2
      refine go_blk 2 [some (.int (nI nn))] (pc' := 250) (vs' := [.ref (ad 10 0), .int 14, .int 0, .retAddr 0]) (st' := [.int (nI nn)]) (M' := mm M (up2 (mI M) (ad 10 0) 0 0) (mJ M)) (ps := [ob (mm M (up2 (mI M) (ad 10 0) 0 0) (mJ M)) (ad 10 0) 12, (Value.int ((up2 (mI M) (ad 10 0) 0 0) (ad 10 0) 80)) = .int (nI nn)]) rfl ⟨hM.1, congrArg Value.int (((up2_n _ _ (fun z => absurd z.2 (by decide))).trans (rfl)).trans nn2), trivial⟩ ?_
      refine go_iret rfl rfl ?_
      exact h2 _ ⟨hsc, ad, nc, nb, nt, wk, nw, nx, nl, ne, nk, kd, false, rfl, rfl, rfl, hW.thr⟩
    show Go 1311 158 0 0 188 [.ref (ad 0 0), .int a1] [] (mm M (mI M) (mJ M)) R
    refine go_blk 1 [] (pc' := 189) (vs' := [.ref (ad 0 0), .int a1]) (st' := [.int (-1)]) (M' := mm M (mI M) (mJ M)) (ps := []) rfl trivial ?_
    refine go_iret rfl rfl ?_
    refine K _ _ hM.1 rfl (fun R2 h2 => ?_)
    show Go 1311 275 0 0 0 [.ref (ad 10 0), .int a1, .retAddr 0, .retAddr 0] [] (mm M (mI M) (mJ M)) R2
    refine go_blk 6 [] (pc' := 8) (vs' := [.ref (ad 10 0), .int a1, .int 0, .retAddr 0]) (st' := [.int a1]) (M' := mm M (up2 (mI M) (ad 10 0) 0 0) (mJ M)) (ps := [ob (mm M (mI M) (mJ M)) (ad 10 0) 12]) rfl ⟨hM.1, trivial⟩ ?_
    refine go_tsw rfl ?_
    refine ⟨fun (z : a1 = 0) => absurd z c1n, fun _ => ?_⟩
    refine ⟨fun (z : a1 = 1) => absurd z c2n, fun _ => ?_⟩
    refine ⟨fun (z : a1 = 2) => absurd z c3n, fun _ => ?_⟩
    refine ⟨fun (z : a1 = 3) => absurd z c4n, fun _ => ?_⟩
    refine ⟨fun (z : a1 = 4) => absurd z c5n, fun _ => ?_⟩
    refine ⟨fun (z : a1 = 5) => absurd z c6n, fun _ => ?_⟩
    refine ⟨fun (z : a1 = 6) => absurd z c7n, fun _ => ?_⟩
    refine ⟨fun (z : a1 = 7) => absurd z c8n, fun _ => ?_⟩
    refine ⟨fun (z : a1 = 8) => absurd z c9n, fun _ => ?_⟩
    refine ⟨fun (z : a1 = 9) => absurd z c10n, fun _ => ?_⟩
    refine ⟨fun (z : a1 = 10) => absurd z c11n, fun _ => ?_⟩
    refine ⟨fun (z : a1 = 11) => absurd z c12n, fun _ => ?_⟩
    refine ⟨fun (z : a1 = 12) => absurd z c13n, fun _ => ?_⟩
    refine ⟨fun (z : a1 = 13) => absurd z c14n, fun _ => ?_⟩
    refine ⟨fun (z : a1 = 14) => absurd z c15n, fun _ => ?_⟩
    show Go 1311 275 0 0 251 [.ref (ad 10 0), .int a1, .int 0, .retAddr 0] [] (mm M (up2 (mI M) (ad 10 0) 0 0) (mJ M)) R2
    refine go_blk 1 [] (pc' := 252) (vs' := [.ref (ad 10 0), .int a1, .int 0, .retAddr 0]) (st' := [.int (-1)]) (M' := mm M (up2 (mI M) (ad 10 0) 0 0) (mJ M)) (ps := []) rfl trivial ?_
    refine go_iret rfl rfl ?_
    exact h2 _ ⟨hsc, ad, nc, nb, nt, wk, nw, nx, nl, ne, nk, kd, false, rfl, rfl, rfl, hW.thr⟩
  · replace op1 : mI M (ad 0 0) 8 = 1 := op1
    replace op2 : mI M (ad 10 0) 21 = 1 := op2
    replace op3 : wk < 52 := op3 rfl
    show Go 1311 158 0 0 0 [.ref (ad 0 0), .int a1] [] (mm M (mI M) (mJ M)) R
    refine go_blk 1 [] (pc' := 1) (vs' := [.ref (ad 0 0), .int a1]) (st' := [.int a1]) (M' := mm M (mI M) (mJ M)) (ps := []) rfl trivial ?_
    refine go_tsw rfl ?_
    refine ⟨fun (c1 : a1 = 0) => ?_, fun (c1n : ¬ (a1 = 0)) => ?_⟩
    · -- a1 = 0
      subst c1
      show Go 1311 158 0 0 76 [.ref (ad 0 0), .int 0] [] (mm M (mI M) (mJ M)) R
      refine go_blk 2 [some (.int (nI wk))] (pc' := 80) (vs' := [.ref (ad 0 0), .int 0]) (st' := [.int (nI wk)]) (M' := mm M (mI M) (mJ M)) (ps := [ob (mm M (mI M) (mJ M)) (ad 0 0) 11, (Value.int ((mI M) (ad 0 0) 7)) = .int (nI wk)]) rfl ⟨(hF.o 0), congrArg Value.int wk1, trivial⟩ ?_
      refine go_iret rfl rfl ?_
      refine K _ _ hM.1 rfl (fun R2 h2 => ?_)
      show Go 1311 275 0 0 0 [.ref (ad 10 0), .int 0, .retAddr 0, .retAddr 0] [] (mm M (mI M) (mJ M)) R2
      refine go_blk 6 [] (pc' := 8) (vs' := [.ref (ad 10 0), .int 0, .int 0, .retAddr 0]) (st' := [.int 0]) (M' := mm M (up2 (mI M) (ad 10 0) 0 0) (mJ M)) (ps := [ob (mm M (mI M) (mJ M)) (ad 10 0) 12]) rfl ⟨hM.1, trivial⟩ ?_
      refine go_tsw rfl ?_
      refine ⟨fun _ => ?_, fun z => absurd rfl z⟩
      show Go 1311 275 0 0 84 [.ref (ad 10 0), .int 0, .int 0, .retAddr 0] [] (mm M (up2 (mI M) (ad 10 0) 0 0) (mJ M)) R2
      refine go_blk 2 [some (.int (nI wk))] (pc' := 88) (vs' := [.ref (ad 10 0), .int 0, .int 0, .retAddr 0]) (st' := [.int (nI wk)]) (M' := mm M (up2 (mI M) (ad 10 0) 0 0) (mJ M)) (ps := [ob (mm M (up2 (mI M) (ad 10 0) 0 0) (mJ M)) (ad 10 0) 12, (Value.int ((up2 (mI M) (ad 10 0) 0 0) (ad 10 0) 19)) = .int (nI wk)]) rfl ⟨hM.1, congrArg Value.int (((up2_n _ _ (fun z => absurd z.2 (by decide))).trans (rfl)).trans wk2), trivial⟩ ?_
      refine go_iret rfl rfl ?_
      exact h2 _ ⟨hsc, ad, nc, nb, nt, wk, nw, nx, nl, ne, nk, kd, true, rfl, rfl, rfl, hW.thr⟩
    refine ⟨fun (c2 : a1 = 1) => ?_, fun (c2n : ¬ (a1 = 1)) => ?_⟩
    · -- a1 = 1
      subst c2
      show Go 1311 158 0 0 81 [.ref (ad 0 0), .int 1] [] (mm M (mI M) (mJ M)) R
      refine go_blk 2 [some (.int 1)] (pc' := 85) (vs' := [.ref (ad 0 0), .int 1]) (st' := [.int 1]) (M' := mm M (mI M) (mJ M)) (ps := [ob (mm M (mI M) (mJ M)) (ad 0 0) 11, (Value.int ((mI M) (ad 0 0) 8)) = .int 1]) rfl ⟨(hF.o 0), congrArg Value.int op1, trivial⟩ ?_
      refine go_if rfl (fun (z : (1 : Int32) = 0) => absurd z (show ¬ ((1 : Int32) = 0) from (by decide))) (fun _ => ?_)
      refine go_blk 2 [] (pc' := 93) (vs' := [.ref (ad 0 0), .int 1]) (st' := [.int 1]) (M' := mm M (mI M) (mJ M)) (ps := []) rfl trivial ?_
      refine go_iret rfl rfl ?_
      refine K _ _ hM.1 rfl (fun R2 h2 => ?_)
      show Go 1311 275 0 0 0 [.ref (ad 10 0), .int 1, .retAddr 0, .retAddr 0] [] (mm M (mI M) (mJ M)) R2
      refine go_blk 6 [] (pc' := 8) (vs' := [.ref (ad 10 0), .int 1, .int 0, .retAddr 0]) (st' := [.int 1]) (M' := mm M (up2 (mI M) (ad 10 0) 0 0) (mJ M)) (ps := [ob (mm M (mI M) (mJ M)) (ad 10 0) 12]) rfl ⟨hM.1, trivial⟩ ?_
      refine go_tsw rfl ?_
      refine ⟨fun (z : (1 : Int32) = 0) => absurd z (by decide), fun _ => ?_⟩
      refine ⟨fun _ => ?_, fun z => absurd rfl z⟩
      show Go 1311 275 0 0 89 [.ref (ad 10 0), .int 1, .int 0, .retAddr 0] [] (mm M (up2 (mI M) (ad 10 0) 0 0) (mJ M)) R2
      refine go_blk 2 [some (.int 1)] (pc' := 93) (vs' := [.ref (ad 10 0), .int 1, .int 0, .retAddr 0]) (st' := [.int 1]) (M' := mm M (up2 (mI M) (ad 10 0) 0 0) (mJ M)) (ps := [ob (mm M (up2 (mI M) (ad 10 0) 0 0) (mJ M)) (ad 10 0) 12, (Value.int ((up2 (mI M) (ad 10 0) 0 0) (ad 10 0) 21)) = .int 1]) rfl ⟨hM.1, congrArg Value.int (((up2_n _ _ (fun z => absurd z.2 (by decide))).trans (rfl)).trans op2), trivial⟩ ?_
      refine go_if rfl (fun (z : (1 : Int32) = 0) => absurd z (show ¬ ((1 : Int32) = 0) from (by decide))) (fun _ => ?_)
      refine go_blk 2 [] (pc' := 101) (vs' := [.ref (ad 10 0), .int 1, .int 0, .retAddr 0]) (st' := [.int 1]) (M' := mm M (up2 (mI M) (ad 10 0) 0 0) (mJ M)) (ps := []) rfl trivial ?_
      refine go_iret rfl rfl ?_
      exact h2 _ ⟨hsc, ad, nc, nb, nt, wk, nw, nx, nl, ne, nk, kd, true, rfl, rfl, rfl, hW.thr⟩
    refine ⟨fun (c3 : a1 = 2) => ?_, fun (c3n : ¬ (a1 = 2)) => ?_⟩
    · -- a1 = 2
      subst c3
      show Go 1311 158 0 0 94 [.ref (ad 0 0), .int 2] [] (mm M (mI M) (mJ M)) R
      refine go_blk 2 [some (.int 1)] (pc' := 98) (vs' := [.ref (ad 0 0), .int 2]) (st' := [.int 1]) (M' := mm M (mI M) (mJ M)) (ps := [ob (mm M (mI M) (mJ M)) (ad 0 0) 11, (Value.int ((mI M) (ad 0 0) 8)) = .int 1]) rfl ⟨(hF.o 0), congrArg Value.int op1, trivial⟩ ?_
      refine go_if rfl (fun (z : (1 : Int32) = 0) => absurd z (show ¬ ((1 : Int32) = 0) from (by decide))) (fun _ => ?_)
      refine go_blk 3 [some (.int (nI nw))] (pc' := 109) (vs' := [.ref (ad 0 0), .int 2]) (st' := [.int (nI nw)]) (M' := mm M (mI M) (mJ M)) (ps := [ob (mm M (mI M) (mJ M)) (ad 0 0) 11, (Value.int ((mI M) (ad 0 0) 9)) = .int (nI nw)]) rfl ⟨(hF.o 0), congrArg Value.int nw1, trivial⟩ ?_
      refine go_iret rfl rfl ?_
      refine K _ _ hM.1 rfl (fun R2 h2 => ?_)
      show Go 1311 275 0 0 0 [.ref (ad 10 0), .int 2, .retAddr 0, .retAddr 0] [] (mm M (mI M) (mJ M)) R2
      refine go_blk 6 [] (pc' := 8) (vs' := [.ref (ad 10 0), .int 2, .int 0, .retAddr 0]) (st' := [.int 2]) (M' := mm M (up2 (mI M) (ad 10 0) 0 0) (mJ M)) (ps := [ob (mm M (mI M) (mJ M)) (ad 10 0) 12]) rfl ⟨hM.1, trivial⟩ ?_
      refine go_tsw rfl ?_
      refine ⟨fun (z : (2 : Int32) = 0) => absurd z (by decide), fun _ => ?_⟩
      refine ⟨fun (z : (2 : Int32) = 1) => absurd z (by decide), fun _ => ?_⟩
      refine ⟨fun _ => ?_, fun z => absurd rfl z⟩
      show Go 1311 275 0 0 102 [.ref (ad 10 0), .int 2, .int 0, .retAddr 0] [] (mm M (up2 (mI M) (ad 10 0) 0 0) (mJ M)) R2
      refine go_blk 2 [some (.int 1)] (pc' := 106) (vs' := [.ref (ad 10 0), .int 2, .int 0, .retAddr 0]) (st' := [.int 1]) (M' := mm M (up2 (mI M) (ad 10 0) 0 0) (mJ M)) (ps := [ob (mm M (up2 (mI M) (ad 10 0) 0 0) (mJ M)) (ad 10 0) 12, (Value.int ((up2 (mI M) (ad 10 0) 0 0) (ad 10 0) 21)) = .int 1]) rfl ⟨hM.1, congrArg Value.int (((up2_n _ _ (fun z => absurd z.2 (by decide))).trans (rfl)).trans op2), trivial⟩ ?_
      refine go_if rfl (fun (z : (1 : Int32) = 0) => absurd z (show ¬ ((1 : Int32) = 0) from (by decide))) (fun _ => ?_)
      refine go_blk 3 [some (.int (nI nw))] (pc' := 117) (vs' := [.ref (ad 10 0), .int 2, .int 0, .retAddr 0]) (st' := [.int (nI nw)]) (M' := mm M (up2 (mI M) (ad 10 0) 0 0) (mJ M)) (ps := [ob (mm M (up2 (mI M) (ad 10 0) 0 0) (mJ M)) (ad 10 0) 12, (Value.int ((up2 (mI M) (ad 10 0) 0 0) (ad 10 0) 20)) = .int (nI nw)]) rfl ⟨hM.1, congrArg Value.int (((up2_n _ _ (fun z => absurd z.2 (by decide))).trans (rfl)).trans nw2), trivial⟩ ?_
      refine go_iret rfl rfl ?_
      exact h2 _ ⟨hsc, ad, nc, nb, nt, wk, nw, nx, nl, ne, nk, kd, true, rfl, rfl, rfl, hW.thr⟩
    refine ⟨fun (c4 : a1 = 3) => ?_, fun (c4n : ¬ (a1 = 3)) => ?_⟩
    · -- a1 = 3
      subst c4
      show Go 1311 158 0 0 110 [.ref (ad 0 0), .int 3] [] (mm M (mI M) (mJ M)) R
      refine go_blk 2 [some (.int (nI nc))] (pc' := 114) (vs' := [.ref (ad 0 0), .int 3]) (st' := [.int (nI nc)]) (M' := mm M (mI M) (mJ M)) (ps := [ob (mm M (mI M) (mJ M)) (ad 0 0) 11, (Value.int ((mI M) (ad 0 0) 1)) = .int (nI nc)]) rfl ⟨(hF.o 0), congrArg Value.int nc1, trivial⟩ ?_
      refine go_iret rfl rfl ?_
      refine K _ _ hM.1 rfl (fun R2 h2 => ?_)
      show Go 1311 275 0 0 0 [.ref (ad 10 0), .int 3, .retAddr 0, .retAddr 0] [] (mm M (mI M) (mJ M)) R2
      refine go_blk 6 [] (pc' := 8) (vs' := [.ref (ad 10 0), .int 3, .int 0, .retAddr 0]) (st' := [.int 3]) (M' := mm M (up2 (mI M) (ad 10 0) 0 0) (mJ M)) (ps := [ob (mm M (mI M) (mJ M)) (ad 10 0) 12]) rfl ⟨hM.1, trivial⟩ ?_
      refine go_tsw rfl ?_
      refine ⟨fun (z : (3 : Int32) = 0) => absurd z (by decide), fun _ => ?_⟩
      refine ⟨fun (z : (3 : Int32) = 1) => absurd z (by decide), fun _ => ?_⟩
      refine ⟨fun (z : (3 : Int32) = 2) => absurd z (by decide), fun _ => ?_⟩
      refine ⟨fun _ => ?_, fun z => absurd rfl z⟩
      show Go 1311 275 0 0 118 [.ref (ad 10 0), .int 3, .int 0, .retAddr 0] [] (mm M (up2 (mI M) (ad 10 0) 0 0) (mJ M)) R2
      refine go_blk 2 [some (.int (nI nc))] (pc' := 122) (vs' := [.ref (ad 10 0), .int 3, .int 0, .retAddr 0]) (st' := [.int (nI nc)]) (M' := mm M (up2 (mI M) (ad 10 0) 0 0) (mJ M)) (ps := [ob (mm M (up2 (mI M) (ad 10 0) 0 0) (mJ M)) (ad 10 0) 12, (Value.int ((up2 (mI M) (ad 10 0) 0 0) (ad 10 0) 17)) = .int (nI nc)]) rfl ⟨hM.1, congrArg Value.int (((up2_n _ _ (fun z => absurd z.2 (by decide))).trans (rfl)).trans nc2), trivial⟩ ?_
      refine go_iret rfl rfl ?_
      exact h2 _ ⟨hsc, ad, nc, nb, nt, wk, nw, nx, nl, ne, nk, kd, true, rfl, rfl, rfl, hW.thr⟩
    refine ⟨fun (c5 : a1 = 4) => ?_, fun (c5n : ¬ (a1 = 4)) => ?_⟩
    · -- a1 = 4
      subst c5
      show Go 1311 158 0 0 115 [.ref (ad 0 0), .int 4] [] (mm M (mI M) (mJ M)) R
      refine go_blk 2 [some (.int (nI nb))] (pc' := 119) (vs' := [.ref (ad 0 0), .int 4]) (st' := [.int (nI nb)]) (M' := mm M (mI M) (mJ M)) (ps := [ob (mm M (mI M) (mJ M)) (ad 0 0) 11, (Value.int ((mI M) (ad 0 0) 3)) = .int (nI nb)]) rfl ⟨(hF.o 0), congrArg Value.int nb1, trivial⟩ ?_
      refine go_iret rfl rfl ?_
      refine K _ _ hM.1 rfl (fun R2 h2 => ?_)
      show Go 1311 275 0 0 0 [.ref (ad 10 0), .int 4, .retAddr 0, .retAddr 0] [] (mm M (mI M) (mJ M)) R2
      refine go_blk 6 [] (pc' := 8) (vs' := [.ref (ad 10 0), .int 4, .int 0, .retAddr 0]) (st' := [.int 4]) (M' := mm M (up2 (mI M) (ad 10 0) 0 0) (mJ M)) (ps := [ob (mm M (mI M) (mJ M)) (ad 10 0) 12]) rfl ⟨hM.1, trivial⟩ ?_
      refine go_tsw rfl ?_
      refine ⟨fun (z : (4 : Int32) = 0) => absurd z (by decide), fun _ => ?_⟩
      refine ⟨fun (z : (4 : Int32) = 1) => absurd z (by decide), fun _ => ?_⟩
      refine ⟨fun (z : (4 : Int32) = 2) => absurd z (by decide), fun _ => ?_⟩
      refine ⟨fun (z : (4 : Int32) = 3) => absurd z (by decide), fun _ => ?_⟩
      refine ⟨fun _ => ?_, fun z => absurd rfl z⟩
      show Go 1311 275 0 0 123 [.ref (ad 10 0), .int 4, .int 0, .retAddr 0] [] (mm M (up2 (mI M) (ad 10 0) 0 0) (mJ M)) R2
      refine go_blk 2 [some (.int (nI nb))] (pc' := 127) (vs' := [.ref (ad 10 0), .int 4, .int 0, .retAddr 0]) (st' := [.int (nI nb)]) (M' := mm M (up2 (mI M) (ad 10 0) 0 0) (mJ M)) (ps := [ob (mm M (up2 (mI M) (ad 10 0) 0 0) (mJ M)) (ad 10 0) 12, (Value.int ((up2 (mI M) (ad 10 0) 0 0) (ad 10 0) 18)) = .int (nI nb)]) rfl ⟨hM.1, congrArg Value.int (((up2_n _ _ (fun z => absurd z.2 (by decide))).trans (rfl)).trans nb2), trivial⟩ ?_
      refine go_iret rfl rfl ?_
      exact h2 _ ⟨hsc, ad, nc, nb, nt, wk, nw, nx, nl, ne, nk, kd, true, rfl, rfl, rfl, hW.thr⟩
    refine ⟨fun (c6 : a1 = 5) => ?_, fun (c6n : ¬ (a1 = 5)) => ?_⟩
    · -- a1 = 5
      subst c6
      show Go 1311 158 0 0 120 [.ref (ad 0 0), .int 5] [] (mm M (mI M) (mJ M)) R
      refine go_blk 1 [] (pc' := 121) (vs' := [.ref (ad 0 0), .int 5]) (st' := [.ref (ad 0 0)]) (M' := mm M (mI M) (mJ M)) (ps := []) rfl trivial ?_
      refine go_callV rfl rfl rfl (by omega) rfl (by decide) (by decide) (hF.o 0) ?_
      refine s_CY_bookingsInForce (f := mI M) (by omega) hF hB nb1 nb3 ⟨ne_i, ?_⟩
      show Go 1311 158 0 0 124 [.ref (ad 0 0), .int 5] [.int (smI (fun b => if (mI M) (ad 2 b) 6 = 0 then 0 else 1) nb)] (mm M (mI M) (mJ M)) R
      refine go_iret rfl rfl ?_
      refine K _ _ hM.1 rfl (fun R2 h2 => ?_)
      show Go 1311 275 0 0 0 [.ref (ad 10 0), .int 5, .retAddr 0, .retAddr 0] [] (mm M (mI M) (mJ M)) R2
      refine go_blk 6 [] (pc' := 8) (vs' := [.ref (ad 10 0), .int 5, .int 0, .retAddr 0]) (st' := [.int 5]) (M' := mm M (up2 (mI M) (ad 10 0) 0 0) (mJ M)) (ps := [ob (mm M (mI M) (mJ M)) (ad 10 0) 12]) rfl ⟨hM.1, trivial⟩ ?_
      refine go_tsw rfl ?_
      refine ⟨fun (z : (5 : Int32) = 0) => absurd z (by decide), fun _ => ?_⟩
      refine ⟨fun (z : (5 : Int32) = 1) => absurd z (by decide), fun _ => ?_⟩
      refine ⟨fun (z : (5 : Int32) = 2) => absurd z (by decide), fun _ => ?_⟩
      refine ⟨fun (z : (5 : Int32) = 3) => absurd z (by decide), fun _ => ?_⟩
      refine ⟨fun (z : (5 : Int32) = 4) => absurd z (by decide), fun _ => ?_⟩
      refine ⟨fun _ => ?_, fun z => absurd rfl z⟩
      show Go 1311 275 0 0 128 [.ref (ad 10 0), .int 5, .int 0, .retAddr 0] [] (mm M (up2 (mI M) (ad 10 0) 0 0) (mJ M)) R2
      refine go_blk 2 [] (pc' := 130) (vs' := [.ref (ad 10 0), .int 5, .int 0, .int 0]) (st' := []) (M' := mm M (up2 (mI M) (ad 10 0) 0 0) (mJ M)) (ps := []) rfl trivial ?_
      refine lp_Mo_count5 (f := (up2 (mI M) (ad 10 0) 0 0)) (by omega) hM (by simpa [up2_ad hi] using nb2) nb3 ?_ 0 (Nat.zero_le _)
      show Go 1311 275 0 0 161 [.ref (ad 10 0), .int 5, .int (smI (fun b => if (up2 (mI M) (ad 10 0) 0 0) (ad 9 15) b = 0 then 0 else 1) nb), .int (nI nb)] [] (mm M (up2 (mI M) (ad 10 0) 0 0) (mJ M)) R2
      refine go_blk 1 [] (pc' := 162) (vs' := [.ref (ad 10 0), .int 5, .int (smI (fun b => if (up2 (mI M) (ad 10 0) 0 0) (ad 9 15) b = 0 then 0 else 1) nb), .int (nI nb)]) (st' := [.int (smI (fun b => if (up2 (mI M) (ad 10 0) 0 0) (ad 9 15) b = 0 then 0 else 1) nb)]) (M' := mm M (up2 (mI M) (ad 10 0) 0 0) (mJ M)) (ps := []) rfl trivial ?_
      refine go_iret rfl rfl ?_
      have e9 : (smI (fun b => if (up2 (mI M) (ad 10 0) 0 0) (ad 9 15) b = 0 then 0 else 1) nb) = smI (fun b => if (mI M) (ad 2 b) 6 = 0 then 0 else 1) nb := (smI_congr (fun b hb => by have q := (iB.1 b hb).1; simp only [vw] at q; simp [up2_ad hi, q]))
      rw [e9]
      exact h2 _ ⟨hsc, ad, nc, nb, nt, wk, nw, nx, nl, ne, nk, kd, true, rfl, rfl, rfl, hW.thr⟩
    refine ⟨fun (c7 : a1 = 6) => ?_, fun (c7n : ¬ (a1 = 6)) => ?_⟩
    · -- a1 = 6
      subst c7
      show Go 1311 158 0 0 125 [.ref (ad 0 0), .int 6] [] (mm M (mI M) (mJ M)) R
      refine go_blk 2 [some (.int (nI nt))] (pc' := 129) (vs' := [.ref (ad 0 0), .int 6]) (st' := [.int (nI nt)]) (M' := mm M (mI M) (mJ M)) (ps := [ob (mm M (mI M) (mJ M)) (ad 0 0) 11, (Value.int ((mI M) (ad 0 0) 5)) = .int (nI nt)]) rfl ⟨(hF.o 0), congrArg Value.int nt1, trivial⟩ ?_
      refine go_iret rfl rfl ?_
      refine K _ _ hM.1 rfl (fun R2 h2 => ?_)
      show Go 1311 275 0 0 0 [.ref (ad 10 0), .int 6, .retAddr 0, .retAddr 0] [] (mm M (mI M) (mJ M)) R2
      refine go_blk 6 [] (pc' := 8) (vs' := [.ref (ad 10 0), .int 6, .int 0, .retAddr 0]) (st' := [.int 6]) (M' := mm M (up2 (mI M) (ad 10 0) 0 0) (mJ M)) (ps := [ob (mm M (mI M) (mJ M)) (ad 10 0) 12]) rfl ⟨hM.1, trivial⟩ ?_
      refine go_tsw rfl ?_
      refine ⟨fun (z : (6 : Int32) = 0) => absurd z (by decide), fun _ => ?_⟩
      refine ⟨fun (z : (6 : Int32) = 1) => absurd z (by decide), fun _ => ?_⟩
      refine ⟨fun (z : (6 : Int32) = 2) => absurd z (by decide), fun _ => ?_⟩
      refine ⟨fun (z : (6 : Int32) = 3) => absurd z (by decide), fun _ => ?_⟩
      refine ⟨fun (z : (6 : Int32) = 4) => absurd z (by decide), fun _ => ?_⟩
      refine ⟨fun (z : (6 : Int32) = 5) => absurd z (by decide), fun _ => ?_⟩
      refine ⟨fun _ => ?_, fun z => absurd rfl z⟩
      show Go 1311 275 0 0 163 [.ref (ad 10 0), .int 6, .int 0, .retAddr 0] [] (mm M (up2 (mI M) (ad 10 0) 0 0) (mJ M)) R2
      refine go_blk 2 [some (.int (nI nt))] (pc' := 167) (vs' := [.ref (ad 10 0), .int 6, .int 0, .retAddr 0]) (st' := [.int (nI nt)]) (M' := mm M (up2 (mI M) (ad 10 0) 0 0) (mJ M)) (ps := [ob (mm M (up2 (mI M) (ad 10 0) 0 0) (mJ M)) (ad 10 0) 12, (Value.int ((up2 (mI M) (ad 10 0) 0 0) (ad 10 0) 30)) = .int (nI nt)]) rfl ⟨hM.1, congrArg Value.int (((up2_n _ _ (fun z => absurd z.2 (by decide))).trans (rfl)).trans nt2), trivial⟩ ?_
      refine go_iret rfl rfl ?_
      exact h2 _ ⟨hsc, ad, nc, nb, nt, wk, nw, nx, nl, ne, nk, kd, true, rfl, rfl, rfl, hW.thr⟩
    refine ⟨fun (c8 : a1 = 7) => ?_, fun (c8n : ¬ (a1 = 7)) => ?_⟩
    · -- a1 = 7
      subst c8
      show Go 1311 158 0 0 130 [.ref (ad 0 0), .int 7] [] (mm M (mI M) (mJ M)) R
      refine go_blk 3 [some (.ref (ad 0 10)), some (.int (nI nx))] (pc' := 137) (vs' := [.ref (ad 0 0), .int 7]) (st' := [.int (nI nx)]) (M' := mm M (mI M) (mJ M)) (ps := [ob (mm M (mI M) (mJ M)) (ad 0 0) 11, mR (mm M (mI M) (mJ M)) (ad 0 0) 17 = some (ad 0 10), va_rf (some (ad 0 10)) = .ref (ad 0 10), ob (mm M (mI M) (mJ M)) (ad 0 10) 10, (Value.int ((mI M) (ad 0 10) 2)) = .int (nI nx)]) rfl ⟨(hF.o 0), (hF.r 0 17 10), rfl, (hF.o 10), congrArg Value.int jX.1.1, trivial⟩ ?_
      refine go_iret rfl rfl ?_
      refine K _ _ hM.1 rfl (fun R2 h2 => ?_)
      show Go 1311 275 0 0 0 [.ref (ad 10 0), .int 7, .retAddr 0, .retAddr 0] [] (mm M (mI M) (mJ M)) R2
      refine go_blk 6 [] (pc' := 8) (vs' := [.ref (ad 10 0), .int 7, .int 0, .retAddr 0]) (st' := [.int 7]) (M' := mm M (up2 (mI M) (ad 10 0) 0 0) (mJ M)) (ps := [ob (mm M (mI M) (mJ M)) (ad 10 0) 12]) rfl ⟨hM.1, trivial⟩ ?_
      refine go_tsw rfl ?_
      refine ⟨fun (z : (7 : Int32) = 0) => absurd z (by decide), fun _ => ?_⟩
      refine ⟨fun (z : (7 : Int32) = 1) => absurd z (by decide), fun _ => ?_⟩
      refine ⟨fun (z : (7 : Int32) = 2) => absurd z (by decide), fun _ => ?_⟩
      refine ⟨fun (z : (7 : Int32) = 3) => absurd z (by decide), fun _ => ?_⟩
      refine ⟨fun (z : (7 : Int32) = 4) => absurd z (by decide), fun _ => ?_⟩
      refine ⟨fun (z : (7 : Int32) = 5) => absurd z (by decide), fun _ => ?_⟩
      refine ⟨fun (z : (7 : Int32) = 6) => absurd z (by decide), fun _ => ?_⟩
      refine ⟨fun _ => ?_, fun z => absurd rfl z⟩
      show Go 1311 275 0 0 168 [.ref (ad 10 0), .int 7, .int 0, .retAddr 0] [] (mm M (up2 (mI M) (ad 10 0) 0 0) (mJ M)) R2
      refine go_blk 2 [some (.int (nI nx))] (pc' := 172) (vs' := [.ref (ad 10 0), .int 7, .int 0, .retAddr 0]) (st' := [.int (nI nx)]) (M' := mm M (up2 (mI M) (ad 10 0) 0 0) (mJ M)) (ps := [ob (mm M (up2 (mI M) (ad 10 0) 0 0) (mJ M)) (ad 10 0) 12, (Value.int ((up2 (mI M) (ad 10 0) 0 0) (ad 10 0) 81)) = .int (nI nx)]) rfl ⟨hM.1, congrArg Value.int (((up2_n _ _ (fun z => absurd z.2 (by decide))).trans (rfl)).trans jX.1.2.1), trivial⟩ ?_
      refine go_iret rfl rfl ?_
      exact h2 _ ⟨hsc, ad, nc, nb, nt, wk, nw, nx, nl, ne, nk, kd, true, rfl, rfl, rfl, hW.thr⟩
    refine ⟨fun (c9 : a1 = 8) => ?_, fun (c9n : ¬ (a1 = 8)) => ?_⟩
    · -- a1 = 8
      subst c9
      show Go 1311 158 0 0 138 [.ref (ad 0 0), .int 8] [] (mm M (mI M) (mJ M)) R
      refine go_blk 3 [some (.ref (ad 0 10)), some (.int (nI nl))] (pc' := 145) (vs' := [.ref (ad 0 0), .int 8]) (st' := [.int (nI nl)]) (M' := mm M (mI M) (mJ M)) (ps := [ob (mm M (mI M) (mJ M)) (ad 0 0) 11, mR (mm M (mI M) (mJ M)) (ad 0 0) 17 = some (ad 0 10), va_rf (some (ad 0 10)) = .ref (ad 0 10), ob (mm M (mI M) (mJ M)) (ad 0 10) 10, (Value.int ((mI M) (ad 0 10) 6)) = .int (nI nl)]) rfl ⟨(hF.o 0), (hF.r 0 17 10), rfl, (hF.o 10), congrArg Value.int jL.1.1, trivial⟩ ?_
      refine go_iret rfl rfl ?_
      refine K _ _ hM.1 rfl (fun R2 h2 => ?_)
      show Go 1311 275 0 0 0 [.ref (ad 10 0), .int 8, .retAddr 0, .retAddr 0] [] (mm M (mI M) (mJ M)) R2
      refine go_blk 6 [] (pc' := 8) (vs' := [.ref (ad 10 0), .int 8, .int 0, .retAddr 0]) (st' := [.int 8]) (M' := mm M (up2 (mI M) (ad 10 0) 0 0) (mJ M)) (ps := [ob (mm M (mI M) (mJ M)) (ad 10 0) 12]) rfl ⟨hM.1, trivial⟩ ?_
      refine go_tsw rfl ?_
      refine ⟨fun (z : (8 : Int32) = 0) => absurd z (by decide), fun _ => ?_⟩
      refine ⟨fun (z : (8 : Int32) = 1) => absurd z (by decide), fun _ => ?_⟩
      refine ⟨fun (z : (8 : Int32) = 2) => absurd z (by decide), fun _ => ?_⟩
      refine ⟨fun (z : (8 : Int32) = 3) => absurd z (by decide), fun _ => ?_⟩
      refine ⟨fun (z : (8 : Int32) = 4) => absurd z (by decide), fun _ => ?_⟩
      refine ⟨fun (z : (8 : Int32) = 5) => absurd z (by decide), fun _ => ?_⟩
      refine ⟨fun (z : (8 : Int32) = 6) => absurd z (by decide), fun _ => ?_⟩
      refine ⟨fun (z : (8 : Int32) = 7) => absurd z (by decide), fun _ => ?_⟩
      refine ⟨fun _ => ?_, fun z => absurd rfl z⟩
      show Go 1311 275 0 0 173 [.ref (ad 10 0), .int 8, .int 0, .retAddr 0] [] (mm M (up2 (mI M) (ad 10 0) 0 0) (mJ M)) R2
      refine go_blk 2 [some (.int (nI nl))] (pc' := 177) (vs' := [.ref (ad 10 0), .int 8, .int 0, .retAddr 0]) (st' := [.int (nI nl)]) (M' := mm M (up2 (mI M) (ad 10 0) 0 0) (mJ M)) (ps := [ob (mm M (up2 (mI M) (ad 10 0) 0 0) (mJ M)) (ad 10 0) 12, (Value.int ((up2 (mI M) (ad 10 0) 0 0) (ad 10 0) 73)) = .int (nI nl)]) rfl ⟨hM.1, congrArg Value.int (((up2_n _ _ (fun z => absurd z.2 (by decide))).trans (rfl)).trans jL.1.2.1), trivial⟩ ?_
      refine go_iret rfl rfl ?_
      exact h2 _ ⟨hsc, ad, nc, nb, nt, wk, nw, nx, nl, ne, nk, kd, true, rfl, rfl, rfl, hW.thr⟩
    refine ⟨fun (c10 : a1 = 9) => ?_, fun (c10n : ¬ (a1 = 9)) => ?_⟩
    · -- a1 = 9
      subst c10
      show Go 1311 158 0 0 146 [.ref (ad 0 0), .int 9] [] (mm M (mI M) (mJ M)) R
      refine go_blk 3 [some (.ref (ad 0 10)), some (.int ((mI M) (ad 10 0) 74))] (pc' := 153) (vs' := [.ref (ad 0 0), .int 9]) (st' := [.int ((mI M) (ad 10 0) 74)]) (M' := mm M (mI M) (mJ M)) (ps := [ob (mm M (mI M) (mJ M)) (ad 0 0) 11, mR (mm M (mI M) (mJ M)) (ad 0 0) 17 = some (ad 0 10), va_rf (some (ad 0 10)) = .ref (ad 0 10), ob (mm M (mI M) (mJ M)) (ad 0 10) 10, (Value.int ((mI M) (ad 0 10) 7)) = .int ((mI M) (ad 10 0) 74)]) rfl ⟨(hF.o 0), (hF.r 0 17 10), rfl, (hF.o 10), congrArg Value.int jL.1.2.2.2, trivial⟩ ?_
      refine go_iret rfl rfl ?_
      refine K _ _ hM.1 rfl (fun R2 h2 => ?_)
      show Go 1311 275 0 0 0 [.ref (ad 10 0), .int 9, .retAddr 0, .retAddr 0] [] (mm M (mI M) (mJ M)) R2
      refine go_blk 6 [] (pc' := 8) (vs' := [.ref (ad 10 0), .int 9, .int 0, .retAddr 0]) (st' := [.int 9]) (M' := mm M (up2 (mI M) (ad 10 0) 0 0) (mJ M)) (ps := [ob (mm M (mI M) (mJ M)) (ad 10 0) 12]) rfl ⟨hM.1, trivial⟩ ?_
      refine go_tsw rfl ?_
      refine ⟨fun (z : (9 : Int32) = 0) => absurd z (by decide), fun _ => ?_⟩
      refine ⟨fun (z : (9 : Int32) = 1) => absurd z (by decide), fun _ => ?_⟩
      refine ⟨fun (z : (9 : Int32) = 2) => absurd z (by decide), fun _ => ?_⟩
      refine ⟨fun (z : (9 : Int32) = 3) => absurd z (by decide), fun _ => ?_⟩
      refine ⟨fun (z : (9 : Int32) = 4) => absurd z (by decide), fun _ => ?_⟩
      refine ⟨fun (z : (9 : Int32) = 5) => absurd z (by decide), fun _ => ?_⟩
      refine ⟨fun (z : (9 : Int32) = 6) => absurd z (by decide), fun _ => ?_⟩
      refine ⟨fun (z : (9 : Int32) = 7) => absurd z (by decide), fun _ => ?_⟩
      refine ⟨fun (z : (9 : Int32) = 8) => absurd z (by decide), fun _ => ?_⟩
      refine ⟨fun _ => ?_, fun z => absurd rfl z⟩
      show Go 1311 275 0 0 178 [.ref (ad 10 0), .int 9, .int 0, .retAddr 0] [] (mm M (up2 (mI M) (ad 10 0) 0 0) (mJ M)) R2
      refine go_blk 2 [some (.int ((mI M) (ad 10 0) 74))] (pc' := 182) (vs' := [.ref (ad 10 0), .int 9, .int 0, .retAddr 0]) (st' := [.int ((mI M) (ad 10 0) 74)]) (M' := mm M (up2 (mI M) (ad 10 0) 0 0) (mJ M)) (ps := [ob (mm M (up2 (mI M) (ad 10 0) 0 0) (mJ M)) (ad 10 0) 12, (Value.int ((up2 (mI M) (ad 10 0) 0 0) (ad 10 0) 74)) = .int ((mI M) (ad 10 0) 74)]) rfl ⟨hM.1, congrArg Value.int ((up2_n _ _ (fun z => absurd z.2 (by decide))).trans (rfl)), trivial⟩ ?_
      refine go_iret rfl rfl ?_
      exact h2 _ ⟨hsc, ad, nc, nb, nt, wk, nw, nx, nl, ne, nk, kd, true, rfl, rfl, rfl, hW.thr⟩
    refine ⟨fun (c11 : a1 = 10) => ?_, fun (c11n : ¬ (a1 = 10)) => ?_⟩
    · -- a1 = 10
      subst c11
      show Go 1311 158 0 0 154 [.ref (ad 0 0), .int 10] [] (mm M (mI M) (mJ M)) R
      refine go_blk 3 [some (.ref (ad 0 9)), some (.int (nI nk))] (pc' := 161) (vs' := [.ref (ad 0 0), .int 10]) (st' := [.int (nI nk)]) (M' := mm M (mI M) (mJ M)) (ps := [ob (mm M (mI M) (mJ M)) (ad 0 0) 11, mR (mm M (mI M) (mJ M)) (ad 0 0) 16 = some (ad 0 9), va_rf (some (ad 0 9)) = .ref (ad 0 9), ob (mm M (mI M) (mJ M)) (ad 0 9) 1, (Value.int ((mI M) (ad 0 9) 4)) = .int (nI nk)]) rfl ⟨(hF.o 0), (hF.r 0 16 9), rfl, (hF.o 9), congrArg Value.int jB.1.2.2.1, trivial⟩ ?_
      refine go_iret rfl rfl ?_
      refine K _ _ hM.1 rfl (fun R2 h2 => ?_)
      show Go 1311 275 0 0 0 [.ref (ad 10 0), .int 10, .retAddr 0, .retAddr 0] [] (mm M (mI M) (mJ M)) R2
      refine go_blk 6 [] (pc' := 8) (vs' := [.ref (ad 10 0), .int 10, .int 0, .retAddr 0]) (st' := [.int 10]) (M' := mm M (up2 (mI M) (ad 10 0) 0 0) (mJ M)) (ps := [ob (mm M (mI M) (mJ M)) (ad 10 0) 12]) rfl ⟨hM.1, trivial⟩ ?_
      refine go_tsw rfl ?_
      refine ⟨fun (z : (10 : Int32) = 0) => absurd z (by decide), fun _ => ?_⟩
      refine ⟨fun (z : (10 : Int32) = 1) => absurd z (by decide), fun _ => ?_⟩
      refine ⟨fun (z : (10 : Int32) = 2) => absurd z (by decide), fun _ => ?_⟩
      refine ⟨fun (z : (10 : Int32) = 3) => absurd z (by decide), fun _ => ?_⟩
      refine ⟨fun (z : (10 : Int32) = 4) => absurd z (by decide), fun _ => ?_⟩
      refine ⟨fun (z : (10 : Int32) = 5) => absurd z (by decide), fun _ => ?_⟩
      refine ⟨fun (z : (10 : Int32) = 6) => absurd z (by decide), fun _ => ?_⟩
      refine ⟨fun (z : (10 : Int32) = 7) => absurd z (by decide), fun _ => ?_⟩
      refine ⟨fun (z : (10 : Int32) = 8) => absurd z (by decide), fun _ => ?_⟩
      refine ⟨fun (z : (10 : Int32) = 9) => absurd z (by decide), fun _ => ?_⟩
      refine ⟨fun _ => ?_, fun z => absurd rfl z⟩
      show Go 1311 275 0 0 183 [.ref (ad 10 0), .int 10, .int 0, .retAddr 0] [] (mm M (up2 (mI M) (ad 10 0) 0 0) (mJ M)) R2
      refine go_blk 2 [some (.int (nI nk))] (pc' := 187) (vs' := [.ref (ad 10 0), .int 10, .int 0, .retAddr 0]) (st' := [.int (nI nk)]) (M' := mm M (up2 (mI M) (ad 10 0) 0 0) (mJ M)) (ps := [ob (mm M (up2 (mI M) (ad 10 0) 0 0) (mJ M)) (ad 10 0) 12, (Value.int ((up2 (mI M) (ad 10 0) 0 0) (ad 10 0) 96)) = .int (nI nk)]) rfl ⟨hM.1, congrArg Value.int (((up2_n _ _ (fun z => absurd z.2 (by decide))).trans (rfl)).trans jB.1.2.2.2.1), trivial⟩ ?_
      refine go_iret rfl rfl ?_
      exact h2 _ ⟨hsc, ad, nc, nb, nt, wk, nw, nx, nl, ne, nk, kd, true, rfl, rfl, rfl, hW.thr⟩
    refine ⟨fun (c12 : a1 = 11) => ?_, fun (c12n : ¬ (a1 = 11)) => ?_⟩
    · -- a1 = 11
      subst c12
      show Go 1311 158 0 0 162 [.ref (ad 0 0), .int 11] [] (mm M (mI M) (mJ M)) R
      refine go_blk 2 [some (.int (nI ncm))] (pc' := 166) (vs' := [.ref (ad 0 0), .int 11]) (st' := [.int (nI ncm)]) (M' := mm M (mI M) (mJ M)) (ps := [ob (mm M (mI M) (mJ M)) (ad 0 0) 11, (Value.int ((mI M) (ad 0 0) 6)) = .int (nI ncm)]) rfl ⟨(hF.o 0), congrArg Value.int ncm2, trivial⟩ ?_
      refine go_iret rfl rfl ?_
      refine K _ _ hM.1 rfl (fun R2 h2 => ?_)
      show Go 1311 275 0 0 0 [.ref (ad 10 0), .int 11, .retAddr 0, .retAddr 0] [] (mm M (mI M) (mJ M)) R2
      refine go_blk 6 [] (pc' := 8) (vs' := [.ref (ad 10 0), .int 11, .int 0, .retAddr 0]) (st' := [.int 11]) (M' := mm M (up2 (mI M) (ad 10 0) 0 0) (mJ M)) (ps := [ob (mm M (mI M) (mJ M)) (ad 10 0) 12]) rfl ⟨hM.1, trivial⟩ ?_
      refine go_tsw rfl ?_
      refine ⟨fun (z : (11 : Int32) = 0) => absurd z (by decide), fun _ => ?_⟩
      refine ⟨fun (z : (11 : Int32) = 1) => absurd z (by decide), fun _ => ?_⟩
      refine ⟨fun (z : (11 : Int32) = 2) => absurd z (by decide), fun _ => ?_⟩
      refine ⟨fun (z : (11 : Int32) = 3) => absurd z (by decide), fun _ => ?_⟩
      refine ⟨fun (z : (11 : Int32) = 4) => absurd z (by decide), fun _ => ?_⟩
      refine ⟨fun (z : (11 : Int32) = 5) => absurd z (by decide), fun _ => ?_⟩
      refine ⟨fun (z : (11 : Int32) = 6) => absurd z (by decide), fun _ => ?_⟩
      refine ⟨fun (z : (11 : Int32) = 7) => absurd z (by decide), fun _ => ?_⟩
      refine ⟨fun (z : (11 : Int32) = 8) => absurd z (by decide), fun _ => ?_⟩
      refine ⟨fun (z : (11 : Int32) = 9) => absurd z (by decide), fun _ => ?_⟩
      refine ⟨fun (z : (11 : Int32) = 10) => absurd z (by decide), fun _ => ?_⟩
      refine ⟨fun _ => ?_, fun z => absurd rfl z⟩
      show Go 1311 275 0 0 188 [.ref (ad 10 0), .int 11, .int 0, .retAddr 0] [] (mm M (up2 (mI M) (ad 10 0) 0 0) (mJ M)) R2
      refine go_blk 2 [some (.int (nI ncm))] (pc' := 192) (vs' := [.ref (ad 10 0), .int 11, .int 0, .retAddr 0]) (st' := [.int (nI ncm)]) (M' := mm M (up2 (mI M) (ad 10 0) 0 0) (mJ M)) (ps := [ob (mm M (up2 (mI M) (ad 10 0) 0 0) (mJ M)) (ad 10 0) 12, (Value.int ((up2 (mI M) (ad 10 0) 0 0) (ad 10 0) 98)) = .int (nI ncm)]) rfl ⟨hM.1, congrArg Value.int (((up2_n _ _ (fun z => absurd z.2 (by decide))).trans (rfl)).trans ncm3), trivial⟩ ?_
      refine go_iret rfl rfl ?_
      exact h2 _ ⟨hsc, ad, nc, nb, nt, wk, nw, nx, nl, ne, nk, kd, true, rfl, rfl, rfl, hW.thr⟩
    refine ⟨fun (c13 : a1 = 12) => ?_, fun (c13n : ¬ (a1 = 12)) => ?_⟩
    · -- a1 = 12
      subst c13
      show Go 1311 158 0 0 167 [.ref (ad 0 0), .int 12] [] (mm M (mI M) (mJ M)) R
      refine go_blk 1 [] (pc' := 168) (vs' := [.ref (ad 0 0), .int 12]) (st' := [.ref (ad 0 0)]) (M' := mm M (mI M) (mJ M)) (ps := []) rfl trivial ?_
      refine go_callV rfl rfl rfl (by omega) rfl (by decide) (by decide) (hF.o 0) ?_
      refine s_CY_jobsLeftOut (f := mI M) (by omega) hF hB nb1 nb3 hJq ⟨ne_i, ?_⟩
      show Go 1311 158 0 0 171 [.ref (ad 0 0), .int 12] [.int (smI (fun b => loT (mI M) ((mI M) (ad 0 0) 7) (mR M (ad 2 b) 12)) nb)] (mm M (mI M) (mJ M)) R
      refine go_iret rfl rfl ?_
      refine K _ _ hM.1 rfl (fun R2 h2 => ?_)
      show Go 1311 275 0 0 0 [.ref (ad 10 0), .int 12, .retAddr 0, .retAddr 0] [] (mm M (mI M) (mJ M)) R2
      refine go_blk 6 [] (pc' := 8) (vs' := [.ref (ad 10 0), .int 12, .int 0, .retAddr 0]) (st' := [.int 12]) (M' := mm M (up2 (mI M) (ad 10 0) 0 0) (mJ M)) (ps := [ob (mm M (mI M) (mJ M)) (ad 10 0) 12]) rfl ⟨hM.1, trivial⟩ ?_
      refine go_tsw rfl ?_
      refine ⟨fun (z : (12 : Int32) = 0) => absurd z (by decide), fun _ => ?_⟩
      refine ⟨fun (z : (12 : Int32) = 1) => absurd z (by decide), fun _ => ?_⟩
      refine ⟨fun (z : (12 : Int32) = 2) => absurd z (by decide), fun _ => ?_⟩
      refine ⟨fun (z : (12 : Int32) = 3) => absurd z (by decide), fun _ => ?_⟩
      refine ⟨fun (z : (12 : Int32) = 4) => absurd z (by decide), fun _ => ?_⟩
      refine ⟨fun (z : (12 : Int32) = 5) => absurd z (by decide), fun _ => ?_⟩
      refine ⟨fun (z : (12 : Int32) = 6) => absurd z (by decide), fun _ => ?_⟩
      refine ⟨fun (z : (12 : Int32) = 7) => absurd z (by decide), fun _ => ?_⟩
      refine ⟨fun (z : (12 : Int32) = 8) => absurd z (by decide), fun _ => ?_⟩
      refine ⟨fun (z : (12 : Int32) = 9) => absurd z (by decide), fun _ => ?_⟩
      refine ⟨fun (z : (12 : Int32) = 10) => absurd z (by decide), fun _ => ?_⟩
      refine ⟨fun (z : (12 : Int32) = 11) => absurd z (by decide), fun _ => ?_⟩
      refine ⟨fun _ => ?_, fun z => absurd rfl z⟩
      show Go 1311 275 0 0 193 [.ref (ad 10 0), .int 12, .int 0, .retAddr 0] [] (mm M (up2 (mI M) (ad 10 0) 0 0) (mJ M)) R2
      refine go_blk 2 [some (.int ((mI M) (ad 10 0) 52))] (pc' := 197) (vs' := [.ref (ad 10 0), .int 12, .int 0, .retAddr 0]) (st' := [.int ((mI M) (ad 10 0) 52)]) (M' := mm M (up2 (mI M) (ad 10 0) 0 0) (mJ M)) (ps := [ob (mm M (up2 (mI M) (ad 10 0) 0 0) (mJ M)) (ad 10 0) 12, (Value.int ((up2 (mI M) (ad 10 0) 0 0) (ad 10 0) 52)) = .int ((mI M) (ad 10 0) 52)]) rfl ⟨hM.1, congrArg Value.int ((up2_n _ _ (fun z => absurd z.2 (by decide))).trans (rfl)), trivial⟩ ?_
      refine go_iret rfl rfl ?_
      have e9 : ((mI M) (ad 10 0) 52) = smI (fun b => loT (mI M) ((mI M) (ad 0 0) 7) (mR M (ad 2 b) 12)) nb := (by simpa [vw] using kO.trans (smI_ct (fun b hb => by exact hLO b hb)).symm)
      rw [e9]
      exact h2 _ ⟨hsc, ad, nc, nb, nt, wk, nw, nx, nl, ne, nk, kd, true, rfl, rfl, rfl, hW.thr⟩
    refine ⟨fun (c14 : a1 = 13) => ?_, fun (c14n : ¬ (a1 = 13)) => ?_⟩
    · -- a1 = 13
      subst c14
      show Go 1311 158 0 0 172 [.ref (ad 0 0), .int 13] [] (mm M (mI M) (mJ M)) R
      refine go_blk 1 [] (pc' := 173) (vs' := [.ref (ad 0 0), .int 13]) (st' := [.ref (ad 0 0)]) (M' := mm M (mI M) (mJ M)) (ps := []) rfl trivial ?_
      refine go_callV rfl rfl rfl (by omega) rfl (by decide) (by decide) (hF.o 0) ?_
      refine s_CY_lateMinutes (f := mI M) (by omega) hF hB nb1 nb3 hJq ⟨ne_i, ?_⟩
      show Go 1311 158 0 0 176 [.ref (ad 0 0), .int 13] [.int (smI (fun b => ltT (mI M) (mR M (ad 2 b) 12)) nb)] (mm M (mI M) (mJ M)) R
      refine go_iret rfl rfl ?_
      refine K _ _ hM.1 rfl (fun R2 h2 => ?_)
      show Go 1311 275 0 0 0 [.ref (ad 10 0), .int 13, .retAddr 0, .retAddr 0] [] (mm M (mI M) (mJ M)) R2
      refine go_blk 6 [] (pc' := 8) (vs' := [.ref (ad 10 0), .int 13, .int 0, .retAddr 0]) (st' := [.int 13]) (M' := mm M (up2 (mI M) (ad 10 0) 0 0) (mJ M)) (ps := [ob (mm M (mI M) (mJ M)) (ad 10 0) 12]) rfl ⟨hM.1, trivial⟩ ?_
      refine go_tsw rfl ?_
      refine ⟨fun (z : (13 : Int32) = 0) => absurd z (by decide), fun _ => ?_⟩
      refine ⟨fun (z : (13 : Int32) = 1) => absurd z (by decide), fun _ => ?_⟩
      refine ⟨fun (z : (13 : Int32) = 2) => absurd z (by decide), fun _ => ?_⟩
      refine ⟨fun (z : (13 : Int32) = 3) => absurd z (by decide), fun _ => ?_⟩
      refine ⟨fun (z : (13 : Int32) = 4) => absurd z (by decide), fun _ => ?_⟩
      refine ⟨fun (z : (13 : Int32) = 5) => absurd z (by decide), fun _ => ?_⟩
      refine ⟨fun (z : (13 : Int32) = 6) => absurd z (by decide), fun _ => ?_⟩
      refine ⟨fun (z : (13 : Int32) = 7) => absurd z (by decide), fun _ => ?_⟩
      refine ⟨fun (z : (13 : Int32) = 8) => absurd z (by decide), fun _ => ?_⟩
      refine ⟨fun (z : (13 : Int32) = 9) => absurd z (by decide), fun _ => ?_⟩
      refine ⟨fun (z : (13 : Int32) = 10) => absurd z (by decide), fun _ => ?_⟩
      refine ⟨fun (z : (13 : Int32) = 11) => absurd z (by decide), fun _ => ?_⟩
      refine ⟨fun (z : (13 : Int32) = 12) => absurd z (by decide), fun _ => ?_⟩
      refine ⟨fun _ => ?_, fun z => absurd rfl z⟩
      show Go 1311 275 0 0 198 [.ref (ad 10 0), .int 13, .int 0, .retAddr 0] [] (mm M (up2 (mI M) (ad 10 0) 0 0) (mJ M)) R2
      refine go_blk 2 [] (pc' := 200) (vs' := [.ref (ad 10 0), .int 13, .int 0, .int 0]) (st' := []) (M' := mm M (up2 (mI M) (ad 10 0) 0 0) (mJ M)) (ps := []) rfl trivial ?_
      refine lp_Mo_count13 (f := (up2 (mI M) (ad 10 0) 0 0)) (by omega) hM ?_ 0 (Nat.zero_le _)
      show Go 1311 275 0 0 244 [.ref (ad 10 0), .int 13, .int (smI (fun j => if (up2 (mI M) (ad 10 0) 0 0) (ad 9 32) j = 0 then 0 else if (up2 (mI M) (ad 10 0) 0 0) (ad 9 38) j = -1 then 0 else mx0 ((up2 (mI M) (ad 10 0) 0 0) (ad 9 38) j - (up2 (mI M) (ad 10 0) 0 0) (ad 9 34) j)) 364), .int (nI 364)] [] (mm M (up2 (mI M) (ad 10 0) 0 0) (mJ M)) R2
      refine go_blk 1 [] (pc' := 245) (vs' := [.ref (ad 10 0), .int 13, .int (smI (fun j => if (up2 (mI M) (ad 10 0) 0 0) (ad 9 32) j = 0 then 0 else if (up2 (mI M) (ad 10 0) 0 0) (ad 9 38) j = -1 then 0 else mx0 ((up2 (mI M) (ad 10 0) 0 0) (ad 9 38) j - (up2 (mI M) (ad 10 0) 0 0) (ad 9 34) j)) 364), .int (nI 364)]) (st' := [.int (smI (fun j => if (up2 (mI M) (ad 10 0) 0 0) (ad 9 32) j = 0 then 0 else if (up2 (mI M) (ad 10 0) 0 0) (ad 9 38) j = -1 then 0 else mx0 ((up2 (mI M) (ad 10 0) 0 0) (ad 9 38) j - (up2 (mI M) (ad 10 0) 0 0) (ad 9 34) j)) 364)]) (M' := mm M (up2 (mI M) (ad 10 0) 0 0) (mJ M)) (ps := []) rfl trivial ?_
      refine go_iret rfl rfl ?_
      have e9 : (smI (fun j => if (up2 (mI M) (ad 10 0) 0 0) (ad 9 32) j = 0 then 0 else if (up2 (mI M) (ad 10 0) 0 0) (ad 9 38) j = -1 then 0 else mx0 ((up2 (mI M) (ad 10 0) 0 0) (ad 9 38) j - (up2 (mI M) (ad 10 0) 0 0) (ad 9 34) j)) 364) = smI (fun b => ltT (mI M) (mR M (ad 2 b) 12)) nb := hLT
      rw [e9]
      exact h2 _ ⟨hsc, ad, nc, nb, nt, wk, nw, nx, nl, ne, nk, kd, true, rfl, rfl, rfl, hW.thr⟩
    refine ⟨fun (c15 : a1 = 14) => ?_, fun (c15n : ¬ (a1 = 14)) => ?_⟩
    · -- a1 = 14
      subst c15
      show Go 1311 158 0 0 177 [.ref (ad 0 0), .int 14] [] (mm M (mI M) (mJ M)) R
      refine go_blk 4 [some (.ref (ad 0 10)), some (.ref (ad 7 nx)), some (.int (nI nn))] (pc' := 187) (vs' := [.ref (ad 0 0), .int 14]) (st' := [.int (nI nn)]) (M' := mm M (mI M) (mJ M)) (ps := [ob (mm M (mI M) (mJ M)) (ad 0 0) 11, mR (mm M (mI M) (mJ M)) (ad 0 0) 17 = some (ad 0 10), va_rf (some (ad 0 10)) = .ref (ad 0 10), ob (mm M (mI M) (mJ M)) (ad 0 10) 10, mR (mm M (mI M) (mJ M)) (ad 0 10) 0 = some (ad 7 nx), va_rf (some (ad 7 nx)) = .ref (ad 7 nx), ob (mm M (mI M) (mJ M)) (ad 7 nx) 9, (Value.int ((mI M) (ad 7 nx) 1)) = .int (nI nn)]) rfl ⟨(hF.o 0), (hF.r 0 17 10), rfl, (hF.o 10), hX.1, rfl, (hX.2.2 nx (by omega)).1, congrArg Value.int nn1, trivial⟩ ?_
      refine go_iret rfl rfl ?_
      refine K _ _ hM.1 rfl (fun R2 h2 => ?_)
      show Go 1311 275 0 0 0 [.ref (ad 10 0), .int 14, .retAddr 0, .retAddr 0] [] (mm M (mI M) (mJ M)) R2
      refine go_blk 6 [] (pc' := 8) (vs' := [.ref (ad 10 0), .int 14, .int 0, .retAddr 0]) (st' := [.int 14]) (M' := mm M (up2 (mI M) (ad 10 0) 0 0) (mJ M)) (ps := [ob (mm M (mI M) (mJ M)) (ad 10 0) 12]) rfl ⟨hM.1, trivial⟩ ?_
      refine go_tsw rfl ?_
      refine ⟨fun (z : (14 : Int32) = 0) => absurd z (by decide), fun _ => ?_⟩
      refine ⟨fun (z : (14 : Int32) = 1) => absurd z (by decide), fun _ => ?_⟩
      refine ⟨fun (z : (14 : Int32) = 2) => absurd z (by decide), fun _ => ?_⟩
      refine ⟨fun (z : (14 : Int32) = 3) => absurd z (by decide), fun _ => ?_⟩
      refine ⟨fun (z : (14 : Int32) = 4) => absurd z (by decide), fun _ => ?_⟩
      refine ⟨fun (z : (14 : Int32) = 5) => absurd z (by decide), fun _ => ?_⟩
      refine ⟨fun (z : (14 : Int32) = 6) => absurd z (by decide), fun _ => ?_⟩
      refine ⟨fun (z : (14 : Int32) = 7) => absurd z (by decide), fun _ => ?_⟩
      refine ⟨fun (z : (14 : Int32) = 8) => absurd z (by decide), fun _ => ?_⟩
      refine ⟨fun (z : (14 : Int32) = 9) => absurd z (by decide), fun _ => ?_⟩
      refine ⟨fun (z : (14 : Int32) = 10) => absurd z (by decide), fun _ => ?_⟩
      refine ⟨fun (z : (14 : Int32) = 11) => absurd z (by decide), fun _ => ?_⟩
      refine ⟨fun (z : (14 : Int32) = 12) => absurd z (by decide), fun _ => ?_⟩
      refine ⟨fun (z : (14 : Int32) = 13) => absurd z (by decide), fun _ => ?_⟩
      refine ⟨fun _ => ?_, fun z => absurd rfl z⟩
      show Go 1311 275 0 0 246 [.ref (ad 10 0), .int 14, .int 0, .retAddr 0] [] (mm M (up2 (mI M) (ad 10 0) 0 0) (mJ M)) R2
      refine go_blk 2 [some (.int (nI nn))] (pc' := 250) (vs' := [.ref (ad 10 0), .int 14, .int 0, .retAddr 0]) (st' := [.int (nI nn)]) (M' := mm M (up2 (mI M) (ad 10 0) 0 0) (mJ M)) (ps := [ob (mm M (up2 (mI M) (ad 10 0) 0 0) (mJ M)) (ad 10 0) 12, (Value.int ((up2 (mI M) (ad 10 0) 0 0) (ad 10 0) 80)) = .int (nI nn)]) rfl ⟨hM.1, congrArg Value.int (((up2_n _ _ (fun z => absurd z.2 (by decide))).trans (rfl)).trans nn2), trivial⟩ ?_
      refine go_iret rfl rfl ?_
      exact h2 _ ⟨hsc, ad, nc, nb, nt, wk, nw, nx, nl, ne, nk, kd, true, rfl, rfl, rfl, hW.thr⟩
    show Go 1311 158 0 0 188 [.ref (ad 0 0), .int a1] [] (mm M (mI M) (mJ M)) R
    refine go_blk 1 [] (pc' := 189) (vs' := [.ref (ad 0 0), .int a1]) (st' := [.int (-1)]) (M' := mm M (mI M) (mJ M)) (ps := []) rfl trivial ?_
    refine go_iret rfl rfl ?_
    refine K _ _ hM.1 rfl (fun R2 h2 => ?_)
    show Go 1311 275 0 0 0 [.ref (ad 10 0), .int a1, .retAddr 0, .retAddr 0] [] (mm M (mI M) (mJ M)) R2
    refine go_blk 6 [] (pc' := 8) (vs' := [.ref (ad 10 0), .int a1, .int 0, .retAddr 0]) (st' := [.int a1]) (M' := mm M (up2 (mI M) (ad 10 0) 0 0) (mJ M)) (ps := [ob (mm M (mI M) (mJ M)) (ad 10 0) 12]) rfl ⟨hM.1, trivial⟩ ?_
    refine go_tsw rfl ?_
    refine ⟨fun (z : a1 = 0) => absurd z c1n, fun _ => ?_⟩
    refine ⟨fun (z : a1 = 1) => absurd z c2n, fun _ => ?_⟩
    refine ⟨fun (z : a1 = 2) => absurd z c3n, fun _ => ?_⟩
    refine ⟨fun (z : a1 = 3) => absurd z c4n, fun _ => ?_⟩
    refine ⟨fun (z : a1 = 4) => absurd z c5n, fun _ => ?_⟩
    refine ⟨fun (z : a1 = 5) => absurd z c6n, fun _ => ?_⟩
    refine ⟨fun (z : a1 = 6) => absurd z c7n, fun _ => ?_⟩
    refine ⟨fun (z : a1 = 7) => absurd z c8n, fun _ => ?_⟩
    refine ⟨fun (z : a1 = 8) => absurd z c9n, fun _ => ?_⟩
    refine ⟨fun (z : a1 = 9) => absurd z c10n, fun _ => ?_⟩
    refine ⟨fun (z : a1 = 10) => absurd z c11n, fun _ => ?_⟩
    refine ⟨fun (z : a1 = 11) => absurd z c12n, fun _ => ?_⟩
    refine ⟨fun (z : a1 = 12) => absurd z c13n, fun _ => ?_⟩
    refine ⟨fun (z : a1 = 13) => absurd z c14n, fun _ => ?_⟩
    refine ⟨fun (z : a1 = 14) => absurd z c15n, fun _ => ?_⟩
    show Go 1311 275 0 0 251 [.ref (ad 10 0), .int a1, .int 0, .retAddr 0] [] (mm M (up2 (mI M) (ad 10 0) 0 0) (mJ M)) R2
    refine go_blk 1 [] (pc' := 252) (vs' := [.ref (ad 10 0), .int a1, .int 0, .retAddr 0]) (st' := [.int (-1)]) (M' := mm M (up2 (mI M) (ad 10 0) 0 0) (mJ M)) (ps := []) rfl trivial ?_
    refine go_iret rfl rfl ?_
    exact h2 _ ⟨hsc, ad, nc, nb, nt, wk, nw, nx, nl, ne, nk, kd, true, rfl, rfl, rfl, hW.thr⟩

