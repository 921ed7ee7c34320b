/-! call: fewest -/
def lsG (N : Nat → Nat) : Nat → Nat
  | 0 => 0
  | w + 1 => N w
def lsS (N : Nat → Nat) (ws : Nat) : Nat → Nat
  | 0 => 0
  | w + 1 => lsS N ws w - min ws (lsS N ws w) + lsG N w
def lsA (N : Nat → Nat) (ws w : Nat) : Nat := lsS N ws w + lsG N w
def lsX (N : Nat → Nat) (ws : Nat) : Nat → Nat
  | 0 => 0
  | w + 1 => max (lsX N ws w) (lsA N ws (w + 1))
theorem lsA_s (N : Nat → Nat) (ws w : Nat) : lsA N ws (w + 1) = lsA N ws w - min ws (lsS N ws w) + N w := by
  unfold lsA
  rw [lsS, lsG]
  omega
theorem lsA_X (N : Nat → Nat) (ws : Nat) : ∀ w, lsA N ws w ≤ lsX N ws w
  | 0 => Nat.le_refl _
  | w + 1 => Nat.le_max_right _ _
theorem lsX_m (N : Nat → Nat) (ws : Nat) {w v : Nat} (h : w ≤ v) : lsX N ws w ≤ lsX N ws v := by
  induction h with
  | refl => exact Nat.le_refl _
  | step _ ih => exact Nat.le_trans ih (Nat.le_max_left _ _)
theorem lsG_b {N : Nat → Nat} (hN : ∀ w, N w ≤ 720) : ∀ w, lsG N w ≤ 720
  | 0 => by show 0 ≤ 720; omega
  | w + 1 => hN w
theorem lsS_b {N : Nat → Nat} (hN : ∀ w, N w ≤ 720) (ws : Nat) : ∀ w, lsS N ws w ≤ 720 * w
  | 0 => Nat.le_refl _
  | w + 1 => by
    rw [lsS]
    have := lsS_b hN ws w
    have := lsG_b hN w
    omega
theorem lsX_b {N : Nat → Nat} (hN : ∀ w, N w ≤ 720) (ws : Nat) : ∀ w, lsX N ws w ≤ 720 * w + 720
  | 0 => Nat.zero_le _
  | w + 1 => by
    rw [lsX]
    have := lsX_b hN ws w
    have h1 := lsS_b hN ws (w + 1)
    have h2 := lsG_b hN (w + 1)
    unfold lsA
    omega
theorem nI_asub {a n m : Nat} (h : m ≤ a) : nI a + (nI n - nI m) = nI (a - m + n) := by
  have e : nI a = nI m + nI (a - m) := by rw [nI_add]; congr 1; omega
  rw [← nI_add, e]
  grind
theorem smI_nat {t : Nat → Int32} {c : Nat} : ∀ {n : Nat}, (∀ k, k < n → ∃ m, m ≤ c ∧ t k = nI m) → ∃ m, m ≤ c * n ∧ smI t n = nI m
  | 0, _ => ⟨0, Nat.zero_le _, rfl⟩
  | n + 1, h => by
    obtain ⟨m, h1, h2⟩ := smI_nat (n := n) (fun k hk => h k (by omega))
    obtain ⟨m', h3, h4⟩ := h n (by omega)
    exact ⟨m + m', by rw [Nat.mul_succ]; omega, by rw [smI, h2, h4, nI_add]⟩
theorem s_JM_min0N {d : Nat} {M : Mem} {f : Nat → Nat → Int32} {g : Nat → Nat → Int64} {R : Option Value → Mem → Prop} {a b : Nat} (ha : a < 2 ^ 31) (hb : b < 2 ^ 31) (hR : R (some (.int (nI (min a b)))) (mm M f g)) : Call d 1 [.int (nI a), .int (nI b)] (mm M f g) R := by
  refine s_JM_min0 (Nat.zero_le _) ?_
  have e : (if nI b < nI a then nI b else nI a) = nI (min a b) := by
    by_cases c : b < a
    · rw [if_pos ((nI_lts hb ha).mpr c)]; congr 1; omega
    · rw [if_neg (fun z => c ((nI_lts hb ha).mp z))]; congr 1; omega
  rw [e]
  exact hR
theorem s_JM_max0N {d : Nat} {M : Mem} {f : Nat → Nat → Int32} {g : Nat → Nat → Int64} {R : Option Value → Mem → Prop} {a b : Nat} (ha : a < 2 ^ 31) (hb : b < 2 ^ 31) (hR : R (some (.int (nI (max a b)))) (mm M f g)) : Call d 0 [.int (nI a), .int (nI b)] (mm M f g) R := by
  refine s_JM_max0 (Nat.zero_le _) ?_
  have e : (if nI a < nI b then nI b else nI a) = nI (max a b) := by
    by_cases c : a < b
    · rw [if_pos ((nI_lts ha hb).mpr c)]; congr 1; omega
    · rw [if_neg (fun z => c ((nI_lts ha hb).mp z))]; congr 1; omega
  rw [e]
  exact hR

set_option maxRecDepth 100000 in
theorem lp_La_guestsIn {d : Nat} {M : Mem} {f : Nat → Nat → Int32} {g : Nat → Nat → Int64} {ad : Nat → Nat → Nat} {R : Option Value → Mem → Prop} {nb w : Nat} (hd : 0 ≤ d) (hF : Fx M ad) (hB : Bs M ad nb) (hl : nb ≤ 60) (hx : Go d 35 0 0 55 [.int (nI w), .ref (ad 0 2), .int (nI nb), .int (smI (fun b => if f (ad 2 b) 6 = 0 then 0 else if f (ad 2 b) 1 = nI w then f (ad 2 b) 2 else 0) nb), .int (nI nb)] [] (mm M f g) R) : ∀ i, i ≤ nb → Go d 35 0 0 5 [.int (nI w), .ref (ad 0 2), .int (nI nb), .int (smI (fun b => if f (ad 2 b) 6 = 0 then 0 else if f (ad 2 b) 1 = nI w then f (ad 2 b) 2 else 0) i), .int (nI i)] [] (mm M f g) R := by
  refine up_ind (P := fun i => Go d 35 0 0 5 [.int (nI w), .ref (ad 0 2), .int (nI nb), .int (smI (fun b => if f (ad 2 b) 6 = 0 then 0 else if f (ad 2 b) 1 = nI w then f (ad 2 b) 2 else 0) i), .int (nI i)] [] (mm M f g) R) nb ?_ (fun i hi ih => ?_)
  ·
    skip
    show Go d 35 0 0 5 [.int (nI w), .ref (ad 0 2), .int (nI nb), .int (smI (fun b => if f (ad 2 b) 6 = 0 then 0 else if f (ad 2 b) 1 = nI w then f (ad 2 b) 2 else 0) nb), .int (nI nb)] [] (mm M f g) R
    refine go_blk 2 [] (pc' := 8) (vs' := [.int (nI w), .ref (ad 0 2), .int (nI nb), .int (smI (fun b => if f (ad 2 b) 6 = 0 then 0 else if f (ad 2 b) 1 = nI w then f (ad 2 b) 2 else 0) nb), .int (nI nb)]) (st' := [.int (nI nb), .int (nI nb)]) (M' := mm M f g) (ps := []) rfl trivial ?_
    refine go_icmp rfl (fun _ => ?_) (fun (z : ¬ (nI nb ≤ (nI nb))) => absurd (show nI nb ≤ (nI nb) from Int32.le_refl _) z)
    exact hx
  ·
    skip
    show Go d 35 0 0 5 [.int (nI w), .ref (ad 0 2), .int (nI nb), .int (smI (fun b => if f (ad 2 b) 6 = 0 then 0 else if f (ad 2 b) 1 = nI w then f (ad 2 b) 2 else 0) i), .int (nI i)] [] (mm M f g) R
    refine go_blk 2 [] (pc' := 8) (vs' := [.int (nI w), .ref (ad 0 2), .int (nI nb), .int (smI (fun b => if f (ad 2 b) 6 = 0 then 0 else if f (ad 2 b) 1 = nI w then f (ad 2 b) 2 else 0) i), .int (nI i)]) (st' := [.int (nI nb), .int (nI i)]) (M' := mm M f g) (ps := []) rfl trivial ?_
    refine go_icmp rfl (fun (z : nI nb ≤ (nI i)) => absurd z (show ¬ (nI nb ≤ (nI i)) from (Int32.not_le.mpr ((nI_lts (a := i) (b := nb) (by omega) (by omega)).mpr hi)))) (fun _ => ?_)
    refine go_blk 3 [] (pc' := 15) (vs' := [.int (nI w), .ref (ad 0 2), .int (nI nb), .int (smI (fun b => if f (ad 2 b) 6 = 0 then 0 else if f (ad 2 b) 1 = nI w then f (ad 2 b) 2 else 0) i), .int (nI i)]) (st' := [.int (nI (mN (mm M f g) (ad 0 2))), .int (nI i)]) (M' := mm M f g) (ps := [ob (mm M f g) (ad 0 2) 17, 13 ≤ 17 ∧ 17 < 22]) rfl ⟨(hF.o 2), (by decide), trivial⟩ ?_
    refine go_icmp rfl (fun (z : nI (mN (mm M f g) (ad 0 2)) ≤ (nI i)) => absurd z (show ¬ (nI (mN (mm M f g) (ad 0 2)) ≤ (nI i)) from (by rw [show mN (mm M f g) (ad 0 2) = 60 from hF.n 2]; exact Int32.not_le.mpr ((nI_lts (a := i) (b := 60) (by omega) (by decide)).mpr (by omega))))) (fun _ => ?_)
    refine go_blk 4 [some (.ref (ad 2 i))] (pc' := 25) (vs' := [.int (nI w), .ref (ad 0 2), .int (nI nb), .int (smI (fun b => if f (ad 2 b) 6 = 0 then 0 else if f (ad 2 b) 1 = nI w then f (ad 2 b) 2 else 0) i), .int (nI i)]) (st' := [.int (f (ad 2 i) 6)]) (M' := mm M f g) (ps := [ob (mm M f g) (ad 0 2) 17, 17 ≤ 17 ∧ 17 < 22, vp_in (nI i) (mN (mm M f g) (ad 0 2)), mR (mm M f g) (ad 0 2) ((nI i).toNatClampNeg) = some (ad 2 i), va_rf (some (ad 2 i)) = .ref (ad 2 i), ob (mm M f g) (ad 2 i) 0]) rfl ⟨(hF.o 2), (by decide), (vpi (hF.n 2) (show _ < 60 by omega)), (cl_rf rfl (by omega) (hB i (by assumption)).1), rfl, (hB i (by assumption)).2, trivial⟩ ?_
    refine go_if rfl (fun (c1 : (f (ad 2 i) 6) = 0) => ?_) (fun (c1 : ¬ ((f (ad 2 i) 6) = 0)) => ?_)
    · -- (f (ad 2 i) 6) = 0
      refine go_blk 2 [] (pc' := 5) (vs' := [.int (nI w), .ref (ad 0 2), .int (nI nb), .int (smI (fun b => if f (ad 2 b) 6 = 0 then 0 else if f (ad 2 b) 1 = nI w then f (ad 2 b) 2 else 0) i), .int ((nI i) + 1)]) (st' := []) (M' := mm M f g) (ps := []) rfl trivial ?_
      have e1 : nI i + 1 = nI (i + 1) := nI_add i 1
      have e5 : (smI (fun b => if f (ad 2 b) 6 = 0 then 0 else if f (ad 2 b) 1 = nI w then f (ad 2 b) 2 else 0) i) = smI (fun b => if f (ad 2 b) 6 = 0 then 0 else if f (ad 2 b) 1 = nI w then f (ad 2 b) 2 else 0) (i + 1) := (by first | rfl | (rw [smI]; clear ih hx; grind))
      rw [e1, e5]
      exact ih
    · -- ¬ ((f (ad 2 i) 6) = 0)
      refine go_blk 5 [some (.ref (ad 2 i))] (pc' := 36) (vs' := [.int (nI w), .ref (ad 0 2), .int (nI nb), .int (smI (fun b => if f (ad 2 b) 6 = 0 then 0 else if f (ad 2 b) 1 = nI w then f (ad 2 b) 2 else 0) i), .int (nI i)]) (st' := [.int (nI w), .int (f (ad 2 i) 1)]) (M' := mm M f g) (ps := [ob (mm M f g) (ad 0 2) 17, 17 ≤ 17 ∧ 17 < 22, vp_in (nI i) (mN (mm M f g) (ad 0 2)), mR (mm M f g) (ad 0 2) ((nI i).toNatClampNeg) = some (ad 2 i), va_rf (some (ad 2 i)) = .ref (ad 2 i), ob (mm M f g) (ad 2 i) 0]) rfl ⟨(hF.o 2), (by decide), (vpi (hF.n 2) (show _ < 60 by omega)), (cl_rf rfl (by omega) (hB i (by assumption)).1), rfl, (hB i (by assumption)).2, trivial⟩ ?_
      refine go_icmp rfl (fun (c2 : ¬ (f (ad 2 i) 1) = nI w) => ?_) (fun (c2 : ¬ (¬ (f (ad 2 i) 1) = nI w)) => ?_)
      · -- ¬ (f (ad 2 i) 1) = nI w
        refine go_blk 2 [] (pc' := 5) (vs' := [.int (nI w), .ref (ad 0 2), .int (nI nb), .int (smI (fun b => if f (ad 2 b) 6 = 0 then 0 else if f (ad 2 b) 1 = nI w then f (ad 2 b) 2 else 0) i), .int ((nI i) + 1)]) (st' := []) (M' := mm M f g) (ps := []) rfl trivial ?_
        have e1 : nI i + 1 = nI (i + 1) := nI_add i 1
        have e5 : (smI (fun b => if f (ad 2 b) 6 = 0 then 0 else if f (ad 2 b) 1 = nI w then f (ad 2 b) 2 else 0) i) = smI (fun b => if f (ad 2 b) 6 = 0 then 0 else if f (ad 2 b) 1 = nI w then f (ad 2 b) 2 else 0) (i + 1) := (by first | rfl | (rw [smI]; clear ih hx; grind))
        rw [e1, e5]
        exact ih
      · -- ¬ (¬ (f (ad 2 i) 1) = nI w)
        refine go_blk 9 [some (.ref (ad 2 i))] (pc' := 5) (vs' := [.int (nI w), .ref (ad 0 2), .int (nI nb), .int ((smI (fun b => if f (ad 2 b) 6 = 0 then 0 else if f (ad 2 b) 1 = nI w then f (ad 2 b) 2 else 0) i) + (f (ad 2 i) 2)), .int ((nI i) + 1)]) (st' := []) (M' := mm M f g) (ps := [ob (mm M f g) (ad 0 2) 17, 17 ≤ 17 ∧ 17 < 22, vp_in (nI i) (mN (mm M f g) (ad 0 2)), mR (mm M f g) (ad 0 2) ((nI i).toNatClampNeg) = some (ad 2 i), va_rf (some (ad 2 i)) = .ref (ad 2 i), ob (mm M f g) (ad 2 i) 0]) rfl ⟨(hF.o 2), (by decide), (vpi (hF.n 2) (show _ < 60 by omega)), (cl_rf rfl (by omega) (hB i (by assumption)).1), rfl, (hB i (by assumption)).2, trivial⟩ ?_
        have e1 : nI i + 1 = nI (i + 1) := nI_add i 1
        have e5 : ((smI (fun b => if f (ad 2 b) 6 = 0 then 0 else if f (ad 2 b) 1 = nI w then f (ad 2 b) 2 else 0) i) + (f (ad 2 i) 2)) = smI (fun b => if f (ad 2 b) 6 = 0 then 0 else if f (ad 2 b) 1 = nI w then f (ad 2 b) 2 else 0) (i + 1) := (by first | rfl | (rw [smI]; clear ih hx; grind))
        rw [e1, e5]
        exact ih

set_option maxRecDepth 100000 in
theorem s_La_guestsIn {d : Nat} {M : Mem} {f : Nat → Nat → Int32} {g : Nat → Nat → Int64} {ad : Nat → Nat → Nat} {R : Option Value → Mem → Prop} {nb w : Nat} (hd : 0 ≤ d) (hF : Fx M ad) (hB : Bs M ad nb) (hl : nb ≤ 60) (hR : R (some (.int (smI (fun b => if f (ad 2 b) 6 = 0 then 0 else if f (ad 2 b) 1 = nI w then f (ad 2 b) 2 else 0) nb))) (mm M f g)) : Call d 35 [.int (nI w), .ref (ad 0 2), .int (nI nb)] (mm M f g) R := by
  show Go d 35 0 0 0 [.int (nI w), .ref (ad 0 2), .int (nI nb), .retAddr 0, .retAddr 0] [] (mm M f g) R
  refine go_blk 4 [] (pc' := 5) (vs' := [.int (nI w), .ref (ad 0 2), .int (nI nb), .int 0, .int 0]) (st' := []) (M' := mm M f g) (ps := []) rfl trivial ?_
  refine lp_La_guestsIn hd hF hB hl ?_ 0 (Nat.zero_le _)
  show Go d 35 0 0 55 [.int (nI w), .ref (ad 0 2), .int (nI nb), .int (smI (fun b => if f (ad 2 b) 6 = 0 then 0 else if f (ad 2 b) 1 = nI w then f (ad 2 b) 2 else 0) nb), .int (nI nb)] [] (mm M f g) R
  refine go_blk 1 [] (pc' := 56) (vs' := [.int (nI w), .ref (ad 0 2), .int (nI nb), .int (smI (fun b => if f (ad 2 b) 6 = 0 then 0 else if f (ad 2 b) 1 = nI w then f (ad 2 b) 2 else 0) nb), .int (nI nb)]) (st' := [.int (smI (fun b => if f (ad 2 b) 6 = 0 then 0 else if f (ad 2 b) 1 = nI w then f (ad 2 b) 2 else 0) nb)]) (M' := mm M f g) (ps := []) rfl trivial ?_
  refine go_iret rfl rfl ?_
  exact hR

set_option maxRecDepth 100000 in
theorem lp_La_fewest {d : Nat} {M : Mem} {f : Nat → Nat → Int32} {g : Nat → Nat → Int64} {ad : Nat → Nat → Nat} {R : Option Value → Mem → Prop} {nb ws : Nat} {N : Nat → Nat} (hd : 1 ≤ d) (hF : Fx M ad) (hB : Bs M ad nb) (hl : nb ≤ 60) (hN : ∀ w, N w ≤ 720) (hS : ∀ w, w < 52 → smI (fun b => if f (ad 2 b) 6 = 0 then 0 else if f (ad 2 b) 1 = nI w then f (ad 2 b) 2 else 0) nb = nI (N w)) (hws : ws ≤ 100) (hw : f (ad 0 8) 1 = nI ws) (hx : ∀ u1 u2 : Value, Go d 34 0 0 77 [.ref (ad 0 8), .ref (ad 0 2), .int (nI nb), .int (nI (lsA N ws 52)), .int (nI (lsX N ws 52)), .int (nI (lsS N ws 52)), .int (nI (lsG N 52)), .int (nI 52), u1, u2] [] (mm M f g) R) : ∀ w, w ≤ 52 → ∀ u1 u2 : Value, Go d 34 0 0 14 [.ref (ad 0 8), .ref (ad 0 2), .int (nI nb), .int (nI (lsA N ws w)), .int (nI (lsX N ws w)), .int (nI (lsS N ws w)), .int (nI (lsG N w)), .int (nI w), u1, u2] [] (mm M f g) R := by
  refine up_ind (P := fun w => ∀ u1 u2 : Value, Go d 34 0 0 14 [.ref (ad 0 8), .ref (ad 0 2), .int (nI nb), .int (nI (lsA N ws w)), .int (nI (lsX N ws w)), .int (nI (lsS N ws w)), .int (nI (lsG N w)), .int (nI w), u1, u2] [] (mm M f g) R) 52 ?_ (fun w hi ih => ?_)
  ·
    intro u1 u2
    show Go d 34 0 0 14 [.ref (ad 0 8), .ref (ad 0 2), .int (nI nb), .int (nI (lsA N ws 52)), .int (nI (lsX N ws 52)), .int (nI (lsS N ws 52)), .int (nI (lsG N 52)), .int (nI 52), u1, u2] [] (mm M f g) R
    refine go_blk 2 [] (pc' := 18) (vs' := [.ref (ad 0 8), .ref (ad 0 2), .int (nI nb), .int (nI (lsA N ws 52)), .int (nI (lsX N ws 52)), .int (nI (lsS N ws 52)), .int (nI (lsG N 52)), .int (nI 52), u1, u2]) (st' := [.int 52, .int (nI 52)]) (M' := mm M f g) (ps := []) rfl trivial ?_
    refine go_icmp rfl (fun _ => ?_) (fun (z : ¬ (52 ≤ (nI 52))) => absurd (show 52 ≤ (nI 52) from Int32.le_refl _) z)
    exact hx _ _
  ·
    intro u1 u2
    have b1 := lsS_b hN ws w
    have b2 := lsG_b hN w
    have b3 := lsX_b hN ws w
    have b4 := hN w
    have b6 := lsX_b hN ws (w + 1)
    have b5 := lsA_X N ws (w + 1)
    show Go d 34 0 0 14 [.ref (ad 0 8), .ref (ad 0 2), .int (nI nb), .int (nI (lsA N ws w)), .int (nI (lsX N ws w)), .int (nI (lsS N ws w)), .int (nI (lsG N w)), .int (nI w), u1, u2] [] (mm M f g) R
    refine go_blk 2 [] (pc' := 18) (vs' := [.ref (ad 0 8), .ref (ad 0 2), .int (nI nb), .int (nI (lsA N ws w)), .int (nI (lsX N ws w)), .int (nI (lsS N ws w)), .int (nI (lsG N w)), .int (nI w), u1, u2]) (st' := [.int 52, .int (nI w)]) (M' := mm M f g) (ps := []) rfl trivial ?_
    refine go_icmp rfl (fun (z : 52 ≤ (nI w)) => absurd z (show ¬ (52 ≤ (nI w)) from (Int32.not_le.mpr ((nI_lts (a := w) (b := 52) (by omega) (by omega)).mpr hi)))) (fun _ => ?_)
    refine go_blk 3 [some (.int (nI ws))] (pc' := 27) (vs' := [.ref (ad 0 8), .ref (ad 0 2), .int (nI nb), .int (nI (lsA N ws w)), .int (nI (lsX N ws w)), .int (nI (lsS N ws w)), .int (nI (lsG N w)), .int (nI w), u1, u2]) (st' := [.int (nI (lsS N ws w)), .int (nI ws)]) (M' := mm M f g) (ps := [ob (mm M f g) (ad 0 8) 4, (Value.int (f (ad 0 8) 1)) = .int (nI ws)]) rfl ⟨(hF.o 8), congrArg Value.int hw, trivial⟩ ?_
    refine go_callS rfl (by decide) rfl rfl (by omega) rfl (by decide) (by decide) ?_
    refine s_JM_min0N (by omega) (by omega) ⟨ne_i, ?_⟩
    show Go d 34 0 0 30 [.ref (ad 0 8), .ref (ad 0 2), .int (nI nb), .int (nI (lsA N ws w)), .int (nI (lsX N ws w)), .int (nI (lsS N ws w)), .int (nI (lsG N w)), .int (nI w), u1, u2] [.int (nI (min ws (lsS N ws w)))] (mm M f g) R
    refine go_blk 4 [] (pc' := 36) (vs' := [.ref (ad 0 8), .ref (ad 0 2), .int (nI nb), .int (nI (lsA N ws w)), .int (nI (lsX N ws w)), .int (nI (lsS N ws w)), .int (nI (lsG N w)), .int (nI w), .int (nI (min ws (lsS N ws w))), u2]) (st' := [.int (nI nb), .ref (ad 0 2), .int (nI w)]) (M' := mm M f g) (ps := []) rfl trivial ?_
    refine go_callS rfl (by decide) rfl rfl (by omega) rfl (by decide) (by decide) ?_
    refine s_La_guestsIn (by omega) hF hB hl ⟨ne_i, ?_⟩
    show Go d 34 0 0 39 [.ref (ad 0 8), .ref (ad 0 2), .int (nI nb), .int (nI (lsA N ws w)), .int (nI (lsX N ws w)), .int (nI (lsS N ws w)), .int (nI (lsG N w)), .int (nI w), .int (nI (min ws (lsS N ws w))), u2] [.int (smI (fun b => if f (ad 2 b) 6 = 0 then 0 else if f (ad 2 b) 1 = nI w then f (ad 2 b) 2 else 0) nb)] (mm M f g) R
    rw [hS w hi]
    show Go d 34 0 0 39 [.ref (ad 0 8), .ref (ad 0 2), .int (nI nb), .int (nI (lsA N ws w)), .int (nI (lsX N ws w)), .int (nI (lsS N ws w)), .int (nI (lsG N w)), .int (nI w), .int (nI (min ws (lsS N ws w))), u2] [.int (nI (N w))] (mm M f g) R
    refine go_blk 9 [] (pc' := 52) (vs' := [.ref (ad 0 8), .ref (ad 0 2), .int (nI nb), .int ((nI (lsA N ws w)) + ((nI (N w)) - (nI (min ws (lsS N ws w))))), .int (nI (lsX N ws w)), .int (nI (lsS N ws w)), .int (nI (lsG N w)), .int (nI w), .int (nI (min ws (lsS N ws w))), .int (nI (N w))]) (st' := [.int ((nI (lsA N ws w)) + ((nI (N w)) - (nI (min ws (lsS N ws w))))), .int (nI (lsX N ws w))]) (M' := mm M f g) (ps := []) rfl trivial ?_
    have eA : nI (lsA N ws w) + (nI (N w) - nI (min ws (lsS N ws w))) = nI (lsA N ws (w + 1)) := by rw [nI_asub (by unfold lsA; omega), lsA_s]
    rw [eA]
    show Go d 34 0 0 52 [.ref (ad 0 8), .ref (ad 0 2), .int (nI nb), .int (nI (lsA N ws (w + 1))), .int (nI (lsX N ws w)), .int (nI (lsS N ws w)), .int (nI (lsG N w)), .int (nI w), .int (nI (min ws (lsS N ws w))), .int (nI (N w))] [.int (nI (lsA N ws (w + 1))), .int (nI (lsX N ws w))] (mm M f g) R
    refine go_callS rfl (by decide) rfl rfl (by omega) rfl (by decide) (by decide) ?_
    refine s_JM_max0N (by omega) (by omega) ⟨ne_i, ?_⟩
    show Go d 34 0 0 55 [.ref (ad 0 8), .ref (ad 0 2), .int (nI nb), .int (nI (lsA N ws (w + 1))), .int (nI (lsX N ws w)), .int (nI (lsS N ws w)), .int (nI (lsG N w)), .int (nI w), .int (nI (min ws (lsS N ws w))), .int (nI (N w))] [.int (nI (lsX N ws (w + 1)))] (mm M f g) R
    refine go_blk 11 [] (pc' := 14) (vs' := [.ref (ad 0 8), .ref (ad 0 2), .int (nI nb), .int (nI (lsA N ws (w + 1))), .int (nI (lsX N ws (w + 1))), .int ((nI (lsS N ws w)) + ((nI (lsG N w)) - (nI (min ws (lsS N ws w))))), .int (nI (N w)), .int ((nI w) + 1), .int (nI (min ws (lsS N ws w))), .int (nI (N w))]) (st' := []) (M' := mm M f g) (ps := []) rfl trivial ?_
    have e1 : nI w + 1 = nI (w + 1) := nI_add w 1
    have e5 : nI (lsS N ws w) + (nI (lsG N w) - nI (min ws (lsS N ws w))) = nI (lsS N ws (w + 1)) := by rw [nI_asub (Nat.min_le_right _ _)]; rfl
    rw [e1, e5]
    exact ih _ _

set_option maxRecDepth 100000 in
theorem s_La_fewestSets {d : Nat} {M : Mem} {f : Nat → Nat → Int32} {g : Nat → Nat → Int64} {ad : Nat → Nat → Nat} {R : Option Value → Mem → Prop} {nb ws : Nat} {N : Nat → Nat} (hd : 1 ≤ d) (hF : Fx M ad) (hB : Bs M ad nb) (hl : nb ≤ 60) (hN : ∀ w, N w ≤ 720) (hS : ∀ w, w < 52 → smI (fun b => if f (ad 2 b) 6 = 0 then 0 else if f (ad 2 b) 1 = nI w then f (ad 2 b) 2 else 0) nb = nI (N w)) (hws : ws ≤ 100) (hw : f (ad 0 8) 1 = nI ws) (hR : R (some (.int (if 200 < lsX N ws 52 then (-1) else nI (lsX N ws 52)))) (mm M f g)) : Call d 34 [.ref (ad 0 8), .ref (ad 0 2), .int (nI nb)] (mm M f g) R := by
  have b6 := lsX_b hN ws 52
  show Go d 34 0 0 0 [.ref (ad 0 8), .ref (ad 0 2), .int (nI nb), .retAddr 0, .retAddr 0, .retAddr 0, .retAddr 0, .retAddr 0, .retAddr 0, .retAddr 0] [] (mm M f g) R
  refine go_blk 10 [] (pc' := 14) (vs' := [.ref (ad 0 8), .ref (ad 0 2), .int (nI nb), .int 0, .int 0, .int 0, .int 0, .int 0, .retAddr 0, .retAddr 0]) (st' := []) (M' := mm M f g) (ps := []) rfl trivial ?_
  refine lp_La_fewest hd hF hB hl hN hS hws hw (fun u1 u2 => ?_) 0 (Nat.zero_le _) _ _
  show Go d 34 0 0 77 [.ref (ad 0 8), .ref (ad 0 2), .int (nI nb), .int (nI (lsA N ws 52)), .int (nI (lsX N ws 52)), .int (nI (lsS N ws 52)), .int (nI (lsG N 52)), .int (nI 52), u1, u2] [] (mm M f g) R
  refine go_blk 2 [] (pc' := 82) (vs' := [.ref (ad 0 8), .ref (ad 0 2), .int (nI nb), .int (nI (lsA N ws 52)), .int (nI (lsX N ws 52)), .int (nI (lsS N ws 52)), .int (nI (lsG N 52)), .int (nI 52), u1, u2]) (st' := [.int 200, .int (nI (lsX N ws 52))]) (M' := mm M f g) (ps := []) rfl trivial ?_
  refine go_icmp rfl (fun (c1 : (nI (lsX N ws 52)) ≤ 200) => ?_) (fun (c1 : ¬ ((nI (lsX N ws 52)) ≤ 200)) => ?_)
  · -- (nI (lsX N ws 52)) ≤ 200
    refine go_blk 1 [] (pc' := 91) (vs' := [.ref (ad 0 8), .ref (ad 0 2), .int (nI nb), .int (nI (lsA N ws 52)), .int (nI (lsX N ws 52)), .int (nI (lsS N ws 52)), .int (nI (lsG N 52)), .int (nI 52), u1, u2]) (st' := [.int (nI (lsX N ws 52))]) (M' := mm M f g) (ps := []) rfl trivial ?_
    refine go_iret rfl rfl ?_
    rw [if_neg (fun z => absurd ((nI_lts (a := 200) (b := lsX N ws 52) (by decide) (by omega)).mpr z) (show ¬ ((200 : Int32) < nI (lsX N ws 52)) from Int32.not_lt.mpr (by assumption)))] at hR; exact hR
  · -- ¬ ((nI (lsX N ws 52)) ≤ 200)
    refine go_blk 2 [] (pc' := 91) (vs' := [.ref (ad 0 8), .ref (ad 0 2), .int (nI nb), .int (nI (lsA N ws 52)), .int (nI (lsX N ws 52)), .int (nI (lsS N ws 52)), .int (nI (lsG N 52)), .int (nI 52), u1, u2]) (st' := [.int (-1)]) (M' := mm M f g) (ps := []) rfl trivial ?_
    refine go_iret rfl rfl ?_
    rw [if_pos ((nI_lts (a := 200) (b := lsX N ws 52) (by decide) (by omega)).mp (show (200 : Int32) < nI (lsX N ws 52) from Int32.not_le.mp (by assumption)))] at hR; exact hR

set_option maxRecDepth 100000 in
theorem lp_Mo_isEnoughB {d : Nat} {M : Mem} {f : Nat → Nat → Int32} {g : Nat → Nat → Int64} {ad : Nat → Nat → Nat} {R : Option Value → Mem → Prop} {nb w : Nat} {y0 y1 y2 y3 y5 : Int32} (hd : 1 ≤ d) (hM : Mx M ad) (hn : f (ad 10 0) 18 = nI nb) (hl : nb ≤ 60) (hx : Go d 233 0 0 96 [.ref (ad 10 0), .int y0, .int y1, .int y2, .int y3, .int (nI w), .int y5, .int (smI (fun b => if f (ad 9 15) b = 0 then 0 else if f (ad 9 7) b = nI w then f (ad 9 8) b else 0) nb), .int (nI nb)] [] (mm M f g) R) : ∀ i, i ≤ nb → Go d 233 0 0 43 [.ref (ad 10 0), .int y0, .int y1, .int y2, .int y3, .int (nI w), .int y5, .int (smI (fun b => if f (ad 9 15) b = 0 then 0 else if f (ad 9 7) b = nI w then f (ad 9 8) b else 0) i), .int (nI i)] [] (mm M f g) R := by
  refine up_ind (P := fun i => Go d 233 0 0 43 [.ref (ad 10 0), .int y0, .int y1, .int y2, .int y3, .int (nI w), .int y5, .int (smI (fun b => if f (ad 9 15) b = 0 then 0 else if f (ad 9 7) b = nI w then f (ad 9 8) b else 0) i), .int (nI i)] [] (mm M f g) R) nb ?_ (fun i hi ih => ?_)
  ·
    skip
    show Go d 233 0 0 43 [.ref (ad 10 0), .int y0, .int y1, .int y2, .int y3, .int (nI w), .int y5, .int (smI (fun b => if f (ad 9 15) b = 0 then 0 else if f (ad 9 7) b = nI w then f (ad 9 8) b else 0) nb), .int (nI nb)] [] (mm M f g) R
    refine go_blk 3 [some (.int (nI nb))] (pc' := 49) (vs' := [.ref (ad 10 0), .int y0, .int y1, .int y2, .int y3, .int (nI w), .int y5, .int (smI (fun b => if f (ad 9 15) b = 0 then 0 else if f (ad 9 7) b = nI w then f (ad 9 8) b else 0) nb), .int (nI nb)]) (st' := [.int (nI nb), .int (nI nb)]) (M' := mm M f g) (ps := [ob (mm M f g) (ad 10 0) 12, (Value.int (f (ad 10 0) 18)) = .int (nI nb)]) rfl ⟨hM.1, congrArg Value.int hn, trivial⟩ ?_
    refine go_icmp rfl (fun _ => ?_) (fun (z : ¬ (nI nb ≤ (nI nb))) => absurd (show nI nb ≤ (nI nb) from Int32.le_refl _) z)
    exact hx
  ·
    skip
    show Go d 233 0 0 43 [.ref (ad 10 0), .int y0, .int y1, .int y2, .int y3, .int (nI w), .int y5, .int (smI (fun b => if f (ad 9 15) b = 0 then 0 else if f (ad 9 7) b = nI w then f (ad 9 8) b else 0) i), .int (nI i)] [] (mm M f g) R
    refine go_blk 3 [some (.int (nI nb))] (pc' := 49) (vs' := [.ref (ad 10 0), .int y0, .int y1, .int y2, .int y3, .int (nI w), .int y5, .int (smI (fun b => if f (ad 9 15) b = 0 then 0 else if f (ad 9 7) b = nI w then f (ad 9 8) b else 0) i), .int (nI i)]) (st' := [.int (nI nb), .int (nI i)]) (M' := mm M f g) (ps := [ob (mm M f g) (ad 10 0) 12, (Value.int (f (ad 10 0) 18)) = .int (nI nb)]) rfl ⟨hM.1, congrArg Value.int hn, trivial⟩ ?_
    refine go_icmp rfl (fun (z : nI nb ≤ (nI i)) => absurd z (show ¬ (nI nb ≤ (nI i)) from (Int32.not_le.mpr ((nI_lts (a := i) (b := nb) (by omega) (by omega)).mpr hi)))) (fun _ => ?_)
    refine go_blk 5 [some (.ref (ad 9 15)), some (.int (f (ad 9 15) i))] (pc' := 61) (vs' := [.ref (ad 10 0), .int y0, .int y1, .int y2, .int y3, .int (nI w), .int y5, .int (smI (fun b => if f (ad 9 15) b = 0 then 0 else if f (ad 9 7) b = nI w then f (ad 9 8) b else 0) i), .int (nI i)]) (st' := [.int (f (ad 9 15) i), .int (smI (fun b => if f (ad 9 15) b = 0 then 0 else if f (ad 9 7) b = nI w then f (ad 9 8) b else 0) i)]) (M' := mm M f g) (ps := [ob (mm M f g) (ad 10 0) 12, mR (mm M f g) (ad 10 0) 15 = some (ad 9 15), va_rf (some (ad 9 15)) = .ref (ad 9 15), ob (mm M f g) (ad 9 15) 13, 13 = 13 ∨ 13 = 14, vp_in (nI i) (mN (mm M f g) (ad 9 15)), (Value.int (f (ad 9 15) ((nI i).toNatClampNeg))) = .int (f (ad 9 15) i)]) rfl ⟨hM.1, (hM.r 15 13 60), rfl, (hM.o 15 13 60), (by decide), (vpi (hM.n 15 13 60) (by omega)), congrArg (fun z => Value.int (f (ad 9 15) z)) (nI_clamp (by omega)), trivial⟩ ?_
    refine go_if rfl (fun (c1 : (f (ad 9 15) i) = 0) => ?_) (fun (c1 : ¬ ((f (ad 9 15) i) = 0)) => ?_)
    · -- (f (ad 9 15) i) = 0
      refine go_blk 5 [] (pc' := 43) (vs' := [.ref (ad 10 0), .int y0, .int y1, .int y2, .int y3, .int (nI w), .int y5, .int ((smI (fun b => if f (ad 9 15) b = 0 then 0 else if f (ad 9 7) b = nI w then f (ad 9 8) b else 0) i) + 0), .int ((nI i) + 1)]) (st' := []) (M' := mm M f g) (ps := []) rfl trivial ?_
      have e1 : nI i + 1 = nI (i + 1) := nI_add i 1
      have e9 : ((smI (fun b => if f (ad 9 15) b = 0 then 0 else if f (ad 9 7) b = nI w then f (ad 9 8) b else 0) i) + 0) = smI (fun b => if f (ad 9 15) b = 0 then 0 else if f (ad 9 7) b = nI w then f (ad 9 8) b else 0) (i + 1) := (by first | rfl | (rw [smI]; clear ih hx; grind))
      rw [e1, e9]
      exact ih
    · -- ¬ ((f (ad 9 15) i) = 0)
      refine go_blk 5 [some (.ref (ad 9 7)), some (.int (f (ad 9 7) i))] (pc' := 73) (vs' := [.ref (ad 10 0), .int y0, .int y1, .int y2, .int y3, .int (nI w), .int y5, .int (smI (fun b => if f (ad 9 15) b = 0 then 0 else if f (ad 9 7) b = nI w then f (ad 9 8) b else 0) i), .int (nI i)]) (st' := [.int (nI w), .int (f (ad 9 7) i), .int (smI (fun b => if f (ad 9 15) b = 0 then 0 else if f (ad 9 7) b = nI w then f (ad 9 8) b else 0) i)]) (M' := mm M f g) (ps := [ob (mm M f g) (ad 10 0) 12, mR (mm M f g) (ad 10 0) 7 = some (ad 9 7), va_rf (some (ad 9 7)) = .ref (ad 9 7), ob (mm M f g) (ad 9 7) 15, vp_in (nI i) (mN (mm M f g) (ad 9 7)), (Value.int (f (ad 9 7) ((nI i).toNatClampNeg))) = .int (f (ad 9 7) i)]) rfl ⟨hM.1, (hM.r 7 15 60), rfl, (hM.o 7 15 60), (vpi (hM.n 7 15 60) (by omega)), congrArg (fun z => Value.int (f (ad 9 7) z)) (nI_clamp (by omega)), trivial⟩ ?_
      refine go_icmp rfl (fun (c2 : ¬ (f (ad 9 7) i) = nI w) => ?_) (fun (c2 : ¬ (¬ (f (ad 9 7) i) = nI w)) => ?_)
      · -- ¬ (f (ad 9 7) i) = nI w
        refine go_blk 5 [] (pc' := 43) (vs' := [.ref (ad 10 0), .int y0, .int y1, .int y2, .int y3, .int (nI w), .int y5, .int ((smI (fun b => if f (ad 9 15) b = 0 then 0 else if f (ad 9 7) b = nI w then f (ad 9 8) b else 0) i) + 0), .int ((nI i) + 1)]) (st' := []) (M' := mm M f g) (ps := []) rfl trivial ?_
        have e1 : nI i + 1 = nI (i + 1) := nI_add i 1
        have e9 : ((smI (fun b => if f (ad 9 15) b = 0 then 0 else if f (ad 9 7) b = nI w then f (ad 9 8) b else 0) i) + 0) = smI (fun b => if f (ad 9 15) b = 0 then 0 else if f (ad 9 7) b = nI w then f (ad 9 8) b else 0) (i + 1) := (by first | rfl | (rw [smI]; clear ih hx; grind))
        rw [e1, e9]
        exact ih
      · -- ¬ (¬ (f (ad 9 7) i) = nI w)
        refine go_blk 9 [some (.ref (ad 9 8)), some (.int (f (ad 9 8) i))] (pc' := 43) (vs' := [.ref (ad 10 0), .int y0, .int y1, .int y2, .int y3, .int (nI w), .int y5, .int ((smI (fun b => if f (ad 9 15) b = 0 then 0 else if f (ad 9 7) b = nI w then f (ad 9 8) b else 0) i) + (f (ad 9 8) i)), .int ((nI i) + 1)]) (st' := []) (M' := mm M f g) (ps := [ob (mm M f g) (ad 10 0) 12, mR (mm M f g) (ad 10 0) 8 = some (ad 9 8), va_rf (some (ad 9 8)) = .ref (ad 9 8), ob (mm M f g) (ad 9 8) 15, vp_in (nI i) (mN (mm M f g) (ad 9 8)), (Value.int (f (ad 9 8) ((nI i).toNatClampNeg))) = .int (f (ad 9 8) i)]) rfl ⟨hM.1, (hM.r 8 15 60), rfl, (hM.o 8 15 60), (vpi (hM.n 8 15 60) (by omega)), congrArg (fun z => Value.int (f (ad 9 8) z)) (nI_clamp (by omega)), trivial⟩ ?_
        have e1 : nI i + 1 = nI (i + 1) := nI_add i 1
        have e9 : ((smI (fun b => if f (ad 9 15) b = 0 then 0 else if f (ad 9 7) b = nI w then f (ad 9 8) b else 0) i) + (f (ad 9 8) i)) = smI (fun b => if f (ad 9 15) b = 0 then 0 else if f (ad 9 7) b = nI w then f (ad 9 8) b else 0) (i + 1) := (by first | rfl | (rw [smI]; clear ih hx; grind))
        rw [e1, e9]
        exact ih

set_option maxRecDepth 100000 in
theorem lp_Mo_isEnough {d : Nat} {M : Mem} {f : Nat → Nat → Int32} {g : Nat → Nat → Int64} {ad : Nat → Nat → Nat} {R : Option Value → Mem → Prop} {nb ws m : Nat} {N : Nat → Nat} (hd : 1 ≤ d) (hM : Mx M ad) (hn : f (ad 10 0) 18 = nI nb) (hl : nb ≤ 60) (hN : ∀ w, N w ≤ 720) (hS : ∀ w, w < 52 → smI (fun b => if f (ad 9 15) b = 0 then 0 else if f (ad 9 7) b = nI w then f (ad 9 8) b else 0) nb = nI (N w)) (hws : ws ≤ 100) (hw : f (ad 10 0) 63 = nI ws) (hm : m ≤ 200) (h1 : lsX N ws 52 ≤ m → R (some (.int 1)) (mm M f g)) (h0 : ¬ lsX N ws 52 ≤ m → R (some (.int 0)) (mm M f g)) : ∀ w, w ≤ 52 → lsX N ws w ≤ m → ∀ u1 u2 u3 : Value, Go d 233 0 0 10 [.ref (ad 10 0), .int (nI m), .int (nI (m - lsA N ws w)), .int (nI (lsS N ws w)), .int (nI (lsG N w)), .int (nI w), u1, u2, u3] [] (mm M f g) R := by
  refine up_ind (P := fun w => lsX N ws w ≤ m → ∀ u1 u2 u3 : Value, Go d 233 0 0 10 [.ref (ad 10 0), .int (nI m), .int (nI (m - lsA N ws w)), .int (nI (lsS N ws w)), .int (nI (lsG N w)), .int (nI w), u1, u2, u3] [] (mm M f g) R) 52 ?_ (fun w hi ih => ?_)
  ·
    intro hp u1 u2 u3
    show Go d 233 0 0 10 [.ref (ad 10 0), .int (nI m), .int (nI (m - lsA N ws 52)), .int (nI (lsS N ws 52)), .int (nI (lsG N 52)), .int (nI 52), u1, u2, u3] [] (mm M f g) R
    refine go_blk 2 [] (pc' := 14) (vs' := [.ref (ad 10 0), .int (nI m), .int (nI (m - lsA N ws 52)), .int (nI (lsS N ws 52)), .int (nI (lsG N 52)), .int (nI 52), u1, u2, u3]) (st' := [.int 52, .int (nI 52)]) (M' := mm M f g) (ps := []) rfl trivial ?_
    refine go_icmp rfl (fun _ => ?_) (fun (z : ¬ (52 ≤ (nI 52))) => absurd (show 52 ≤ (nI 52) from Int32.le_refl _) z)
    refine go_blk 1 [] (pc' := 125) (vs' := [.ref (ad 10 0), .int (nI m), .int (nI (m - lsA N ws 52)), .int (nI (lsS N ws 52)), .int (nI (lsG N 52)), .int (nI 52), u1, u2, u3]) (st' := [.int 1]) (M' := mm M f g) (ps := []) rfl trivial ?_
    refine go_zret rfl rfl (Or.inr rfl) ?_
    exact h1 hp
  ·
    intro hp u1 u2 u3
    have b1 := lsS_b hN ws w
    have b2 := lsG_b hN w
    have b3 := lsX_b hN ws w
    have b4 := hN w
    have b7 := lsA_X N ws w
    have b8 := lsA_s N ws w
    have b5 := lsA_X N ws (w + 1)
    have b9 : min ws (lsS N ws w) ≤ lsA N ws w := by unfold lsA; omega
    show Go d 233 0 0 10 [.ref (ad 10 0), .int (nI m), .int (nI (m - lsA N ws w)), .int (nI (lsS N ws w)), .int (nI (lsG N w)), .int (nI w), u1, u2, u3] [] (mm M f g) R
    refine go_blk 2 [] (pc' := 14) (vs' := [.ref (ad 10 0), .int (nI m), .int (nI (m - lsA N ws w)), .int (nI (lsS N ws w)), .int (nI (lsG N w)), .int (nI w), u1, u2, u3]) (st' := [.int 52, .int (nI w)]) (M' := mm M f g) (ps := []) rfl trivial ?_
    refine go_icmp rfl (fun (z : 52 ≤ (nI w)) => absurd z (show ¬ (52 ≤ (nI w)) from (Int32.not_le.mpr ((nI_lts (a := w) (b := 52) (by omega) (by omega)).mpr hi)))) (fun _ => ?_)
    refine go_blk 3 [some (.int (nI ws))] (pc' := 22) (vs' := [.ref (ad 10 0), .int (nI m), .int (nI (m - lsA N ws w)), .int (nI (lsS N ws w)), .int (nI (lsG N w)), .int (nI w), u1, u2, u3]) (st' := [.int (nI (lsS N ws w)), .int (nI ws)]) (M' := mm M f g) (ps := [ob (mm M f g) (ad 10 0) 12, (Value.int (f (ad 10 0) 63)) = .int (nI ws)]) rfl ⟨hM.1, congrArg Value.int hw, trivial⟩ ?_
    refine go_callS rfl (by decide) rfl rfl (by omega) rfl (by decide) (by decide) ?_
    refine s_JM_min0N (by omega) (by omega) ⟨ne_i, ?_⟩
    show Go d 233 0 0 25 [.ref (ad 10 0), .int (nI m), .int (nI (m - lsA N ws w)), .int (nI (lsS N ws w)), .int (nI (lsG N w)), .int (nI w), u1, u2, u3] [.int (nI (min ws (lsS N ws w)))] (mm M f g) R
    refine go_blk 13 [] (pc' := 43) (vs' := [.ref (ad 10 0), .int (nI m), .int ((nI (m - lsA N ws w)) + (nI (min ws (lsS N ws w)))), .int ((nI (lsS N ws w)) - (nI (min ws (lsS N ws w)))), .int (nI (lsG N w)), .int (nI w), .int (nI (min ws (lsS N ws w))), .int 0, .int 0]) (st' := []) (M' := mm M f g) (ps := []) rfl trivial ?_
    have eS : nI (lsS N ws w) - nI (min ws (lsS N ws w)) = nI (lsS N ws w - min ws (lsS N ws w)) := pk_sub (Nat.min_le_right _ _)
    have eB : nI (m - lsA N ws w) + nI (min ws (lsS N ws w)) = nI (m - lsA N ws w + min ws (lsS N ws w)) := nI_add _ _
    rw [eS, eB]
    refine lp_Mo_isEnoughB hd hM hn hl ?_ 0 (Nat.zero_le _)
    rw [hS w hi]
    show Go d 233 0 0 96 [.ref (ad 10 0), .int (nI m), .int (nI (m - lsA N ws w + min ws (lsS N ws w))), .int (nI (lsS N ws w - min ws (lsS N ws w))), .int (nI (lsG N w)), .int (nI w), .int (nI (min ws (lsS N ws w))), .int (nI (N w)), .int (nI nb)] [] (mm M f g) R
    refine go_blk 2 [] (pc' := 99) (vs' := [.ref (ad 10 0), .int (nI m), .int (nI (m - lsA N ws w + min ws (lsS N ws w))), .int (nI (lsS N ws w - min ws (lsS N ws w))), .int (nI (lsG N w)), .int (nI w), .int (nI (min ws (lsS N ws w))), .int (nI (N w)), .int (nI nb)]) (st' := [.int (nI (m - lsA N ws w + min ws (lsS N ws w))), .int (nI (N w))]) (M' := mm M f g) (ps := []) rfl trivial ?_
    refine go_icmp rfl (fun (c1 : (nI (N w)) ≤ nI (m - lsA N ws w + min ws (lsS N ws w))) => ?_) (fun (c1 : ¬ ((nI (N w)) ≤ nI (m - lsA N ws w + min ws (lsS N ws w)))) => ?_)
    · -- (nI (N w)) ≤ nI (m - lsA N ws w + min ws (lsS N ws w))
      refine go_blk 12 [] (pc' := 10) (vs' := [.ref (ad 10 0), .int (nI m), .int ((nI (m - lsA N ws w + min ws (lsS N ws w))) - (nI (N w))), .int ((nI (lsS N ws w - min ws (lsS N ws w))) + (nI (lsG N w))), .int (nI (N w)), .int ((nI w) + 1), .int (nI (min ws (lsS N ws w))), .int (nI (N w)), .int (nI nb)]) (st' := []) (M' := mm M f g) (ps := []) rfl trivial ?_
      have hle : N w ≤ m - lsA N ws w + min ws (lsS N ws w) := (nI_les (by omega) (by omega)).mp (by grind)
      have e1 : nI w + 1 = nI (w + 1) := nI_add w 1
      have e2 : nI (m - lsA N ws w + min ws (lsS N ws w)) - nI (N w) = nI (m - lsA N ws (w + 1)) := by
        rw [pk_sub hle]
        congr 1
        omega
      have e3 : nI (lsS N ws w - min ws (lsS N ws w)) + nI (lsG N w) = nI (lsS N ws (w + 1)) := nI_add _ _
      rw [e1, e2, e3]
      exact ih (by rw [lsX]; omega) _ _ _
    · -- ¬ ((nI (N w)) ≤ nI (m - lsA N ws w + min ws (lsS N ws w)))
      refine go_blk 1 [] (pc' := 103) (vs' := [.ref (ad 10 0), .int (nI m), .int (nI (m - lsA N ws w + min ws (lsS N ws w))), .int (nI (lsS N ws w - min ws (lsS N ws w))), .int (nI (lsG N w)), .int (nI w), .int (nI (min ws (lsS N ws w))), .int (nI (N w)), .int (nI nb)]) (st' := [.int 0]) (M' := mm M f g) (ps := []) rfl trivial ?_
      refine go_zret rfl rfl (Or.inl rfl) ?_
      have hgt : m - lsA N ws w + min ws (lsS N ws w) < N w := (nI_lts (by omega) (by omega)).mp (by grind)
      exact h0 (fun z => by have := lsX_m N ws (show w + 1 ≤ 52 by omega); omega)

set_option maxRecDepth 100000 in
theorem s_Mo_isEnough {d : Nat} {M : Mem} {f : Nat → Nat → Int32} {g : Nat → Nat → Int64} {ad : Nat → Nat → Nat} {R : Option Value → Mem → Prop} {nb ws m : Nat} {N : Nat → Nat} (hd : 1 ≤ d) (hM : Mx M ad) (hn : f (ad 10 0) 18 = nI nb) (hl : nb ≤ 60) (hN : ∀ w, N w ≤ 720) (hS : ∀ w, w < 52 → smI (fun b => if f (ad 9 15) b = 0 then 0 else if f (ad 9 7) b = nI w then f (ad 9 8) b else 0) nb = nI (N w)) (hws : ws ≤ 100) (hw : f (ad 10 0) 63 = nI ws) (hm : m ≤ 200) (h1 : lsX N ws 52 ≤ m → R (some (.int 1)) (mm M f g)) (h0 : ¬ lsX N ws 52 ≤ m → R (some (.int 0)) (mm M f g)) : Call d 233 [.ref (ad 10 0), .int (nI m)] (mm M f g) R := by
  show Go d 233 0 0 0 [.ref (ad 10 0), .int (nI m), .retAddr 0, .retAddr 0, .retAddr 0, .retAddr 0, .retAddr 0, .retAddr 0, .retAddr 0] [] (mm M f g) R
  refine go_blk 8 [] (pc' := 10) (vs' := [.ref (ad 10 0), .int (nI m), .int (nI m), .int 0, .int 0, .int 0, .retAddr 0, .retAddr 0, .retAddr 0]) (st' := []) (M' := mm M f g) (ps := []) rfl trivial ?_
  exact lp_Mo_isEnough hd hM hn hl hN hS hws hw hm h1 h0 0 (Nat.zero_le _) (Nat.zero_le _) _ _ _

set_option maxRecDepth 100000 in
theorem lp_Mo_fewest {d : Nat} {M : Mem} {f : Nat → Nat → Int32} {g : Nat → Nat → Int64} {ad : Nat → Nat → Nat} {R : Option Value → Mem → Prop} {nb ws : Nat} {N : Nat → Nat} (hd : 2 ≤ d) (hM : Mx M ad) (hn : f (ad 10 0) 18 = nI nb) (hl : nb ≤ 60) (hN : ∀ w, N w ≤ 720) (hS : ∀ w, w < 52 → smI (fun b => if f (ad 9 15) b = 0 then 0 else if f (ad 9 7) b = nI w then f (ad 9 8) b else 0) nb = nI (N w)) (hws : ws ≤ 100) (hw : f (ad 10 0) 63 = nI ws) (hR : R (some (.int (if 200 < lsX N ws 52 then (-1) else nI (lsX N ws 52)))) (mm M f g)) : ∀ m, m ≤ 201 → m ≤ lsX N ws 52 → Go d 234 0 0 7 [.ref (ad 10 0), .int (nI m)] [] (mm M f g) R := by
  have b6 := lsX_b hN ws 52
  refine up_ind (P := fun m => m ≤ lsX N ws 52 → Go d 234 0 0 7 [.ref (ad 10 0), .int (nI m)] [] (mm M f g) R) 201 ?_ (fun m hi ih => ?_)
  ·
    intro hp
    show Go d 234 0 0 7 [.ref (ad 10 0), .int (nI 201)] [] (mm M f g) R
    refine go_blk 2 [] (pc' := 11) (vs' := [.ref (ad 10 0), .int (nI 201)]) (st' := [.int 200, .int (nI 201)]) (M' := mm M f g) (ps := []) rfl trivial ?_
    refine go_icmp rfl (fun _ => ?_) (fun (z : ¬ (200 < (nI 201))) => absurd (show 200 < (nI 201) from (by decide)) z)
    refine go_blk 1 [] (pc' := 31) (vs' := [.ref (ad 10 0), .int (nI 201)]) (st' := [.int (-1)]) (M' := mm M f g) (ps := []) rfl trivial ?_
    refine go_iret rfl rfl ?_
    rw [if_pos (by omega)] at hR; exact hR
  ·
    intro hp
    show Go d 234 0 0 7 [.ref (ad 10 0), .int (nI m)] [] (mm M f g) R
    refine go_blk 2 [] (pc' := 11) (vs' := [.ref (ad 10 0), .int (nI m)]) (st' := [.int 200, .int (nI m)]) (M' := mm M f g) (ps := []) rfl trivial ?_
    refine go_icmp rfl (fun (z : 200 < (nI m)) => absurd z (show ¬ (200 < (nI m)) from (Int32.not_lt.mpr ((nI_les (a := m) (b := 200) (by omega) (by omega)).mpr (by omega))))) (fun _ => ?_)
    refine go_blk 2 [] (pc' := 16) (vs' := [.ref (ad 10 0), .int (nI m)]) (st' := [.int (nI m), .ref (ad 10 0)]) (M' := mm M f g) (ps := []) rfl trivial ?_
    refine go_callV rfl rfl rfl (by omega) rfl (by decide) (by decide) hM.1 ?_
    refine s_Mo_isEnough (by omega) hM hn hl hN hS hws hw (by omega) (fun c1 => ⟨ne_i, ?_⟩) (fun c1 => ⟨ne_i, ?_⟩)
    · -- ('i', '1')
      show Go d 234 0 0 19 [.ref (ad 10 0), .int (nI m)] [.int 1] (mm M f g) R
      refine go_if rfl (fun (z : (1 : Int32) = 0) => absurd z (show ¬ ((1 : Int32) = 0) from (by decide))) (fun _ => ?_)
      refine go_blk 1 [] (pc' := 23) (vs' := [.ref (ad 10 0), .int (nI m)]) (st' := [.int (nI m)]) (M' := mm M f g) (ps := []) rfl trivial ?_
      refine go_iret rfl rfl ?_
      have e : lsX N ws 52 = m := by omega
      rw [if_neg (by omega), e] at hR; exact hR
    · -- ('i', '0')
      show Go d 234 0 0 19 [.ref (ad 10 0), .int (nI m)] [.int 0] (mm M f g) R
      refine go_if rfl (fun _ => ?_) (fun (z : ¬ ((0 : Int32) = 0)) => absurd (show (0 : Int32) = 0 from (by decide)) z)
      refine go_blk 2 [] (pc' := 7) (vs' := [.ref (ad 10 0), .int ((nI m) + 1)]) (st' := []) (M' := mm M f g) (ps := []) rfl trivial ?_
      have e1 : nI m + 1 = nI (m + 1) := nI_add m 1
      rw [e1]
      exact ih (by omega)

set_option maxHeartbeats 20000000 in
set_option maxRecDepth 100000 in
theorem op25 {x o u : Nat} {sc : Nat × Nat × (Nat → Int32)} : Op25 (II x o u sc) x o := by
  intro M hI R K
  obtain ⟨hsc, ad, nc, nb, nt, wk, nw, nx, nl, ne, nk, kd, op, rfl, rfl, rfl, hW⟩ := hI
  obtain ⟨hi, ⟨hF, hM, hC, hB, hT, hX⟩, ⟨iS, iC, iB, iR, iL, iT⟩, ⟨jO, jR, jB, jX, jL⟩, kO, kC, kD, kP, kX⟩ := id hW
  obtain ⟨⟨nc1, nc2, nc3⟩, ⟨nb1, nb2, nb3⟩, ⟨nt1, nt2, nt3⟩, ⟨wk1, wk2, wk3⟩, ⟨nw1, nw2, nw3⟩, ⟨op1, op2, op3⟩, ncm, ncm1, ncm2, ncm3⟩ := id iS
  simp only [vw] at nc1 nc2 nb1 nb2 nt1 nt2 wk1 wk2 nw1 nw2 op1 op2 ncm2 ncm3
  obtain ⟨nn, nn3, nn1, nn2, nnb⟩ := jX.2.1
  simp only [vw] at nn1 nn2
  have nl3 := jL.1.2.2.1
  have nx3 := jX.1.2.2
  have nk3 := jB.1.2.2.2.2.1
  have ne3 := jB.1.2.2.2.2.2
  obtain ⟨ws, -, ws2, ws3⟩ := iL.2.1
  have hNx : ∀ w : Nat, ∃ m, m ≤ 720 ∧ (smI (fun b => if mI M (ad 2 b) 6 = 0 then 0 else if mI M (ad 2 b) 1 = nI w then mI M (ad 2 b) 2 else 0) nb) = nI m := by
    intro w
    obtain ⟨m, m1, m2⟩ := smI_nat (t := fun b => if mI M (ad 2 b) 6 = 0 then 0 else if mI M (ad 2 b) 1 = nI w then mI M (ad 2 b) 2 else 0) (c := 12) (n := nb) (fun b hb => by
      obtain ⟨k, k1, k2, k3⟩ := (iB.1 b hb).2.1.2.1
      have q := (iB.1 b hb).1.2.2.1
      simp only [vw] at q k3
      by_cases c1 : mI M (ad 2 b) 6 = 0
      · exact ⟨0, by omega, by simp [c1]; rfl⟩
      · by_cases c2 : mI M (ad 2 b) 1 = nI w
        · exact ⟨k, k2, by simp [c1, c2, q, k3]⟩
        · exact ⟨0, by omega, by simp [c1, c2]; rfl⟩)
    exact ⟨m, by omega, m2⟩
  obtain ⟨N, hN⟩ := Classical.axiomOfChoice hNx
  have hw1 : mI M (ad 0 8) 1 = nI ws := iL.1.2.1.trans ws3
  have hS2 : ∀ w, w < 52 → smI (fun b => if (up2 (mI M) (ad 10 0) 0 0) (ad 9 15) b = 0 then 0 else if (up2 (mI M) (ad 10 0) 0 0) (ad 9 7) b = nI w then (up2 (mI M) (ad 10 0) 0 0) (ad 9 8) b else 0) nb = nI (N w) := by
    intro w hw
    rw [← (hN w).2]
    refine smI_congr (fun b hb => ?_)
    have q := (iB.1 b hb).1
    simp only [vw] at q
    simp [up2_ad hi, q]
  show Go 1311 141 0 0 0 [.ref (ad 0 0)] [] M R
  refine go_blk 6 [some (.ref (ad 0 8)), some (.ref (ad 0 2)), some (.int (nI nb))] (pc' := 12) (vs' := [.ref (ad 0 0)]) (st' := [.int (nI nb), .ref (ad 0 2), .ref (ad 0 8)]) (M' := M) (ps := [ob M (ad 0 0) 11, mR M (ad 0 0) 15 = some (ad 0 8), va_rf (some (ad 0 8)) = .ref (ad 0 8), ob M (ad 0 0) 11, mR M (ad 0 0) 2 = some (ad 0 2), va_rf (some (ad 0 2)) = .ref (ad 0 2), ob M (ad 0 0) 11, Value.int (mI M (ad 0 0) 3) = .int (nI nb)]) rfl ⟨hF.o 0, hF.r 0 15 8, rfl, hF.o 0, hF.r 0 2 2, rfl, hF.o 0, congrArg Value.int nb1, trivial⟩ ?_
  refine go_callV rfl rfl rfl (by omega) rfl (by decide) (by decide) (hF.o 8) ?_
  refine s_La_fewestSets (M := M) (f := mI M) (g := mJ M) (by omega) hF hB nb3 (fun w => (hN w).1) (fun w _ => (hN w).2) ws2 hw1 ⟨by split <;> exact ne_i, ?_⟩
  show Go 1311 141 0 0 15 [.ref (ad 0 0)] [.int (if 200 < lsX N ws 52 then (-1) else nI (lsX N ws 52))] (mm M (mI M) (mJ M)) R
  refine go_iret rfl rfl ?_
  refine K _ _ hM.1 rfl (fun R2 h2 => ?_)
  show Go 1311 234 0 0 0 [.ref (ad 10 0), .retAddr 0] [] M R2
  refine go_blk 5 [] (pc' := 7) (vs' := [.ref (ad 10 0), .int 0]) (st' := []) (M' := mm M (up2 (mI M) (ad 10 0) 0 0) (mJ M)) (ps := [ob M (ad 10 0) 12]) rfl ⟨hM.1, trivial⟩ ?_
  refine lp_Mo_fewest (f := up2 (mI M) (ad 10 0) 0 0) (ws := ws) (N := N) (by omega) hM (by simpa [up2_ad hi] using nb2) nb3 (fun w => (hN w).1) hS2 ws2 (by simpa [up2_ad hi] using (show mI M (ad 10 0) 63 = nI ws from ws3)) ?_ 0 (by omega) (Nat.zero_le _)
  exact h2 _ ⟨hsc, ad, nc, nb, nt, wk, nw, nx, nl, ne, nk, kd, op, rfl, rfl, rfl, hW.thr⟩

