/-! texts: what the class makes of a text -/
def lvC (f : Nat → Nat → Int32) (ad : Nat → Nat → Nat) (b : Nat) (x : Int32) : Int64 := if x = 99 then (f (ad 6 b) 6).toInt64 else if x = 100 then (if f (ad 2 b) 3 = 0 then 0 else 1) else if x = 103 then (f (ad 2 b) 2).toInt64 else if x = 108 then (ltV (f (ad 6 b) 8) (f (ad 6 b) 3)).toInt64 else if x = 114 then (f (ad 6 b) 10).toInt64 else (f (ad 6 b) 7 / 60).toInt64
def TC (M : Mem) (ad : Nat → Nat → Nat) (q L : Nat) (t : Nat → Int32) (lv : Int32 → Int64) (b : Nat) (f : Nat → Nat → Int32) : Prop :=
  (Xq M ad q ∧ Inj ad ∧ L ≤ 120 ∧ ob M (ad 6 b) 3 ∧ mR M (ad 6 b) 0 = some (ad 2 b) ∧ ob M (ad 2 b) 0) ∧ f (ad 7 q) 1 = nI L ∧ (∀ k, k < L → f (ad 8 q) k = t k ∧ ¬ t k = 0) ∧ ∀ x, isLt x = true → lv x = lvC f ad b x
def EvC (id : Nat) (M : Mem) (g : Nat → Nat → Int64) (ad : Nat → Nat → Nat) (q L b : Nat) (f : Nat → Nat → Int32) (dp d : Nat) (P : Nat → PR) : Prop := ∀ (R : Option Value → Mem → Prop) (i : Nat) (v : Int64) (k : Nat), i ≤ L → P i = .inr (v, k) → R (some (.long v)) (mm M (up2 f (ad 7 q) 8 (nI k)) g) → Call d id [.ref (ad 7 q), .ref (ad 6 b), .int (nI dp)] (mm M (up2 f (ad 7 q) 8 (nI i)) g) R

set_option maxRecDepth 100000 in
theorem lp_Tx_sign {d : Nat} {M : Mem} {f : Nat → Nat → Int32} {g : Nat → Nat → Int64} {ad : Nat → Nat → Nat} {q L b : Nat} {t : Nat → Int32} {lv : Int32 → Int64} {R : Option Value → Mem → Prop} {i0 : Nat} (hT : TC M ad q L t lv b f) : ∀ (m i : Nat), i + m = L → (sk t L i < L → R (some (.int (t (sk t L i)))) (mm M (up2 f (ad 7 q) 8 (nI (sk t L i))) g)) → (¬ sk t L i < L → R (some (.int 0)) (mm M (up2 f (ad 7 q) 8 (nI (sk t L i))) g)) → Go d 97 0 0 5 [.ref (ad 7 q), .int (nI i)] [] (mm M (up2 f (ad 7 q) 8 (nI i0)) g) R := by
  have hi := hT.1.2.1
  have hL0 := hT.1.2.2.1
  intro m
  induction m with
  | zero =>
    intro i him h1 h0
    obtain rfl : i = L := by omega
    have es : sk t i i = i := by unfold sk; rw [Nat.sub_self]; rfl
    rw [es] at h0
    show Go d 97 0 0 5 [.ref (ad 7 q), .int (nI i)] [] (mm M (up2 f (ad 7 q) 8 (nI i0)) g) R
    refine go_blk 3 [some (.int (nI i))] (pc' := 10) (vs' := [.ref (ad 7 q), .int (nI i)]) (st' := [.int (nI i), .int (nI i)]) (M' := mm M (up2 f (ad 7 q) 8 (nI i0)) g) (ps := [ob (mm M (up2 f (ad 7 q) 8 (nI i0)) g) (ad 7 q) 9, (Value.int ((up2 f (ad 7 q) 8 (nI i0)) (ad 7 q) 1)) = .int (nI i)]) rfl ⟨hT.1.1.1, congrArg Value.int (((up2_n _ _ (fun z => absurd z.2 (by decide))).trans (rfl)).trans hT.2.1), trivial⟩ ?_
    refine go_icmp rfl (fun _ => ?_) (fun (z : ¬ (nI i ≤ (nI i))) => absurd (show nI i ≤ (nI i) from Int32.le_refl _) z)
    refine go_blk 5 [some (.int (nI i))] (pc' := 51) (vs' := [.ref (ad 7 q), .int (nI i)]) (st' := [.int 0]) (M' := mm M (up2 (up2 f (ad 7 q) 8 (nI i0)) (ad 7 q) 8 (nI i)) g) (ps := [ob (mm M (up2 f (ad 7 q) 8 (nI i0)) g) (ad 7 q) 9, (Value.int ((up2 f (ad 7 q) 8 (nI i0)) (ad 7 q) 1)) = .int (nI i), ob (mm M (up2 f (ad 7 q) 8 (nI i0)) g) (ad 7 q) 9]) rfl ⟨hT.1.1.1, congrArg Value.int (((up2_n _ _ (fun z => absurd z.2 (by decide))).trans (rfl)).trans hT.2.1), hT.1.1.1, trivial⟩ ?_
    refine go_iret rfl rfl ?_
    rw [up2_up2]; exact h0 (by omega)
  | succ m ih =>
    intro i him h1 h0
    have hlt : i < L := by omega
    have es : sk t L i = if t i = 32 then sk t L (i + 1) else i := by unfold sk; rw [show L - i = m + 1 by omega, skN, show L - (i + 1) = m by omega]
    have e8 : (up2 f (ad 7 q) 8 (nI i0)) (ad 8 q) i = t i := (up2_n _ _ (fun z => absurd (hi _ _ _ _ z.1).1 (by decide))).trans (hT.2.2.1 i hlt).1
    by_cases c : t i = 32
    · rw [if_pos c] at es
      rw [es] at h1 h0
      show Go d 97 0 0 5 [.ref (ad 7 q), .int (nI i)] [] (mm M (up2 f (ad 7 q) 8 (nI i0)) g) R
      refine go_blk 3 [some (.int (nI L))] (pc' := 10) (vs' := [.ref (ad 7 q), .int (nI i)]) (st' := [.int (nI L), .int (nI i)]) (M' := mm M (up2 f (ad 7 q) 8 (nI i0)) g) (ps := [ob (mm M (up2 f (ad 7 q) 8 (nI i0)) g) (ad 7 q) 9, (Value.int ((up2 f (ad 7 q) 8 (nI i0)) (ad 7 q) 1)) = .int (nI L)]) rfl ⟨hT.1.1.1, congrArg Value.int (((up2_n _ _ (fun z => absurd z.2 (by decide))).trans (rfl)).trans hT.2.1), trivial⟩ ?_
      refine go_icmp rfl (fun (z : nI L ≤ (nI i)) => absurd z (show ¬ (nI L ≤ (nI i)) from (Int32.not_le.mpr ((nI_lts (a := i) (b := L) (by omega) (by omega)).mpr hlt)))) (fun _ => ?_)
      refine go_blk 5 [some (.ref (ad 8 q)), some (.int (t i))] (pc' := 21) (vs' := [.ref (ad 7 q), .int (nI i)]) (st' := [.int 32, .int (t i)]) (M' := mm M (up2 f (ad 7 q) 8 (nI i0)) g) (ps := [ob (mm M (up2 f (ad 7 q) 8 (nI i0)) g) (ad 7 q) 9, mR (mm M (up2 f (ad 7 q) 8 (nI i0)) g) (ad 7 q) 0 = some (ad 8 q), va_rf (some (ad 8 q)) = .ref (ad 8 q), ob (mm M (up2 f (ad 7 q) 8 (nI i0)) g) (ad 8 q) 15, vp_in (nI i) (mN (mm M (up2 f (ad 7 q) 8 (nI i0)) g) (ad 8 q)), (Value.int ((up2 f (ad 7 q) 8 (nI i0)) (ad 8 q) ((nI i).toNatClampNeg))) = .int (t i)]) rfl ⟨hT.1.1.1, hT.1.1.2.1, rfl, hT.1.1.2.2.1, (vpi hT.1.1.2.2.2 (show i < 120 by omega)), congrArg Value.int ((congrArg (fun z => (up2 f (ad 7 q) 8 (nI i0)) (ad 8 q) z) (nI_clamp (by omega))).trans e8), trivial⟩ ?_
      refine go_icmp rfl (fun _ => ?_) (fun (z : ¬ ((t i) = 32)) => absurd (show (t i) = 32 from c) z)
      refine go_blk 2 [] (pc' := 5) (vs' := [.ref (ad 7 q), .int ((nI i) + 1)]) (st' := []) (M' := mm M (up2 f (ad 7 q) 8 (nI i0)) g) (ps := []) rfl trivial ?_
      rw [show nI i + 1 = nI (i + 1) from nI_add i 1]
      exact ih (i + 1) (by omega) h1 h0
    · rw [if_neg c] at es
      rw [es] at h1 h0
      show Go d 97 0 0 5 [.ref (ad 7 q), .int (nI i)] [] (mm M (up2 f (ad 7 q) 8 (nI i0)) g) R
      refine go_blk 3 [some (.int (nI L))] (pc' := 10) (vs' := [.ref (ad 7 q), .int (nI i)]) (st' := [.int (nI L), .int (nI i)]) (M' := mm M (up2 f (ad 7 q) 8 (nI i0)) g) (ps := [ob (mm M (up2 f (ad 7 q) 8 (nI i0)) g) (ad 7 q) 9, (Value.int ((up2 f (ad 7 q) 8 (nI i0)) (ad 7 q) 1)) = .int (nI L)]) rfl ⟨hT.1.1.1, congrArg Value.int (((up2_n _ _ (fun z => absurd z.2 (by decide))).trans (rfl)).trans hT.2.1), trivial⟩ ?_
      refine go_icmp rfl (fun (z : nI L ≤ (nI i)) => absurd z (show ¬ (nI L ≤ (nI i)) from (Int32.not_le.mpr ((nI_lts (a := i) (b := L) (by omega) (by omega)).mpr hlt)))) (fun _ => ?_)
      refine go_blk 5 [some (.ref (ad 8 q)), some (.int (t i))] (pc' := 21) (vs' := [.ref (ad 7 q), .int (nI i)]) (st' := [.int 32, .int (t i)]) (M' := mm M (up2 f (ad 7 q) 8 (nI i0)) g) (ps := [ob (mm M (up2 f (ad 7 q) 8 (nI i0)) g) (ad 7 q) 9, mR (mm M (up2 f (ad 7 q) 8 (nI i0)) g) (ad 7 q) 0 = some (ad 8 q), va_rf (some (ad 8 q)) = .ref (ad 8 q), ob (mm M (up2 f (ad 7 q) 8 (nI i0)) g) (ad 8 q) 15, vp_in (nI i) (mN (mm M (up2 f (ad 7 q) 8 (nI i0)) g) (ad 8 q)), (Value.int ((up2 f (ad 7 q) 8 (nI i0)) (ad 8 q) ((nI i).toNatClampNeg))) = .int (t i)]) rfl ⟨hT.1.1.1, hT.1.1.2.1, rfl, hT.1.1.2.2.1, (vpi hT.1.1.2.2.2 (show i < 120 by omega)), congrArg Value.int ((congrArg (fun z => (up2 f (ad 7 q) 8 (nI i0)) (ad 8 q) z) (nI_clamp (by omega))).trans e8), trivial⟩ ?_
      refine go_icmp rfl (fun (z : (t i) = 32) => absurd z (show ¬ ((t i) = 32) from c)) (fun _ => ?_)
      refine go_blk 7 [some (.ref (ad 8 q)), some (.int (t i))] (pc' := 35) (vs' := [.ref (ad 7 q), .int (nI i)]) (st' := [.int (t i)]) (M' := mm M (up2 (up2 f (ad 7 q) 8 (nI i0)) (ad 7 q) 8 (nI i)) g) (ps := [ob (mm M (up2 f (ad 7 q) 8 (nI i0)) g) (ad 7 q) 9, ob (mm M (up2 (up2 f (ad 7 q) 8 (nI i0)) (ad 7 q) 8 (nI i)) g) (ad 7 q) 9, mR (mm M (up2 (up2 f (ad 7 q) 8 (nI i0)) (ad 7 q) 8 (nI i)) g) (ad 7 q) 0 = some (ad 8 q), va_rf (some (ad 8 q)) = .ref (ad 8 q), ob (mm M (up2 (up2 f (ad 7 q) 8 (nI i0)) (ad 7 q) 8 (nI i)) g) (ad 8 q) 15, vp_in (nI i) (mN (mm M (up2 (up2 f (ad 7 q) 8 (nI i0)) (ad 7 q) 8 (nI i)) g) (ad 8 q)), (Value.int ((up2 (up2 f (ad 7 q) 8 (nI i0)) (ad 7 q) 8 (nI i)) (ad 8 q) ((nI i).toNatClampNeg))) = .int (t i)]) rfl ⟨hT.1.1.1, hT.1.1.1, hT.1.1.2.1, rfl, hT.1.1.2.2.1, (vpi hT.1.1.2.2.2 (show i < 120 by omega)), congrArg Value.int ((congrArg (fun z => (up2 (up2 f (ad 7 q) 8 (nI i0)) (ad 7 q) 8 (nI i)) (ad 8 q) z) (nI_clamp (by omega))).trans ((up2_n _ _ (fun z => absurd (hi _ _ _ _ z.1).1 (by decide))).trans e8)), trivial⟩ ?_
      refine go_iret rfl rfl ?_
      rw [up2_up2]; exact h1 hlt

set_option maxRecDepth 100000 in
theorem s_Tx_sign {d : Nat} {M : Mem} {f : Nat → Nat → Int32} {g : Nat → Nat → Int64} {ad : Nat → Nat → Nat} {q L b : Nat} {t : Nat → Int32} {lv : Int32 → Int64} {R : Option Value → Mem → Prop} {i : Nat} (hT : TC M ad q L t lv b f) (hiL : i ≤ L) (h1 : sk t L i < L → R (some (.int (t (sk t L i)))) (mm M (up2 f (ad 7 q) 8 (nI (sk t L i))) g)) (h0 : ¬ sk t L i < L → R (some (.int 0)) (mm M (up2 f (ad 7 q) 8 (nI (sk t L i))) g)) : Call d 97 [.ref (ad 7 q)] (mm M (up2 f (ad 7 q) 8 (nI i)) g) R := by
  show Go d 97 0 0 0 [.ref (ad 7 q), .retAddr 0] [] (mm M (up2 f (ad 7 q) 8 (nI i)) g) R
  refine go_blk 3 [some (.int (nI i))] (pc' := 5) (vs' := [.ref (ad 7 q), .int (nI i)]) (st' := []) (M' := mm M (up2 f (ad 7 q) 8 (nI i)) g) (ps := [ob (mm M (up2 f (ad 7 q) 8 (nI i)) g) (ad 7 q) 9, Value.int ((up2 f (ad 7 q) 8 (nI i)) (ad 7 q) 8) = .int (nI i)]) rfl ⟨hT.1.1.1, congrArg Value.int (up2_s _ _ _ _), trivial⟩ ?_
  exact lp_Tx_sign hT (L - i) i (by omega) h1 h0
theorem s_Tx_signQ {d : Nat} {M : Mem} {f : Nat → Nat → Int32} {g : Nat → Nat → Int64} {ad : Nat → Nat → Nat} {q L b : Nat} {t : Nat → Int32} {lv : Int32 → Int64} {R : Option Value → Mem → Prop} {i p : Nat} (hT : TC M ad q L t lv b f) (hiL : i ≤ L) (hp : sk t L i = p) (h1 : p < L → R (some (.int (t p))) (mm M (up2 f (ad 7 q) 8 (nI p)) g)) (h0 : ¬ p < L → R (some (.int 0)) (mm M (up2 f (ad 7 q) 8 (nI p)) g)) : Call d 97 [.ref (ad 7 q)] (mm M (up2 f (ad 7 q) 8 (nI i)) g) R := by
  subst hp; exact s_Tx_sign hT hiL h1 h0

set_option maxRecDepth 100000 in
theorem s_Tx_takeSign {d : Nat} {M : Mem} {f : Nat → Nat → Int32} {g : Nat → Nat → Int64} {ad : Nat → Nat → Nat} {q L b : Nat} {t : Nat → Int32} {lv : Int32 → Int64} {R : Option Value → Mem → Prop} {i p : Nat} (hd : 1 ≤ d) (hT : TC M ad q L t lv b f) (hiL : i ≤ L) (hp : sk t L i = p) (hin : p < L) (h1 : R (some (.int (t p))) (mm M (up2 f (ad 7 q) 8 (nI (p + 1))) g)) : Call d 98 [.ref (ad 7 q)] (mm M (up2 f (ad 7 q) 8 (nI i)) g) R := by
  have hi := hT.1.2.1
  have hL0 := hT.1.2.2.1
  show Go d 98 0 0 0 [.ref (ad 7 q), .retAddr 0] [] (mm M (up2 f (ad 7 q) 8 (nI i)) g) R
  refine go_blk 1 [] (pc' := 1) (vs' := [.ref (ad 7 q), .retAddr 0]) (st' := [.ref (ad 7 q)]) (M' := mm M (up2 f (ad 7 q) 8 (nI i)) g) (ps := []) rfl trivial ?_
  refine go_callV rfl rfl rfl (by omega) rfl (by decide) (by decide) hT.1.1.1 ?_
  refine s_Tx_signQ (i := i) (p := p) hT hiL hp (fun hj1 => ⟨ne_i, ?_⟩) (fun hj1 => ⟨ne_i, ?_⟩)
  · -- ('i', 't p')
    show Go d 98 0 0 4 [.ref (ad 7 q), .retAddr 0] [.int (t p)] (mm M (up2 f (ad 7 q) 8 (nI p)) g) R
    refine go_blk 8 [some (.int (nI p))] (pc' := 16) (vs' := [.ref (ad 7 q), .int (t p)]) (st' := [.int (t p)]) (M' := mm M (up2 (up2 f (ad 7 q) 8 (nI p)) (ad 7 q) 8 ((nI p) + 1)) g) (ps := [(.ref (ad 7 q) : Value).category = 1, ob (mm M (up2 f (ad 7 q) 8 (nI p)) g) (ad 7 q) 9, (Value.int ((up2 f (ad 7 q) 8 (nI p)) (ad 7 q) 8)) = .int (nI p), ob (mm M (up2 f (ad 7 q) 8 (nI p)) g) (ad 7 q) 9]) rfl ⟨rfl, hT.1.1.1, congrArg Value.int (up2_s _ _ _ _), hT.1.1.1, trivial⟩ ?_
    refine go_iret rfl rfl ?_
    rw [up2_up2, show nI p + 1 = nI (p + 1) from nI_add p 1]; exact h1
  · -- ('i', '0')
    exact absurd hin hj1

set_option maxRecDepth 100000 in
theorem lp_Tx_number {d : Nat} {M : Mem} {f : Nat → Nat → Int32} {g : Nat → Nat → Int64} {ad : Nat → Nat → Nat} {q L b : Nat} {t : Nat → Int32} {lv : Int32 → Int64} {R : Option Value → Mem → Prop} {w : Int64} {k : Nat} (hd : 1 ≤ d) (hT : TC M ad q L t lv b f) (hR : R (some (.long w)) (mm M (up2 f (ad 7 q) 8 (nI k)) g)) : ∀ (m c : Nat) (v : Int64) (i : Nat), m + c = 5 → c ≤ 4 → i ≤ L → numN t L m c v i = .inr (w, k) → Go d 102 0 0 7 [.ref (ad 7 q), .long v, .retAddr 1, .int (nI i)] [] (mm M (up2 f (ad 7 q) 8 (nI i)) g) R := by
  have hi := hT.1.2.1
  have hL0 := hT.1.2.2.1
  intro m
  induction m with
  | zero => intro c v i h1 h2; omega
  | succ m ih =>
    intro c v i hmc hc hiL he
    rw [numN] at he
    by_cases hq : i < L ∧ isDg (t i) = true
    · rw [if_pos hq] at he
      have c4 : ¬ c = 4 := fun z => by rw [if_pos z] at he; cases he
      rw [if_neg c4] at he
      have e8 : (up2 f (ad 7 q) 8 (nI i)) (ad 8 q) i = t i := (up2_n _ _ (fun z => absurd (hi _ _ _ _ z.1).1 (by decide))).trans (hT.2.2.1 i hq.1).1
      show Go d 102 0 0 7 [.ref (ad 7 q), .long v, .retAddr 1, .int (nI i)] [] (mm M (up2 f (ad 7 q) 8 (nI i)) g) R
      refine go_blk 3 [some (.int (nI L))] (pc' := 12) (vs' := [.ref (ad 7 q), .long v, .retAddr 1, .int (nI i)]) (st' := [.int (nI L), .int (nI i)]) (M' := mm M (up2 f (ad 7 q) 8 (nI i)) g) (ps := [ob (mm M (up2 f (ad 7 q) 8 (nI i)) g) (ad 7 q) 9, (Value.int ((up2 f (ad 7 q) 8 (nI i)) (ad 7 q) 1)) = .int (nI L)]) rfl ⟨hT.1.1.1, congrArg Value.int (((up2_n _ _ (fun z => absurd z.2 (by decide))).trans (rfl)).trans hT.2.1), trivial⟩ ?_
      refine go_icmp rfl (fun (z : nI L ≤ (nI i)) => absurd z (show ¬ (nI L ≤ (nI i)) from (Int32.not_le.mpr ((nI_lts (a := i) (b := L) (by omega) (by omega)).mpr hq.1)))) (fun _ => ?_)
      refine go_blk 4 [some (.ref (ad 8 q)), some (.int (t i))] (pc' := 21) (vs' := [.ref (ad 7 q), .long v, .retAddr 1, .int (nI i)]) (st' := [.int (t i)]) (M' := mm M (up2 f (ad 7 q) 8 (nI i)) g) (ps := [ob (mm M (up2 f (ad 7 q) 8 (nI i)) g) (ad 7 q) 9, mR (mm M (up2 f (ad 7 q) 8 (nI i)) g) (ad 7 q) 0 = some (ad 8 q), va_rf (some (ad 8 q)) = .ref (ad 8 q), ob (mm M (up2 f (ad 7 q) 8 (nI i)) g) (ad 8 q) 15, vp_in (nI i) (mN (mm M (up2 f (ad 7 q) 8 (nI i)) g) (ad 8 q)), (Value.int ((up2 f (ad 7 q) 8 (nI i)) (ad 8 q) ((nI i).toNatClampNeg))) = .int (t i)]) rfl ⟨hT.1.1.1, hT.1.1.2.1, rfl, hT.1.1.2.2.1, (vpi hT.1.1.2.2.2 (show i < 120 by omega)), congrArg Value.int ((congrArg (fun z => (up2 f (ad 7 q) 8 (nI i)) (ad 8 q) z) (nI_clamp (by omega))).trans e8), trivial⟩ ?_
      refine go_callS rfl (by decide) rfl rfl (by omega) rfl (by decide) (by decide) ?_
      refine s_Tx_isDigit (by omega) (fun hd1 => ⟨ne_i, ?_⟩) (fun hd1 => ⟨ne_i, ?_⟩)
      · -- ('i', '1')
        show Go d 102 0 0 24 [.ref (ad 7 q), .long v, .retAddr 1, .int (nI i)] [.int 1] (mm M (up2 f (ad 7 q) 8 (nI i)) g) R
        refine go_if rfl (fun (z : (1 : Int32) = 0) => absurd z (show ¬ ((1 : Int32) = 0) from (by decide))) (fun _ => ?_)
        refine go_blk 19 [some (.ref (ad 8 q)), some (.int (t i))] (pc' := 7) (vs' := [.ref (ad 7 q), .long (((10 * v) + ((t i).toInt64)) - 48), .retAddr 1, .int ((nI i) + 1)]) (st' := []) (M' := mm M (up2 (up2 f (ad 7 q) 8 (nI i)) (ad 7 q) 8 ((nI i) + 1)) g) (ps := [ob (mm M (up2 f (ad 7 q) 8 (nI i)) g) (ad 7 q) 9, mR (mm M (up2 f (ad 7 q) 8 (nI i)) g) (ad 7 q) 0 = some (ad 8 q), va_rf (some (ad 8 q)) = .ref (ad 8 q), ob (mm M (up2 f (ad 7 q) 8 (nI i)) g) (ad 8 q) 15, vp_in (nI i) (mN (mm M (up2 f (ad 7 q) 8 (nI i)) g) (ad 8 q)), (Value.int ((up2 f (ad 7 q) 8 (nI i)) (ad 8 q) ((nI i).toNatClampNeg))) = .int (t i), ob (mm M (up2 f (ad 7 q) 8 (nI i)) g) (ad 7 q) 9]) rfl ⟨hT.1.1.1, hT.1.1.2.1, rfl, hT.1.1.2.2.1, (vpi hT.1.1.2.2.2 (show i < 120 by omega)), congrArg Value.int ((congrArg (fun z => (up2 f (ad 7 q) 8 (nI i)) (ad 8 q) z) (nI_clamp (by omega))).trans e8), hT.1.1.1, trivial⟩ ?_
        rw [up2_up2, show nI i + 1 = nI (i + 1) from nI_add i 1]
        exact ih (c + 1) _ (i + 1) (by omega) (by omega) (by omega) he
      · -- ('i', '0')
        exact absurd hq.2 hd1
    · rw [if_neg hq] at he
      have e12 : v = w ∧ i = k := by cases he; exact ⟨rfl, rfl⟩
      rw [← e12.1, ← e12.2] at hR
      by_cases hlt : i < L
      ·
        have e8 : (up2 f (ad 7 q) 8 (nI i)) (ad 8 q) i = t i := (up2_n _ _ (fun z => absurd (hi _ _ _ _ z.1).1 (by decide))).trans (hT.2.2.1 i hlt).1
        show Go d 102 0 0 7 [.ref (ad 7 q), .long v, .retAddr 1, .int (nI i)] [] (mm M (up2 f (ad 7 q) 8 (nI i)) g) R
        refine go_blk 3 [some (.int (nI L))] (pc' := 12) (vs' := [.ref (ad 7 q), .long v, .retAddr 1, .int (nI i)]) (st' := [.int (nI L), .int (nI i)]) (M' := mm M (up2 f (ad 7 q) 8 (nI i)) g) (ps := [ob (mm M (up2 f (ad 7 q) 8 (nI i)) g) (ad 7 q) 9, (Value.int ((up2 f (ad 7 q) 8 (nI i)) (ad 7 q) 1)) = .int (nI L)]) rfl ⟨hT.1.1.1, congrArg Value.int (((up2_n _ _ (fun z => absurd z.2 (by decide))).trans (rfl)).trans hT.2.1), trivial⟩ ?_
        refine go_icmp rfl (fun (z : nI L ≤ (nI i)) => absurd z (show ¬ (nI L ≤ (nI i)) from (Int32.not_le.mpr ((nI_lts (a := i) (b := L) (by omega) (by omega)).mpr hlt)))) (fun _ => ?_)
        refine go_blk 4 [some (.ref (ad 8 q)), some (.int (t i))] (pc' := 21) (vs' := [.ref (ad 7 q), .long v, .retAddr 1, .int (nI i)]) (st' := [.int (t i)]) (M' := mm M (up2 f (ad 7 q) 8 (nI i)) g) (ps := [ob (mm M (up2 f (ad 7 q) 8 (nI i)) g) (ad 7 q) 9, mR (mm M (up2 f (ad 7 q) 8 (nI i)) g) (ad 7 q) 0 = some (ad 8 q), va_rf (some (ad 8 q)) = .ref (ad 8 q), ob (mm M (up2 f (ad 7 q) 8 (nI i)) g) (ad 8 q) 15, vp_in (nI i) (mN (mm M (up2 f (ad 7 q) 8 (nI i)) g) (ad 8 q)), (Value.int ((up2 f (ad 7 q) 8 (nI i)) (ad 8 q) ((nI i).toNatClampNeg))) = .int (t i)]) rfl ⟨hT.1.1.1, hT.1.1.2.1, rfl, hT.1.1.2.2.1, (vpi hT.1.1.2.2.2 (show i < 120 by omega)), congrArg Value.int ((congrArg (fun z => (up2 f (ad 7 q) 8 (nI i)) (ad 8 q) z) (nI_clamp (by omega))).trans e8), trivial⟩ ?_
        refine go_callS rfl (by decide) rfl rfl (by omega) rfl (by decide) (by decide) ?_
        refine s_Tx_isDigit (by omega) (fun hd1 => ⟨ne_i, ?_⟩) (fun hd1 => ⟨ne_i, ?_⟩)
        · -- ('i', '1')
          exact absurd ⟨hlt, hd1⟩ hq
        · -- ('i', '0')
          show Go d 102 0 0 24 [.ref (ad 7 q), .long v, .retAddr 1, .int (nI i)] [.int 0] (mm M (up2 f (ad 7 q) 8 (nI i)) g) R
          refine go_if rfl (fun _ => ?_) (fun (z : ¬ ((0 : Int32) = 0)) => absurd (show (0 : Int32) = 0 from (by decide)) z)
          refine go_blk 1 [] (pc' := 59) (vs' := [.ref (ad 7 q), .long v, .retAddr 1, .int (nI i)]) (st' := [.long v]) (M' := mm M (up2 f (ad 7 q) 8 (nI i)) g) (ps := []) rfl trivial ?_
          refine go_lret rfl rfl ?_
          exact hR
      ·
        show Go d 102 0 0 7 [.ref (ad 7 q), .long v, .retAddr 1, .int (nI i)] [] (mm M (up2 f (ad 7 q) 8 (nI i)) g) R
        refine go_blk 3 [some (.int (nI L))] (pc' := 12) (vs' := [.ref (ad 7 q), .long v, .retAddr 1, .int (nI i)]) (st' := [.int (nI L), .int (nI i)]) (M' := mm M (up2 f (ad 7 q) 8 (nI i)) g) (ps := [ob (mm M (up2 f (ad 7 q) 8 (nI i)) g) (ad 7 q) 9, (Value.int ((up2 f (ad 7 q) 8 (nI i)) (ad 7 q) 1)) = .int (nI L)]) rfl ⟨hT.1.1.1, congrArg Value.int (((up2_n _ _ (fun z => absurd z.2 (by decide))).trans (rfl)).trans hT.2.1), trivial⟩ ?_
        refine go_icmp rfl (fun _ => ?_) (fun (z : ¬ (nI L ≤ (nI i))) => absurd (show nI L ≤ (nI i) from ((nI_les (a := L) (b := i) (by omega) (by omega)).mpr (by omega))) z)
        refine go_blk 1 [] (pc' := 59) (vs' := [.ref (ad 7 q), .long v, .retAddr 1, .int (nI i)]) (st' := [.long v]) (M' := mm M (up2 f (ad 7 q) 8 (nI i)) g) (ps := []) rfl trivial ?_
        refine go_lret rfl rfl ?_
        exact hR

set_option maxRecDepth 100000 in
theorem s_Tx_letterFor {d : Nat} {M : Mem} {f : Nat → Nat → Int32} {g : Nat → Nat → Int64} {ad : Nat → Nat → Nat} {q L b : Nat} {t : Nat → Int32} {lv : Int32 → Int64} {R : Option Value → Mem → Prop} {x : Int32} {i : Nat} (hd : 2 ≤ d) (hT : TC M ad q L t lv b f) (hx : isLt x = true) (hR : R (some (.long (lv x))) (mm M (up2 f (ad 7 q) 8 (nI i)) g)) : Call d 103 [.ref (ad 6 b), .int x] (mm M (up2 f (ad 7 q) 8 (nI i)) g) R := by
  have hi := hT.1.2.1
  have hL0 := hT.1.2.2.1
  rw [hT.2.2.2 x hx] at hR
  show Go d 103 0 0 0 [.ref (ad 6 b), .int x] [] (mm M (up2 f (ad 7 q) 8 (nI i)) g) R
  refine go_blk 1 [] (pc' := 1) (vs' := [.ref (ad 6 b), .int x]) (st' := [.int x]) (M' := mm M (up2 f (ad 7 q) 8 (nI i)) g) (ps := []) rfl trivial ?_
  refine go_tsw rfl ?_
  refine ⟨fun (c1 : x = 99) => ?_, fun (c1n : ¬ (x = 99)) => ?_⟩
  · -- x = 99
    show Go d 103 0 0 80 [.ref (ad 6 b), .int x] [] (mm M (up2 f (ad 7 q) 8 (nI i)) g) R
    refine go_blk 3 [some (.int (f (ad 6 b) 6))] (pc' := 85) (vs' := [.ref (ad 6 b), .int x]) (st' := [.long ((f (ad 6 b) 6).toInt64)]) (M' := mm M (up2 f (ad 7 q) 8 (nI i)) g) (ps := [ob (mm M (up2 f (ad 7 q) 8 (nI i)) g) (ad 6 b) 3, (Value.int ((up2 f (ad 7 q) 8 (nI i)) (ad 6 b) 6)) = .int (f (ad 6 b) 6)]) rfl ⟨hT.1.2.2.2.1, congrArg Value.int ((up2_n _ _ (fun z => absurd (hi _ _ _ _ z.1).1 (by decide))).trans (rfl)), trivial⟩ ?_
    refine go_lret rfl rfl ?_
    have e : lvC f ad b x = (f (ad 6 b) 6).toInt64 := by
      clear hR hT
      unfold lvC ltV
      try unfold mx0
      simp only [isLt, Bool.or_eq_true, beq_iff_eq] at hx
      grind
    rw [e] at hR; exact hR
  refine ⟨fun (c2 : x = 100) => ?_, fun (c2n : ¬ (x = 100)) => ?_⟩
  · -- x = 100
    show Go d 103 0 0 107 [.ref (ad 6 b), .int x] [] (mm M (up2 f (ad 7 q) 8 (nI i)) g) R
    refine go_blk 3 [some (.ref (ad 2 b)), some (.int (f (ad 2 b) 3))] (pc' := 114) (vs' := [.ref (ad 6 b), .int x]) (st' := [.int (f (ad 2 b) 3)]) (M' := mm M (up2 f (ad 7 q) 8 (nI i)) g) (ps := [ob (mm M (up2 f (ad 7 q) 8 (nI i)) g) (ad 6 b) 3, mR (mm M (up2 f (ad 7 q) 8 (nI i)) g) (ad 6 b) 0 = some (ad 2 b), va_rf (some (ad 2 b)) = .ref (ad 2 b), ob (mm M (up2 f (ad 7 q) 8 (nI i)) g) (ad 2 b) 0, (Value.int ((up2 f (ad 7 q) 8 (nI i)) (ad 2 b) 3)) = .int (f (ad 2 b) 3)]) rfl ⟨hT.1.2.2.2.1, hT.1.2.2.2.2.1, rfl, hT.1.2.2.2.2.2, congrArg Value.int ((up2_n _ _ (fun z => absurd (hi _ _ _ _ z.1).1 (by decide))).trans (rfl)), trivial⟩ ?_
    refine go_if rfl (fun (c3 : (f (ad 2 b) 3) = 0) => ?_) (fun (c3 : ¬ ((f (ad 2 b) 3) = 0)) => ?_)
    · -- (f (ad 2 b) 3) = 0
      refine go_blk 1 [] (pc' := 122) (vs' := [.ref (ad 6 b), .int x]) (st' := [.long 0]) (M' := mm M (up2 f (ad 7 q) 8 (nI i)) g) (ps := []) rfl trivial ?_
      refine go_lret rfl rfl ?_
      have e : lvC f ad b x = 0 := by
        clear hR hT
        unfold lvC ltV
        try unfold mx0
        simp only [isLt, Bool.or_eq_true, beq_iff_eq] at hx
        grind
      rw [e] at hR; exact hR
    · -- ¬ ((f (ad 2 b) 3) = 0)
      refine go_blk 2 [] (pc' := 122) (vs' := [.ref (ad 6 b), .int x]) (st' := [.long 1]) (M' := mm M (up2 f (ad 7 q) 8 (nI i)) g) (ps := []) rfl trivial ?_
      refine go_lret rfl rfl ?_
      have e : lvC f ad b x = 1 := by
        clear hR hT
        unfold lvC ltV
        try unfold mx0
        simp only [isLt, Bool.or_eq_true, beq_iff_eq] at hx
        grind
      rw [e] at hR; exact hR
  refine ⟨fun (c4 : x = 101) => ?_, fun (c4n : ¬ (x = 101)) => ?_⟩
  · -- x = 101
    show Go d 103 0 0 132 [.ref (ad 6 b), .int x] [] (mm M (up2 f (ad 7 q) 8 (nI i)) g) R
    refine go_blk 1 [] (pc' := 133) (vs' := [.ref (ad 6 b), .int x]) (st' := [.long 0]) (M' := mm M (up2 f (ad 7 q) 8 (nI i)) g) (ps := []) rfl trivial ?_
    refine go_lret rfl rfl ?_
    have e : lvC f ad b x = 0 := by
      clear hR hT
      unfold lvC ltV
      try unfold mx0
      simp only [isLt, Bool.or_eq_true, beq_iff_eq] at hx
      grind
    rw [e] at hR; exact hR
  refine ⟨fun (c5 : x = 102) => ?_, fun (c5n : ¬ (x = 102)) => ?_⟩
  · -- x = 102
    show Go d 103 0 0 132 [.ref (ad 6 b), .int x] [] (mm M (up2 f (ad 7 q) 8 (nI i)) g) R
    refine go_blk 1 [] (pc' := 133) (vs' := [.ref (ad 6 b), .int x]) (st' := [.long 0]) (M' := mm M (up2 f (ad 7 q) 8 (nI i)) g) (ps := []) rfl trivial ?_
    refine go_lret rfl rfl ?_
    have e : lvC f ad b x = 0 := by
      clear hR hT
      unfold lvC ltV
      try unfold mx0
      simp only [isLt, Bool.or_eq_true, beq_iff_eq] at hx
      grind
    rw [e] at hR; exact hR
  refine ⟨fun (c6 : x = 103) => ?_, fun (c6n : ¬ (x = 103)) => ?_⟩
  · -- x = 103
    show Go d 103 0 0 98 [.ref (ad 6 b), .int x] [] (mm M (up2 f (ad 7 q) 8 (nI i)) g) R
    refine go_blk 4 [some (.ref (ad 2 b)), some (.int (f (ad 2 b) 2))] (pc' := 106) (vs' := [.ref (ad 6 b), .int x]) (st' := [.long ((f (ad 2 b) 2).toInt64)]) (M' := mm M (up2 f (ad 7 q) 8 (nI i)) g) (ps := [ob (mm M (up2 f (ad 7 q) 8 (nI i)) g) (ad 6 b) 3, mR (mm M (up2 f (ad 7 q) 8 (nI i)) g) (ad 6 b) 0 = some (ad 2 b), va_rf (some (ad 2 b)) = .ref (ad 2 b), ob (mm M (up2 f (ad 7 q) 8 (nI i)) g) (ad 2 b) 0, (Value.int ((up2 f (ad 7 q) 8 (nI i)) (ad 2 b) 2)) = .int (f (ad 2 b) 2)]) rfl ⟨hT.1.2.2.2.1, hT.1.2.2.2.2.1, rfl, hT.1.2.2.2.2.2, congrArg Value.int ((up2_n _ _ (fun z => absurd (hi _ _ _ _ z.1).1 (by decide))).trans (rfl)), trivial⟩ ?_
    refine go_lret rfl rfl ?_
    have e : lvC f ad b x = (f (ad 2 b) 2).toInt64 := by
      clear hR hT
      unfold lvC ltV
      try unfold mx0
      simp only [isLt, Bool.or_eq_true, beq_iff_eq] at hx
      grind
    rw [e] at hR; exact hR
  refine ⟨fun (c7 : x = 104) => ?_, fun (c7n : ¬ (x = 104)) => ?_⟩
  · -- x = 104
    show Go d 103 0 0 123 [.ref (ad 6 b), .int x] [] (mm M (up2 f (ad 7 q) 8 (nI i)) g) R
    refine go_blk 5 [some (.int (f (ad 6 b) 7))] (pc' := 131) (vs' := [.ref (ad 6 b), .int x]) (st' := [.long (((f (ad 6 b) 7) / 60).toInt64)]) (M' := mm M (up2 f (ad 7 q) 8 (nI i)) g) (ps := [ob (mm M (up2 f (ad 7 q) 8 (nI i)) g) (ad 6 b) 3, (Value.int ((up2 f (ad 7 q) 8 (nI i)) (ad 6 b) 7)) = .int (f (ad 6 b) 7), ¬ 60 = 0]) rfl ⟨hT.1.2.2.2.1, congrArg Value.int ((up2_n _ _ (fun z => absurd (hi _ _ _ _ z.1).1 (by decide))).trans (rfl)), (by decide), trivial⟩ ?_
    refine go_lret rfl rfl ?_
    have e : lvC f ad b x = ((f (ad 6 b) 7) / 60).toInt64 := by
      clear hR hT
      unfold lvC ltV
      try unfold mx0
      simp only [isLt, Bool.or_eq_true, beq_iff_eq] at hx
      grind
    rw [e] at hR; exact hR
  refine ⟨fun (c8 : x = 105) => ?_, fun (c8n : ¬ (x = 105)) => ?_⟩
  · -- x = 105
    show Go d 103 0 0 132 [.ref (ad 6 b), .int x] [] (mm M (up2 f (ad 7 q) 8 (nI i)) g) R
    refine go_blk 1 [] (pc' := 133) (vs' := [.ref (ad 6 b), .int x]) (st' := [.long 0]) (M' := mm M (up2 f (ad 7 q) 8 (nI i)) g) (ps := []) rfl trivial ?_
    refine go_lret rfl rfl ?_
    have e : lvC f ad b x = 0 := by
      clear hR hT
      unfold lvC ltV
      try unfold mx0
      simp only [isLt, Bool.or_eq_true, beq_iff_eq] at hx
      grind
    rw [e] at hR; exact hR
  refine ⟨fun (c9 : x = 106) => ?_, fun (c9n : ¬ (x = 106)) => ?_⟩
  · -- x = 106
    show Go d 103 0 0 132 [.ref (ad 6 b), .int x] [] (mm M (up2 f (ad 7 q) 8 (nI i)) g) R
    refine go_blk 1 [] (pc' := 133) (vs' := [.ref (ad 6 b), .int x]) (st' := [.long 0]) (M' := mm M (up2 f (ad 7 q) 8 (nI i)) g) (ps := []) rfl trivial ?_
    refine go_lret rfl rfl ?_
    have e : lvC f ad b x = 0 := by
      clear hR hT
      unfold lvC ltV
      try unfold mx0
      simp only [isLt, Bool.or_eq_true, beq_iff_eq] at hx
      grind
    rw [e] at hR; exact hR
  refine ⟨fun (c10 : x = 107) => ?_, fun (c10n : ¬ (x = 107)) => ?_⟩
  · -- x = 107
    show Go d 103 0 0 132 [.ref (ad 6 b), .int x] [] (mm M (up2 f (ad 7 q) 8 (nI i)) g) R
    refine go_blk 1 [] (pc' := 133) (vs' := [.ref (ad 6 b), .int x]) (st' := [.long 0]) (M' := mm M (up2 f (ad 7 q) 8 (nI i)) g) (ps := []) rfl trivial ?_
    refine go_lret rfl rfl ?_
    have e : lvC f ad b x = 0 := by
      clear hR hT
      unfold lvC ltV
      try unfold mx0
      simp only [isLt, Bool.or_eq_true, beq_iff_eq] at hx
      grind
    rw [e] at hR; exact hR
  refine ⟨fun (c11 : x = 108) => ?_, fun (c11n : ¬ (x = 108)) => ?_⟩
  · -- x = 108
    show Go d 103 0 0 86 [.ref (ad 6 b), .int x] [] (mm M (up2 f (ad 7 q) 8 (nI i)) g) R
    refine go_blk 1 [] (pc' := 87) (vs' := [.ref (ad 6 b), .int x]) (st' := [.ref (ad 6 b)]) (M' := mm M (up2 f (ad 7 q) 8 (nI i)) g) (ps := []) rfl trivial ?_
    refine go_callV rfl rfl rfl (by omega) rfl (by decide) (by decide) hT.1.2.2.2.1 ?_
    show Go (d - 1) 28 0 0 0 [.ref (ad 6 b)] [] (mm M (up2 f (ad 7 q) 8 (nI i)) g) _
    refine go_blk 1 [] (pc' := 1) (vs' := [.ref (ad 6 b)]) (st' := [.ref (ad 6 b)]) (M' := mm M (up2 f (ad 7 q) 8 (nI i)) g) (ps := []) rfl trivial ?_
    refine go_callV rfl rfl rfl (by omega) rfl (by decide) (by decide) hT.1.2.2.2.1 ?_
    show Go ((d - 1) - 1) 27 0 0 0 [.ref (ad 6 b)] [] (mm M (up2 f (ad 7 q) 8 (nI i)) g) _
    refine go_blk 3 [some (.int (f (ad 6 b) 8))] (pc' := 5) (vs' := [.ref (ad 6 b)]) (st' := [.int (-1), .int (f (ad 6 b) 8)]) (M' := mm M (up2 f (ad 7 q) 8 (nI i)) g) (ps := [ob (mm M (up2 f (ad 7 q) 8 (nI i)) g) (ad 6 b) 3, (Value.int ((up2 f (ad 7 q) 8 (nI i)) (ad 6 b) 8)) = .int (f (ad 6 b) 8)]) rfl ⟨hT.1.2.2.2.1, congrArg Value.int ((up2_n _ _ (fun z => absurd (hi _ _ _ _ z.1).1 (by decide))).trans (rfl)), trivial⟩ ?_
    refine go_icmp rfl (fun (c12 : (f (ad 6 b) 8) = (-1)) => ?_) (fun (c12 : ¬ ((f (ad 6 b) 8) = (-1))) => ?_)
    · -- (f (ad 6 b) 8) = (-1)
      refine go_blk 1 [] (pc' := 13) (vs' := [.ref (ad 6 b)]) (st' := [.int 0]) (M' := mm M (up2 f (ad 7 q) 8 (nI i)) g) (ps := []) rfl trivial ?_
      refine go_zret rfl rfl (Or.inl rfl) ?_
      refine ⟨ne_i, ?_⟩
      show Go (d - 1) 28 0 0 4 [.ref (ad 6 b)] [.int 0] (mm M (up2 f (ad 7 q) 8 (nI i)) g) _
      refine go_if rfl (fun _ => ?_) (fun (z : ¬ ((0 : Int32) = 0)) => absurd (show (0 : Int32) = 0 from (by decide)) z)
      refine go_blk 1 [] (pc' := 24) (vs' := [.ref (ad 6 b)]) (st' := [.int (-1)]) (M' := mm M (up2 f (ad 7 q) 8 (nI i)) g) (ps := []) rfl trivial ?_
      refine go_iret rfl rfl ?_
      refine ⟨ne_i, ?_⟩
      show Go d 103 0 0 90 [.ref (ad 6 b), .int x] [.int (-1)] (mm M (up2 f (ad 7 q) 8 (nI i)) g) R
      refine go_blk 1 [] (pc' := 91) (vs' := [.ref (ad 6 b), .int x]) (st' := [.long (((-1) : Int32).toInt64)]) (M' := mm M (up2 f (ad 7 q) 8 (nI i)) g) (ps := []) rfl trivial ?_
      refine go_lret rfl rfl ?_
      have e : lvC f ad b x = ((-1) : Int32).toInt64 := by
        clear hR hT
        unfold lvC ltV
        try unfold mx0
        simp only [isLt, Bool.or_eq_true, beq_iff_eq] at hx
        grind
      rw [e] at hR; exact hR
    · -- ¬ ((f (ad 6 b) 8) = (-1))
      refine go_blk 2 [] (pc' := 13) (vs' := [.ref (ad 6 b)]) (st' := [.int 1]) (M' := mm M (up2 f (ad 7 q) 8 (nI i)) g) (ps := []) rfl trivial ?_
      refine go_zret rfl rfl (Or.inr rfl) ?_
      refine ⟨ne_i, ?_⟩
      show Go (d - 1) 28 0 0 4 [.ref (ad 6 b)] [.int 1] (mm M (up2 f (ad 7 q) 8 (nI i)) g) _
      refine go_if rfl (fun (z : (1 : Int32) = 0) => absurd z (show ¬ ((1 : Int32) = 0) from (by decide))) (fun _ => ?_)
      refine go_blk 6 [some (.int (f (ad 6 b) 8)), some (.int (f (ad 6 b) 3))] (pc' := 17) (vs' := [.ref (ad 6 b)]) (st' := [.int ((f (ad 6 b) 8) - (f (ad 6 b) 3)), .int 0]) (M' := mm M (up2 f (ad 7 q) 8 (nI i)) g) (ps := [ob (mm M (up2 f (ad 7 q) 8 (nI i)) g) (ad 6 b) 3, (Value.int ((up2 f (ad 7 q) 8 (nI i)) (ad 6 b) 8)) = .int (f (ad 6 b) 8), ob (mm M (up2 f (ad 7 q) 8 (nI i)) g) (ad 6 b) 3, (Value.int ((up2 f (ad 7 q) 8 (nI i)) (ad 6 b) 3)) = .int (f (ad 6 b) 3)]) rfl ⟨hT.1.2.2.2.1, congrArg Value.int ((up2_n _ _ (fun z => absurd (hi _ _ _ _ z.1).1 (by decide))).trans (rfl)), hT.1.2.2.2.1, congrArg Value.int ((up2_n _ _ (fun z => absurd (hi _ _ _ _ z.1).1 (by decide))).trans (rfl)), trivial⟩ ?_
      refine go_callS rfl (by decide) rfl rfl (by omega) rfl (by decide) (by decide) ?_
      refine s_JM_max0 (by omega) ⟨ne_i, ?_⟩
      show Go (d - 1) 28 0 0 20 [.ref (ad 6 b)] [.int (mx0 ((f (ad 6 b) 8) - (f (ad 6 b) 3)))] (mm M (up2 f (ad 7 q) 8 (nI i)) g) _
      refine go_blk 1 [] (pc' := 24) (vs' := [.ref (ad 6 b)]) (st' := [.int (mx0 ((f (ad 6 b) 8) - (f (ad 6 b) 3)))]) (M' := mm M (up2 f (ad 7 q) 8 (nI i)) g) (ps := []) rfl trivial ?_
      refine go_iret rfl rfl ?_
      refine ⟨ne_i, ?_⟩
      show Go d 103 0 0 90 [.ref (ad 6 b), .int x] [.int (mx0 ((f (ad 6 b) 8) - (f (ad 6 b) 3)))] (mm M (up2 f (ad 7 q) 8 (nI i)) g) R
      refine go_blk 1 [] (pc' := 91) (vs' := [.ref (ad 6 b), .int x]) (st' := [.long ((mx0 ((f (ad 6 b) 8) - (f (ad 6 b) 3))).toInt64)]) (M' := mm M (up2 f (ad 7 q) 8 (nI i)) g) (ps := []) rfl trivial ?_
      refine go_lret rfl rfl ?_
      have e : lvC f ad b x = (mx0 ((f (ad 6 b) 8) - (f (ad 6 b) 3))).toInt64 := by
        clear hR hT
        unfold lvC ltV
        try unfold mx0
        simp only [isLt, Bool.or_eq_true, beq_iff_eq] at hx
        grind
      rw [e] at hR; exact hR
  refine ⟨fun (c13 : x = 109) => ?_, fun (c13n : ¬ (x = 109)) => ?_⟩
  · -- x = 109
    show Go d 103 0 0 132 [.ref (ad 6 b), .int x] [] (mm M (up2 f (ad 7 q) 8 (nI i)) g) R
    refine go_blk 1 [] (pc' := 133) (vs' := [.ref (ad 6 b), .int x]) (st' := [.long 0]) (M' := mm M (up2 f (ad 7 q) 8 (nI i)) g) (ps := []) rfl trivial ?_
    refine go_lret rfl rfl ?_
    have e : lvC f ad b x = 0 := by
      clear hR hT
      unfold lvC ltV
      try unfold mx0
      simp only [isLt, Bool.or_eq_true, beq_iff_eq] at hx
      grind
    rw [e] at hR; exact hR
  refine ⟨fun (c14 : x = 110) => ?_, fun (c14n : ¬ (x = 110)) => ?_⟩
  · -- x = 110
    show Go d 103 0 0 132 [.ref (ad 6 b), .int x] [] (mm M (up2 f (ad 7 q) 8 (nI i)) g) R
    refine go_blk 1 [] (pc' := 133) (vs' := [.ref (ad 6 b), .int x]) (st' := [.long 0]) (M' := mm M (up2 f (ad 7 q) 8 (nI i)) g) (ps := []) rfl trivial ?_
    refine go_lret rfl rfl ?_
    have e : lvC f ad b x = 0 := by
      clear hR hT
      unfold lvC ltV
      try unfold mx0
      simp only [isLt, Bool.or_eq_true, beq_iff_eq] at hx
      grind
    rw [e] at hR; exact hR
  refine ⟨fun (c15 : x = 111) => ?_, fun (c15n : ¬ (x = 111)) => ?_⟩
  · -- x = 111
    show Go d 103 0 0 132 [.ref (ad 6 b), .int x] [] (mm M (up2 f (ad 7 q) 8 (nI i)) g) R
    refine go_blk 1 [] (pc' := 133) (vs' := [.ref (ad 6 b), .int x]) (st' := [.long 0]) (M' := mm M (up2 f (ad 7 q) 8 (nI i)) g) (ps := []) rfl trivial ?_
    refine go_lret rfl rfl ?_
    have e : lvC f ad b x = 0 := by
      clear hR hT
      unfold lvC ltV
      try unfold mx0
      simp only [isLt, Bool.or_eq_true, beq_iff_eq] at hx
      grind
    rw [e] at hR; exact hR
  refine ⟨fun (c16 : x = 112) => ?_, fun (c16n : ¬ (x = 112)) => ?_⟩
  · -- x = 112
    show Go d 103 0 0 132 [.ref (ad 6 b), .int x] [] (mm M (up2 f (ad 7 q) 8 (nI i)) g) R
    refine go_blk 1 [] (pc' := 133) (vs' := [.ref (ad 6 b), .int x]) (st' := [.long 0]) (M' := mm M (up2 f (ad 7 q) 8 (nI i)) g) (ps := []) rfl trivial ?_
    refine go_lret rfl rfl ?_
    have e : lvC f ad b x = 0 := by
      clear hR hT
      unfold lvC ltV
      try unfold mx0
      simp only [isLt, Bool.or_eq_true, beq_iff_eq] at hx
      grind
    rw [e] at hR; exact hR
  refine ⟨fun (c17 : x = 113) => ?_, fun (c17n : ¬ (x = 113)) => ?_⟩
  · -- x = 113
    show Go d 103 0 0 132 [.ref (ad 6 b), .int x] [] (mm M (up2 f (ad 7 q) 8 (nI i)) g) R
    refine go_blk 1 [] (pc' := 133) (vs' := [.ref (ad 6 b), .int x]) (st' := [.long 0]) (M' := mm M (up2 f (ad 7 q) 8 (nI i)) g) (ps := []) rfl trivial ?_
    refine go_lret rfl rfl ?_
    have e : lvC f ad b x = 0 := by
      clear hR hT
      unfold lvC ltV
      try unfold mx0
      simp only [isLt, Bool.or_eq_true, beq_iff_eq] at hx
      grind
    rw [e] at hR; exact hR
  refine ⟨fun (c18 : x = 114) => ?_, fun (c18n : ¬ (x = 114)) => ?_⟩
  · -- x = 114
    show Go d 103 0 0 92 [.ref (ad 6 b), .int x] [] (mm M (up2 f (ad 7 q) 8 (nI i)) g) R
    refine go_blk 3 [some (.int (f (ad 6 b) 10))] (pc' := 97) (vs' := [.ref (ad 6 b), .int x]) (st' := [.long ((f (ad 6 b) 10).toInt64)]) (M' := mm M (up2 f (ad 7 q) 8 (nI i)) g) (ps := [ob (mm M (up2 f (ad 7 q) 8 (nI i)) g) (ad 6 b) 3, (Value.int ((up2 f (ad 7 q) 8 (nI i)) (ad 6 b) 10)) = .int (f (ad 6 b) 10)]) rfl ⟨hT.1.2.2.2.1, congrArg Value.int ((up2_n _ _ (fun z => absurd (hi _ _ _ _ z.1).1 (by decide))).trans (rfl)), trivial⟩ ?_
    refine go_lret rfl rfl ?_
    have e : lvC f ad b x = (f (ad 6 b) 10).toInt64 := by
      clear hR hT
      unfold lvC ltV
      try unfold mx0
      simp only [isLt, Bool.or_eq_true, beq_iff_eq] at hx
      grind
    rw [e] at hR; exact hR
  show Go d 103 0 0 132 [.ref (ad 6 b), .int x] [] (mm M (up2 f (ad 7 q) 8 (nI i)) g) R
  refine go_blk 1 [] (pc' := 133) (vs' := [.ref (ad 6 b), .int x]) (st' := [.long 0]) (M' := mm M (up2 f (ad 7 q) 8 (nI i)) g) (ps := []) rfl trivial ?_
  refine go_lret rfl rfl ?_
  have e : lvC f ad b x = 0 := by
    clear hR hT
    unfold lvC ltV
    try unfold mx0
    simp only [isLt, Bool.or_eq_true, beq_iff_eq] at hx
    grind
  rw [e] at hR; exact hR

