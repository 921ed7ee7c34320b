/-! texts: the model's parser, walked -/
theorem lg_lt (a b : Int64) : lg_cmp a b < 0 ↔ a < b := by
  unfold lg_cmp
  by_cases c1 : b < a
  · rw [if_pos c1]
    exact ⟨fun z => absurd z (by decide), fun z => by rw [Int64.lt_iff_toInt_lt] at z c1; omega⟩
  · rw [if_neg c1]
    by_cases c2 : a = b
    · rw [if_pos c2, c2]
      exact ⟨fun z => absurd z (by decide), fun z => by rw [Int64.lt_iff_toInt_lt] at z; omega⟩
    · rw [if_neg c2]
      have : ¬ a.toInt = b.toInt := fun z => c2 (Int64.toInt_inj.mp z)
      rw [Int64.lt_iff_toInt_lt] at c1 ⊢
      exact ⟨fun _ => by omega, fun _ => by decide⟩
theorem lg_eq (a b : Int64) : lg_cmp a b = 0 ↔ a = b := by
  unfold lg_cmp
  by_cases c1 : b < a
  · rw [if_pos c1]
    exact ⟨fun z => absurd z (by decide), fun z => by rw [z, Int64.lt_iff_toInt_lt] at c1; omega⟩
  · rw [if_neg c1]
    by_cases c2 : a = b
    · rw [if_pos c2]; exact ⟨fun _ => c2, fun _ => rfl⟩
    · rw [if_neg c2]; exact ⟨fun z => absurd z (by decide), fun z => absurd z c2⟩
theorem lg_gt (a b : Int64) : 0 < lg_cmp a b ↔ b < a := by
  unfold lg_cmp
  by_cases c1 : b < a
  · rw [if_pos c1]; exact ⟨fun _ => c1, fun _ => by decide⟩
  · rw [if_neg c1]
    by_cases c2 : a = b
    · rw [if_pos c2]; exact ⟨fun z => absurd z (by decide), fun z => absurd z c1⟩
    · rw [if_neg c2]; exact ⟨fun z => absurd z (by decide), fun z => absurd z c1⟩
theorem up2_up2 {α : Type} (f : Nat → Nat → α) (a j : Nat) (v w : α) : up2 (up2 f a j v) a j w = up2 f a j w := by
  funext b k
  simp only [up2]
  split <;> rfl
theorem up2_self {α : Type} {f : Nat → Nat → α} {a j : Nat} {v : α} (h : f a j = v) : up2 f a j v = f := by
  funext b k
  simp only [up2]
  split
  · rename_i c; rw [c.1, c.2, h]
  · rfl
/-- a signed byte of an unsigned one -/
theorem bts_is {x y : Int32} (h : bts x y) : y = x.toInt8.toInt32 := by
  obtain ⟨h1, -, h3⟩ := h
  rw [← h1, ← h3]
  congr 1
  apply Int8.toBitVec_inj.mp
  rw [Int32.toBitVec_toInt8, Int32.toBitVec_toInt8, h3, Int32.toBitVec_and]
  apply BitVec.eq_of_getLsbD_eq
  intro i hi
  have hm : ∀ i < 8, (255 : Int32).toBitVec.getLsbD i = true := by decide
  rw [BitVec.getLsbD_signExtend, BitVec.getLsbD_signExtend, if_pos (show i < 32 by omega), if_pos (show i < 32 by omega), BitVec.getLsbD_and, hm i hi, Bool.and_true]
theorem by_32 : ∀ m, m < 256 → ((nI m).toInt8.toInt32 = 32 ↔ nI m = 32) ∧ ((48 ≤ (nI m).toInt8.toInt32 ∧ (nI m).toInt8.toInt32 ≤ 57) ↔ isDg (nI m) = true) ∧ (isDg (nI m) = true → (nI m).toInt8.toInt32 = nI m) := by decide +kernel
/-- the model's letters -/
def ltV (r d : Int32) : Int32 := if r = -1 then -1 else if (0 : Int32) < r - d then r - d else 0
def lvM (f : Nat → Nat → Int32) (ad : Nat → Nat → Nat) (j : Nat) (b : Int32) : Int64 := if b = 99 then (f (ad 9 35) j).toInt64 else if b = 100 then (f (ad 9 43) j).toInt64 else if b = 103 then (f (ad 9 42) j).toInt64 else if b = 108 then (ltV (f (ad 9 38) j) (f (ad 9 34) j)).toInt64 else if b = 114 then (f (ad 9 40) j).toInt64 else (f (ad 9 37) j / 60).toInt64
/-- the model's parser at work on a text -/
def MX (M : Mem) (ad : Nat → Nat → Nat) (A fr L : Nat) (t : Nat → Int32) (lv : Int32 → Int64) (j : Nat) (f : Nat → Nat → Int32) : Prop :=
  (Mx M ad ∧ Inj ad ∧ (A = ad 9 75 ∨ A = ad 9 76) ∧ mR M (ad 10 0) 82 = some A ∧ ob M A 14 ∧ fr + L ≤ mN M A ∧ L ≤ 120 ∧ fr ≤ 2400 ∧ j < 364) ∧ f (ad 10 0) 83 = nI fr ∧ f (ad 10 0) 84 = nI L ∧ f (ad 10 0) 88 = nI j ∧ (∀ k, k < L → bts (t k) (f A (fr + k)) ∧ ∃ m, m < 256 ∧ t k = nI m) ∧ ∀ b, isLt b = true → lv b = lvM f ad j b
def MK (ad : Nat → Nat → Nat) (f f' : Nat → Nat → Int32) : Prop := ∀ b k, ¬ (b = ad 10 0 ∧ 85 ≤ k ∧ k ≤ 87) → f' b k = f b k
theorem MK.refl {ad : Nat → Nat → Nat} {f : Nat → Nat → Int32} : MK ad f f := fun _ _ _ => rfl
theorem MK.trans {ad : Nat → Nat → Nat} {f f1 f2 : Nat → Nat → Int32} (h1 : MK ad f f1) (h2 : MK ad f1 f2) : MK ad f f2 := fun b k h => (h2 b k h).trans (h1 b k h)
theorem MK.up {ad : Nat → Nat → Nat} {f f1 : Nat → Nat → Int32} {k : Nat} {v : Int32} (h1 : MK ad f f1) (h : 85 ≤ k ∧ k ≤ 87) : MK ad f (up2 f1 (ad 10 0) k v) := fun b k' hn => (up2_n _ _ (fun z => hn ⟨z.1, by omega, by omega⟩)).trans (h1 b k' hn)
def PS (ad : Nat → Nat → Nat) (f : Nat → Nat → Int32) (i dp : Nat) : Prop := f (ad 10 0) 85 = nI i ∧ f (ad 10 0) 86 = -1 ∧ f (ad 10 0) 87 = nI dp
section MXS
variable {M : Mem} {ad : Nat → Nat → Nat} {A fr L : Nat} {t : Nat → Int32} {lv : Int32 → Int64} {j : Nat} {f f' : Nat → Nat → Int32}
theorem MX.keep (h : MX M ad A fr L t lv j f) (k : MK ad f f') : MX M ad A fr L t lv j f' := by
  obtain ⟨h0, h1, h2, h3, h4, h5⟩ := h
  have hi := h0.2.1
  have hA : ¬ A = ad 10 0 := by
    rcases h0.2.2.1 with z | z <;> rw [z] <;> exact fun y => absurd (hi _ _ _ _ y).1 (by decide)
  have k9 : ∀ i q, f' (ad 9 i) q = f (ad 9 i) q := fun i q => k _ _ (fun z => absurd (hi _ _ _ _ z.1).1 (by decide))
  refine ⟨h0, (k _ _ (by omega)).trans h1, (k _ _ (by omega)).trans h2, (k _ _ (by omega)).trans h3, fun q hq => ?_, fun b hb => ?_⟩
  · rw [k _ _ (fun z => hA z.1)]; exact h4 q hq
  · rw [h5 b hb]; unfold lvM; rw [k9, k9, k9, k9, k9, k9, k9]
theorem MX.m (h : MX M ad A fr L t lv j f) : Mx M ad := h.1.1
theorem MX.ix (h : MX M ad A fr L t lv j f) {i : Nat} (hi : i < L) : vp_in (nI fr + nI i) (mN M A) ∧ (nI fr + nI i).toNatClampNeg = fr + i := by
  obtain ⟨-, -, -, -, -, q1, q2, q3, -⟩ := h.1
  rw [nI_add]
  refine ⟨?_, nI_clamp (by omega)⟩
  have : vp_in (nI (fr + i)) (fr + L) := vp_in_nI (by omega) (by omega)
  unfold vp_in at this ⊢
  exact fun z => this (by rcases z with z | z; exact Or.inl z; exact Or.inr (by omega))
theorem MX.byte (h : MX M ad A fr L t lv j f) {i : Nat} (hi : i < L) : (f A (fr + i) = 32 ↔ t i = 32) ∧ ((48 ≤ f A (fr + i) ∧ f A (fr + i) ≤ 57) ↔ isDg (t i) = true) ∧ f A (fr + i) &&& 255 = t i ∧ (isDg (t i) = true → f A (fr + i) = t i) := by
  obtain ⟨hb, m, hm, e⟩ := h.2.2.2.2.1 i hi
  have hy := bts_is hb
  obtain ⟨z1, z2, z3⟩ := by_32 m hm
  refine ⟨by rw [hy, e]; exact z1, by rw [hy, e]; exact z2, hb.1, fun q => ?_⟩
  rw [hy]
  rw [e] at q ⊢
  exact z3 q
end MXS

set_option maxRecDepth 100000 in
theorem lp_Mo_look0 {d : Nat} {M : Mem} {g : Nat → Nat → Int64} {ad : Nat → Nat → Nat} {R : Option Value → Mem → Prop} {A fr L j : Nat} {t : Nat → Int32} {lv : Int32 → Int64} : ∀ (m i : Nat) (f : Nat → Nat → Int32), i + m = L → MX M ad A fr L t lv j f → f (ad 10 0) 85 = nI i → (sk t L i < L → R (some (.int (t (sk t L i)))) (mm M (up2 f (ad 10 0) 85 (nI (sk t L i))) g)) → (¬ sk t L i < L → R (some (.int (-1))) (mm M (up2 f (ad 10 0) 85 (nI (sk t L i))) g)) → Go d 241 0 0 0 [.ref (ad 10 0)] [] (mm M f g) R := by
  intro m
  induction m with
  | zero =>
    intro i f him hX ha h1 h0
    obtain rfl : i = L := by omega
    have es : sk t i i = i := by unfold sk; rw [Nat.sub_self]; rfl
    rw [es, up2_self ha] at h0
    have hL0 := hX.1.2.2.2.2.2.2.1
    show Go d 241 0 0 0 [.ref (ad 10 0)] [] (mm M f g) R
    refine go_blk 4 [some (.int (nI i)), some (.int (nI i))] (pc' := 8) (vs' := [.ref (ad 10 0)]) (st' := [.int (nI i), .int (nI i)]) (M' := mm M f g) (ps := [ob (mm M f g) (ad 10 0) 12, (Value.int (f (ad 10 0) 85)) = .int (nI i), ob (mm M f g) (ad 10 0) 12, (Value.int (f (ad 10 0) 84)) = .int (nI i)]) rfl ⟨hX.m.1, congrArg Value.int ha, hX.m.1, congrArg Value.int hX.2.2.1, trivial⟩ ?_
    refine go_icmp rfl (fun _ => ?_) (fun (z : ¬ (nI i ≤ (nI i))) => absurd (show nI i ≤ (nI i) from Int32.le_refl _) z)
    refine go_blk 4 [some (.int (nI i)), some (.int (nI i))] (pc' := 51) (vs' := [.ref (ad 10 0)]) (st' := [.int (nI i), .int (nI i)]) (M' := mm M f g) (ps := [ob (mm M f g) (ad 10 0) 12, (Value.int (f (ad 10 0) 85)) = .int (nI i), ob (mm M f g) (ad 10 0) 12, (Value.int (f (ad 10 0) 84)) = .int (nI i)]) rfl ⟨hX.m.1, congrArg Value.int ha, hX.m.1, congrArg Value.int hX.2.2.1, trivial⟩ ?_
    refine go_icmp rfl (fun _ => ?_) (fun (z : ¬ (nI i ≤ (nI i))) => absurd (show nI i ≤ (nI i) from Int32.le_refl _) z)
    refine go_blk 1 [] (pc' := 76) (vs' := [.ref (ad 10 0)]) (st' := [.int (-1)]) (M' := mm M f g) (ps := []) rfl trivial ?_
    refine go_iret rfl rfl ?_
    exact h0 (by omega)
  | succ m ih =>
    intro i f him hX ha h1 h0
    have hL0 := hX.1.2.2.2.2.2.2.1
    have hlt : i < L := by omega
    obtain ⟨b1, b2, b3, b4⟩ := hX.byte hlt
    have es : sk t L i = if t i = 32 then sk t L (i + 1) else i := by unfold sk; rw [show L - i = m + 1 by omega, skN, show L - (i + 1) = m by omega]
    by_cases c : t i = 32
    · rw [if_pos c] at es
      rw [es] at h1 h0
      show Go d 241 0 0 0 [.ref (ad 10 0)] [] (mm M f g) R
      refine go_blk 4 [some (.int (nI i)), some (.int (nI L))] (pc' := 8) (vs' := [.ref (ad 10 0)]) (st' := [.int (nI L), .int (nI i)]) (M' := mm M f g) (ps := [ob (mm M f g) (ad 10 0) 12, (Value.int (f (ad 10 0) 85)) = .int (nI i), ob (mm M f g) (ad 10 0) 12, (Value.int (f (ad 10 0) 84)) = .int (nI L)]) rfl ⟨hX.m.1, congrArg Value.int ha, hX.m.1, congrArg Value.int hX.2.2.1, trivial⟩ ?_
      refine go_icmp rfl (fun (z : nI L ≤ (nI i)) => absurd z (show ¬ (nI L ≤ (nI i)) from (Int32.not_le.mpr ((nI_lts (a := i) (b := L) (by omega) (by omega)).mpr hlt)))) (fun _ => ?_)
      refine go_blk 9 [some (.ref A), some (.int (nI fr)), some (.int (nI i)), some (.int (f A (fr + i)))] (pc' := 27) (vs' := [.ref (ad 10 0)]) (st' := [.int 32, .int (f A (fr + i))]) (M' := mm M f g) (ps := [ob (mm M f g) (ad 10 0) 12, mR (mm M f g) (ad 10 0) 82 = some A, va_rf (some A) = .ref A, ob (mm M f g) (ad 10 0) 12, (Value.int (f (ad 10 0) 83)) = .int (nI fr), ob (mm M f g) (ad 10 0) 12, (Value.int (f (ad 10 0) 85)) = .int (nI i), ob (mm M f g) A 14, 14 = 13 ∨ 14 = 14, vp_in ((nI fr) + (nI i)) (mN (mm M f g) A), (Value.int (f A (((nI fr) + (nI i)).toNatClampNeg))) = .int (f A (fr + i))]) rfl ⟨hX.m.1, hX.1.2.2.2.1, rfl, hX.m.1, congrArg Value.int hX.2.1, hX.m.1, congrArg Value.int ha, hX.1.2.2.2.2.1, (by decide), (hX.ix hlt).1, congrArg Value.int (congrArg (fun z => f A z) (hX.ix hlt).2), trivial⟩ ?_
      refine go_icmp rfl (fun (z : ¬ (f A (fr + i)) = 32) => absurd z (show ¬ (¬ (f A (fr + i)) = 32) from (not_not_intro (b1.mpr c)))) (fun _ => ?_)
      refine go_blk 7 [some (.int (nI i))] (pc' := 0) (vs' := [.ref (ad 10 0)]) (st' := []) (M' := mm M (up2 f (ad 10 0) 85 ((nI i) + 1)) g) (ps := [(.ref (ad 10 0) : Value).category = 1, ob (mm M f g) (ad 10 0) 12, (Value.int (f (ad 10 0) 85)) = .int (nI i), ob (mm M f g) (ad 10 0) 12]) rfl ⟨rfl, hX.m.1, congrArg Value.int ha, hX.m.1, trivial⟩ ?_
      rw [show nI i + 1 = nI (i + 1) from nI_add i 1]
      refine ih (i + 1) _ (by omega) (hX.keep (MK.refl.up (by omega))) (up2_s _ _ _ _) (fun z => ?_) (fun z => ?_)
      · rw [up2_up2]; exact h1 z
      · rw [up2_up2]; exact h0 z
    · rw [if_neg c] at es
      rw [es, up2_self ha] at h1
      show Go d 241 0 0 0 [.ref (ad 10 0)] [] (mm M f g) R
      refine go_blk 4 [some (.int (nI i)), some (.int (nI L))] (pc' := 8) (vs' := [.ref (ad 10 0)]) (st' := [.int (nI L), .int (nI i)]) (M' := mm M f g) (ps := [ob (mm M f g) (ad 10 0) 12, (Value.int (f (ad 10 0) 85)) = .int (nI i), ob (mm M f g) (ad 10 0) 12, (Value.int (f (ad 10 0) 84)) = .int (nI L)]) rfl ⟨hX.m.1, congrArg Value.int ha, hX.m.1, congrArg Value.int hX.2.2.1, trivial⟩ ?_
      refine go_icmp rfl (fun (z : nI L ≤ (nI i)) => absurd z (show ¬ (nI L ≤ (nI i)) from (Int32.not_le.mpr ((nI_lts (a := i) (b := L) (by omega) (by omega)).mpr hlt)))) (fun _ => ?_)
      refine go_blk 9 [some (.ref A), some (.int (nI fr)), some (.int (nI i)), some (.int (f A (fr + i)))] (pc' := 27) (vs' := [.ref (ad 10 0)]) (st' := [.int 32, .int (f A (fr + i))]) (M' := mm M f g) (ps := [ob (mm M f g) (ad 10 0) 12, mR (mm M f g) (ad 10 0) 82 = some A, va_rf (some A) = .ref A, ob (mm M f g) (ad 10 0) 12, (Value.int (f (ad 10 0) 83)) = .int (nI fr), ob (mm M f g) (ad 10 0) 12, (Value.int (f (ad 10 0) 85)) = .int (nI i), ob (mm M f g) A 14, 14 = 13 ∨ 14 = 14, vp_in ((nI fr) + (nI i)) (mN (mm M f g) A), (Value.int (f A (((nI fr) + (nI i)).toNatClampNeg))) = .int (f A (fr + i))]) rfl ⟨hX.m.1, hX.1.2.2.2.1, rfl, hX.m.1, congrArg Value.int hX.2.1, hX.m.1, congrArg Value.int ha, hX.1.2.2.2.2.1, (by decide), (hX.ix hlt).1, congrArg Value.int (congrArg (fun z => f A z) (hX.ix hlt).2), trivial⟩ ?_
      refine go_icmp rfl (fun _ => ?_) (fun (z : ¬ (¬ (f A (fr + i)) = 32)) => absurd (show ¬ (f A (fr + i)) = 32 from (fun z => c (b1.mp z))) z)
      refine go_blk 4 [some (.int (nI i)), some (.int (nI L))] (pc' := 51) (vs' := [.ref (ad 10 0)]) (st' := [.int (nI L), .int (nI i)]) (M' := mm M f g) (ps := [ob (mm M f g) (ad 10 0) 12, (Value.int (f (ad 10 0) 85)) = .int (nI i), ob (mm M f g) (ad 10 0) 12, (Value.int (f (ad 10 0) 84)) = .int (nI L)]) rfl ⟨hX.m.1, congrArg Value.int ha, hX.m.1, congrArg Value.int hX.2.2.1, trivial⟩ ?_
      refine go_icmp rfl (fun (z : nI L ≤ (nI i)) => absurd z (show ¬ (nI L ≤ (nI i)) from (Int32.not_le.mpr ((nI_lts (a := i) (b := L) (by omega) (by omega)).mpr hlt)))) (fun _ => ?_)
      refine go_blk 11 [some (.ref A), some (.int (nI fr)), some (.int (nI i)), some (.int (f A (fr + i)))] (pc' := 76) (vs' := [.ref (ad 10 0)]) (st' := [.int ((f A (fr + i)) &&& 255)]) (M' := mm M f g) (ps := [ob (mm M f g) (ad 10 0) 12, mR (mm M f g) (ad 10 0) 82 = some A, va_rf (some A) = .ref A, ob (mm M f g) (ad 10 0) 12, (Value.int (f (ad 10 0) 83)) = .int (nI fr), ob (mm M f g) (ad 10 0) 12, (Value.int (f (ad 10 0) 85)) = .int (nI i), ob (mm M f g) A 14, 14 = 13 ∨ 14 = 14, vp_in ((nI fr) + (nI i)) (mN (mm M f g) A), (Value.int (f A (((nI fr) + (nI i)).toNatClampNeg))) = .int (f A (fr + i))]) rfl ⟨hX.m.1, hX.1.2.2.2.1, rfl, hX.m.1, congrArg Value.int hX.2.1, hX.m.1, congrArg Value.int ha, hX.1.2.2.2.2.1, (by decide), (hX.ix hlt).1, congrArg Value.int (congrArg (fun z => f A z) (hX.ix hlt).2), trivial⟩ ?_
      refine go_iret rfl rfl ?_
      rw [b3]; exact h1 hlt

theorem s_Mo_look0 {d : Nat} {M : Mem} {f : Nat → Nat → Int32} {g : Nat → Nat → Int64} {ad : Nat → Nat → Nat} {R : Option Value → Mem → Prop} {A fr L j : Nat} {t : Nat → Int32} {lv : Int32 → Int64} {i : Nat} (hX : MX M ad A fr L t lv j f) (hi : i ≤ L) (ha : f (ad 10 0) 85 = nI i) (h1 : sk t L i < L → R (some (.int (t (sk t L i)))) (mm M (up2 f (ad 10 0) 85 (nI (sk t L i))) g)) (h0 : ¬ sk t L i < L → R (some (.int (-1))) (mm M (up2 f (ad 10 0) 85 (nI (sk t L i))) g)) : Call d 241 [.ref (ad 10 0)] (mm M f g) R := lp_Mo_look0 (L - i) i f (by omega) hX ha h1 h0
theorem s_Mo_lookS {d : Nat} {M : Mem} {f : Nat → Nat → Int32} {g : Nat → Nat → Int64} {ad : Nat → Nat → Nat} {R : Option Value → Mem → Prop} {A fr L j : Nat} {t : Nat → Int32} {lv : Int32 → Int64} {i : Nat} (hX : MX M ad A fr L t lv j f) (hi : i ≤ L) (hs : sk t L i = i) (ha : f (ad 10 0) 85 = nI i) (h1 : i < L → R (some (.int (t i))) (mm M f g)) (h0 : ¬ i < L → R (some (.int (-1))) (mm M f g)) : Call d 241 [.ref (ad 10 0)] (mm M f g) R := by
  refine s_Mo_look0 hX hi ha (fun z => ?_) (fun z => ?_)
  · rw [hs] at z ⊢; rw [up2_self ha]; exact h1 z
  · rw [hs] at z ⊢; rw [up2_self ha]; exact h0 z

set_option maxRecDepth 100000 in
theorem s_Mo_isDigit {d : Nat} {M : Mem} {f : Nat → Nat → Int32} {g : Nat → Nat → Int64} {ad : Nat → Nat → Nat} {R : Option Value → Mem → Prop} {A fr L j : Nat} {t : Nat → Int32} {lv : Int32 → Int64} {i : Nat} (hX : MX M ad A fr L t lv j f) (hi : i ≤ L) (ha : f (ad 10 0) 85 = nI i) (h1 : (i < L ∧ isDg (t i) = true) → R (some (.int 1)) (mm M f g)) (h0 : ¬ (i < L ∧ isDg (t i) = true) → R (some (.int 0)) (mm M f g)) : Call d 244 [.ref (ad 10 0)] (mm M f g) R := by
  have hL0 := hX.1.2.2.2.2.2.2.1
  by_cases hlt : i < L
  ·
    obtain ⟨b1, b2, b3, b4⟩ := hX.byte hlt
    show Go d 244 0 0 0 [.ref (ad 10 0)] [] (mm M f g) R
    refine go_blk 4 [some (.int (nI i)), some (.int (nI L))] (pc' := 8) (vs' := [.ref (ad 10 0)]) (st' := [.int (nI L), .int (nI i)]) (M' := mm M f g) (ps := [ob (mm M f g) (ad 10 0) 12, (Value.int (f (ad 10 0) 85)) = .int (nI i), ob (mm M f g) (ad 10 0) 12, (Value.int (f (ad 10 0) 84)) = .int (nI L)]) rfl ⟨hX.m.1, congrArg Value.int ha, hX.m.1, congrArg Value.int hX.2.2.1, trivial⟩ ?_
    refine go_icmp rfl (fun (z : nI L ≤ (nI i)) => absurd z (show ¬ (nI L ≤ (nI i)) from (Int32.not_le.mpr ((nI_lts (a := i) (b := L) (by omega) (by omega)).mpr hlt)))) (fun _ => ?_)
    refine go_blk 9 [some (.ref A), some (.int (nI fr)), some (.int (nI i)), some (.int (f A (fr + i)))] (pc' := 27) (vs' := [.ref (ad 10 0)]) (st' := [.int 48, .int (f A (fr + i))]) (M' := mm M f g) (ps := [ob (mm M f g) (ad 10 0) 12, mR (mm M f g) (ad 10 0) 82 = some A, va_rf (some A) = .ref A, ob (mm M f g) (ad 10 0) 12, (Value.int (f (ad 10 0) 83)) = .int (nI fr), ob (mm M f g) (ad 10 0) 12, (Value.int (f (ad 10 0) 85)) = .int (nI i), ob (mm M f g) A 14, 14 = 13 ∨ 14 = 14, vp_in ((nI fr) + (nI i)) (mN (mm M f g) A), (Value.int (f A (((nI fr) + (nI i)).toNatClampNeg))) = .int (f A (fr + i))]) rfl ⟨hX.m.1, hX.1.2.2.2.1, rfl, hX.m.1, congrArg Value.int hX.2.1, hX.m.1, congrArg Value.int ha, hX.1.2.2.2.2.1, (by decide), (hX.ix hlt).1, congrArg Value.int (congrArg (fun z => f A z) (hX.ix hlt).2), trivial⟩ ?_
    refine go_icmp rfl (fun (c1 : (f A (fr + i)) < 48) => ?_) (fun (c1 : ¬ ((f A (fr + i)) < 48)) => ?_)
    · -- (f A (fr + i)) < 48
      refine go_blk 1 [] (pc' := 54) (vs' := [.ref (ad 10 0)]) (st' := [.int 0]) (M' := mm M f g) (ps := []) rfl trivial ?_
      refine go_zret rfl rfl (Or.inl rfl) ?_
      exact h0 (fun z => by have y := b2.mpr z.2; grind)
    · -- ¬ ((f A (fr + i)) < 48)
      refine go_blk 9 [some (.ref A), some (.int (nI fr)), some (.int (nI i)), some (.int (f A (fr + i)))] (pc' := 46) (vs' := [.ref (ad 10 0)]) (st' := [.int 57, .int (f A (fr + i))]) (M' := mm M f g) (ps := [ob (mm M f g) (ad 10 0) 12, mR (mm M f g) (ad 10 0) 82 = some A, va_rf (some A) = .ref A, ob (mm M f g) (ad 10 0) 12, (Value.int (f (ad 10 0) 83)) = .int (nI fr), ob (mm M f g) (ad 10 0) 12, (Value.int (f (ad 10 0) 85)) = .int (nI i), ob (mm M f g) A 14, 14 = 13 ∨ 14 = 14, vp_in ((nI fr) + (nI i)) (mN (mm M f g) A), (Value.int (f A (((nI fr) + (nI i)).toNatClampNeg))) = .int (f A (fr + i))]) rfl ⟨hX.m.1, hX.1.2.2.2.1, rfl, hX.m.1, congrArg Value.int hX.2.1, hX.m.1, congrArg Value.int ha, hX.1.2.2.2.2.1, (by decide), (hX.ix hlt).1, congrArg Value.int (congrArg (fun z => f A z) (hX.ix hlt).2), trivial⟩ ?_
      refine go_icmp rfl (fun (c2 : 57 < (f A (fr + i))) => ?_) (fun (c2 : ¬ (57 < (f A (fr + i)))) => ?_)
      · -- 57 < (f A (fr + i))
        refine go_blk 1 [] (pc' := 54) (vs' := [.ref (ad 10 0)]) (st' := [.int 0]) (M' := mm M f g) (ps := []) rfl trivial ?_
        refine go_zret rfl rfl (Or.inl rfl) ?_
        exact h0 (fun z => by have y := b2.mpr z.2; grind)
      · -- ¬ (57 < (f A (fr + i)))
        refine go_blk 2 [] (pc' := 54) (vs' := [.ref (ad 10 0)]) (st' := [.int 1]) (M' := mm M f g) (ps := []) rfl trivial ?_
        refine go_zret rfl rfl (Or.inr rfl) ?_
        exact h1 ⟨hlt, b2.mp (by grind)⟩
  ·
    show Go d 244 0 0 0 [.ref (ad 10 0)] [] (mm M f g) R
    refine go_blk 4 [some (.int (nI i)), some (.int (nI L))] (pc' := 8) (vs' := [.ref (ad 10 0)]) (st' := [.int (nI L), .int (nI i)]) (M' := mm M f g) (ps := [ob (mm M f g) (ad 10 0) 12, (Value.int (f (ad 10 0) 85)) = .int (nI i), ob (mm M f g) (ad 10 0) 12, (Value.int (f (ad 10 0) 84)) = .int (nI L)]) rfl ⟨hX.m.1, congrArg Value.int ha, hX.m.1, congrArg Value.int hX.2.2.1, trivial⟩ ?_
    refine go_icmp rfl (fun _ => ?_) (fun (z : ¬ (nI L ≤ (nI i))) => absurd (show nI L ≤ (nI i) from ((nI_les (a := L) (b := i) (by omega) (by omega)).mpr (by omega))) z)
    refine go_blk 1 [] (pc' := 54) (vs' := [.ref (ad 10 0)]) (st' := [.int 0]) (M' := mm M f g) (ps := []) rfl trivial ?_
    refine go_zret rfl rfl (Or.inl rfl) ?_
    exact h0 (fun z => hlt z.1)

-- 

set_option maxRecDepth 100000 in
theorem s_JM_min1 {d : Nat} {M : Mem} {f : Nat → Nat → Int32} {g : Nat → Nat → Int64} {R : Option Value → Mem → Prop} {x y : Int64} (hd : 0 ≤ d) (hR : R (some (.long (if x < y then x else y))) (mm M f g)) : Call d 4 [.long x, .long y] (mm M f g) R := by
  show Go d 4 0 0 0 [.long x, .retAddr 1, .long y, .retAddr 1] [] (mm M f g) R
  refine go_blk 3 [] (pc' := 3) (vs' := [.long x, .retAddr 1, .long y, .retAddr 1]) (st' := [.int (lg_cmp x y)]) (M' := mm M f g) (ps := []) rfl trivial ?_
  refine go_if rfl (fun (c1 : 0 < (lg_cmp x y)) => ?_) (fun (c1 : ¬ (0 < (lg_cmp x y))) => ?_)
  · -- 0 < (lg_cmp x y)
    refine go_blk 1 [] (pc' := 11) (vs' := [.long x, .retAddr 1, .long y, .retAddr 1]) (st' := [.long y]) (M' := mm M f g) (ps := []) rfl trivial ?_
    refine go_lret rfl rfl ?_
    have e : (if x < y then x else y) = y := by
      clear hR
      have q1 := lg_lt x y
      have q2 := lg_gt x y
      have q3 := lg_eq x y
      have q4 := Int64.lt_iff_toInt_lt (x := x) (y := y)
      have q5 := Int64.lt_iff_toInt_lt (x := y) (y := x)
      have q6 := @Int64.toInt_inj x y
      grind
    rw [e] at hR; exact hR
  · -- ¬ (0 < (lg_cmp x y))
    refine go_blk 2 [] (pc' := 11) (vs' := [.long x, .retAddr 1, .long y, .retAddr 1]) (st' := [.long x]) (M' := mm M f g) (ps := []) rfl trivial ?_
    refine go_lret rfl rfl ?_
    have e : (if x < y then x else y) = x := by
      clear hR
      have q1 := lg_lt x y
      have q2 := lg_gt x y
      have q3 := lg_eq x y
      have q4 := Int64.lt_iff_toInt_lt (x := x) (y := y)
      have q5 := Int64.lt_iff_toInt_lt (x := y) (y := x)
      have q6 := @Int64.toInt_inj x y
      grind
    rw [e] at hR; exact hR

set_option maxRecDepth 100000 in
theorem s_JM_max1 {d : Nat} {M : Mem} {f : Nat → Nat → Int32} {g : Nat → Nat → Int64} {R : Option Value → Mem → Prop} {x y : Int64} (hd : 0 ≤ d) (hR : R (some (.long (if x < y then y else x))) (mm M f g)) : Call d 3 [.long x, .long y] (mm M f g) R := by
  show Go d 3 0 0 0 [.long x, .retAddr 1, .long y, .retAddr 1] [] (mm M f g) R
  refine go_blk 3 [] (pc' := 3) (vs' := [.long x, .retAddr 1, .long y, .retAddr 1]) (st' := [.int (lg_cmp x y)]) (M' := mm M f g) (ps := []) rfl trivial ?_
  refine go_if rfl (fun (c1 : (lg_cmp x y) < 0) => ?_) (fun (c1 : ¬ ((lg_cmp x y) < 0)) => ?_)
  · -- (lg_cmp x y) < 0
    refine go_blk 1 [] (pc' := 11) (vs' := [.long x, .retAddr 1, .long y, .retAddr 1]) (st' := [.long y]) (M' := mm M f g) (ps := []) rfl trivial ?_
    refine go_lret rfl rfl ?_
    have e : (if x < y then y else x) = y := by
      clear hR
      have q1 := lg_lt x y
      have q2 := lg_gt x y
      have q3 := lg_eq x y
      have q4 := Int64.lt_iff_toInt_lt (x := x) (y := y)
      have q5 := Int64.lt_iff_toInt_lt (x := y) (y := x)
      have q6 := @Int64.toInt_inj x y
      grind
    rw [e] at hR; exact hR
  · -- ¬ ((lg_cmp x y) < 0)
    refine go_blk 2 [] (pc' := 11) (vs' := [.long x, .retAddr 1, .long y, .retAddr 1]) (st' := [.long x]) (M' := mm M f g) (ps := []) rfl trivial ?_
    refine go_lret rfl rfl ?_
    have e : (if x < y then y else x) = x := by
      clear hR
      have q1 := lg_lt x y
      have q2 := lg_gt x y
      have q3 := lg_eq x y
      have q4 := Int64.lt_iff_toInt_lt (x := x) (y := y)
      have q5 := Int64.lt_iff_toInt_lt (x := y) (y := x)
      have q6 := @Int64.toInt_inj x y
      grind
    rw [e] at hR; exact hR

theorem bd1 (v : Int64) : (if (-1000000000 : Int64) < (if (1000000000 : Int64) < v then 1000000000 else v) then (if (1000000000 : Int64) < v then 1000000000 else v) else -1000000000) = bdV v := by
  unfold bdV
  simp only [Int64.lt_iff_toInt_lt, show (-1000000000 : Int64).toInt = -1000000000 from rfl, show (1000000000 : Int64).toInt = 1000000000 from rfl]
  by_cases c1 : 1000000000 < v.toInt
  · simp [c1, show ¬ v.toInt < -1000000000 by omega]
  · by_cases c2 : v.toInt < -1000000000
    · simp [c1, c2, show ¬ -1000000000 < v.toInt by omega]
    · by_cases c3 : -1000000000 < v.toInt
      · simp [c1, c2, c3]
      · have : v = -1000000000 := Int64.toInt_inj.mp (by show v.toInt = -1000000000; omega)
        subst this; decide
theorem bd2 (v : Int64) : (if (-1000000000 : Int64) < (if v < (1000000000 : Int64) then v else 1000000000) then (if v < (1000000000 : Int64) then v else 1000000000) else -1000000000) = bdV v := by
  rw [← bd1 v]
  have e : (if v < (1000000000 : Int64) then v else 1000000000) = (if (1000000000 : Int64) < v then 1000000000 else v) := by
    simp only [Int64.lt_iff_toInt_lt, show (1000000000 : Int64).toInt = 1000000000 from rfl]
    by_cases c1 : 1000000000 < v.toInt
    · simp [c1, show ¬ v.toInt < 1000000000 by omega]
    · by_cases c2 : v.toInt < 1000000000
      · simp [c1, c2]
      · have : v = 1000000000 := Int64.toInt_inj.mp (by show v.toInt = 1000000000; omega)
        subst this; decide
  rw [e]

set_option maxRecDepth 100000 in
theorem s_Mo_bound {d : Nat} {M : Mem} {f : Nat → Nat → Int32} {g : Nat → Nat → Int64} {R : Option Value → Mem → Prop} {v : Int64} (hd : 1 ≤ d) (hR : R (some (.long (bdV v))) (mm M f g)) : Call d 243 [.long v] (mm M f g) R := by
  show Go d 243 0 0 0 [.long v, .retAddr 1] [] (mm M f g) R
  refine go_blk 3 [] (pc' := 7) (vs' := [.long v, .retAddr 1]) (st' := [.long v, .long 1000000000, .long (-1000000000)]) (M' := mm M f g) (ps := []) rfl trivial ?_
  refine go_callS rfl (by decide) rfl rfl (by omega) rfl (by decide) (by decide) ?_
  refine s_JM_min1 (by omega) ⟨ne_l, ?_⟩
  show Go d 243 0 0 10 [.long v, .retAddr 1] [.long (if (1000000000 : Int64) < v then 1000000000 else v), .long (-1000000000)] (mm M f g) R
  refine go_callS rfl (by decide) rfl rfl (by omega) rfl (by decide) (by decide) ?_
  refine s_JM_max1 (by omega) ⟨ne_l, ?_⟩
  show Go d 243 0 0 13 [.long v, .retAddr 1] [.long (if ((-1000000000) : Int64) < (if (1000000000 : Int64) < v then 1000000000 else v) then (if (1000000000 : Int64) < v then 1000000000 else v) else (-1000000000))] (mm M f g) R
  refine go_lret rfl rfl ?_
  first | (rw [← bd1] at hR; exact hR) | (rw [← bd2] at hR; exact hR)

set_option maxRecDepth 100000 in
theorem s_Tx_bounded {d : Nat} {M : Mem} {f : Nat → Nat → Int32} {g : Nat → Nat → Int64} {R : Option Value → Mem → Prop} {v : Int64} (hd : 1 ≤ d) (hR : R (some (.long (bdV v))) (mm M f g)) : Call d 105 [.long v] (mm M f g) R := by
  show Go d 105 0 0 0 [.long v, .retAddr 1] [] (mm M f g) R
  refine go_blk 3 [] (pc' := 7) (vs' := [.long v, .retAddr 1]) (st' := [.long 1000000000, .long v, .long (-1000000000)]) (M' := mm M f g) (ps := []) rfl trivial ?_
  refine go_callS rfl (by decide) rfl rfl (by omega) rfl (by decide) (by decide) ?_
  refine s_JM_min1 (by omega) ⟨ne_l, ?_⟩
  show Go d 105 0 0 10 [.long v, .retAddr 1] [.long (if v < (1000000000 : Int64) then v else 1000000000), .long (-1000000000)] (mm M f g) R
  refine go_callS rfl (by decide) rfl rfl (by omega) rfl (by decide) (by decide) ?_
  refine s_JM_max1 (by omega) ⟨ne_l, ?_⟩
  show Go d 105 0 0 13 [.long v, .retAddr 1] [.long (if ((-1000000000) : Int64) < (if v < (1000000000 : Int64) then v else 1000000000) then (if v < (1000000000 : Int64) then v else 1000000000) else (-1000000000))] (mm M f g) R
  refine go_lret rfl rfl ?_
  first | (rw [← bd1] at hR; exact hR) | (rw [← bd2] at hR; exact hR)

set_option maxRecDepth 100000 in
theorem s_Mo_letter {d : Nat} {M : Mem} {f : Nat → Nat → Int32} {g : Nat → Nat → Int64} {ad : Nat → Nat → Nat} {R : Option Value → Mem → Prop} {A fr L j : Nat} {t : Nat → Int32} {lv : Int32 → Int64} {b : Int32} (hd : 2 ≤ d) (hX : MX M ad A fr L t lv j f) (hb : isLt b = true) (hR : R (some (.long (lv b))) (mm M f g)) : Call d 245 [.ref (ad 10 0), .int b] (mm M f g) R := by
  have hM := hX.m
  have hj := hX.1.2.2.2.2.2.2.2.2
  rw [hX.2.2.2.2.2 b hb] at hR
  show Go d 245 0 0 0 [.ref (ad 10 0), .int b] [] (mm M f g) R
  refine go_blk 1 [] (pc' := 1) (vs' := [.ref (ad 10 0), .int b]) (st' := [.int b]) (M' := mm M f g) (ps := []) rfl trivial ?_
  refine go_lsw rfl ?_
  refine ⟨fun (c1 : b = 99) => ?_, fun (c1n : ¬ (b = 99)) => ?_⟩
  · -- b = 99
    show Go d 245 0 0 52 [.ref (ad 10 0), .int b] [] (mm M f g) R
    refine go_blk 6 [some (.ref (ad 9 35)), some (.int (nI j)), some (.int (f (ad 9 35) j))] (pc' := 62) (vs' := [.ref (ad 10 0), .int b]) (st' := [.long ((f (ad 9 35) j).toInt64)]) (M' := mm M f g) (ps := [ob (mm M f g) (ad 10 0) 12, mR (mm M f g) (ad 10 0) 35 = some (ad 9 35), va_rf (some (ad 9 35)) = .ref (ad 9 35), ob (mm M f g) (ad 10 0) 12, (Value.int (f (ad 10 0) 88)) = .int (nI j), ob (mm M f g) (ad 9 35) 15, vp_in (nI j) (mN (mm M f g) (ad 9 35)), (Value.int (f (ad 9 35) ((nI j).toNatClampNeg))) = .int (f (ad 9 35) j)]) rfl ⟨hM.1, (hM.r 35 15 364), rfl, hM.1, congrArg Value.int hX.2.2.2.1, (hM.o 35 15 364), (vpi (hM.n 35 15 364) (by omega)), congrArg (fun z => Value.int (f (ad 9 35) z)) (nI_clamp (by omega)), trivial⟩ ?_
    refine go_lret rfl rfl ?_
    have e : lvM f ad j b = (f (ad 9 35) j).toInt64 := by
      clear hR
      unfold lvM ltV
      try unfold mx0
      simp only [isLt, Bool.or_eq_true, beq_iff_eq] at hb
      grind
    rw [e] at hR; exact hR
  refine ⟨fun (c2 : b = 100) => ?_, fun (c2n : ¬ (b = 100)) => ?_⟩
  · -- b = 100
    show Go d 245 0 0 95 [.ref (ad 10 0), .int b] [] (mm M f g) R
    refine go_blk 6 [some (.ref (ad 9 43)), some (.int (nI j)), some (.int (f (ad 9 43) j))] (pc' := 105) (vs' := [.ref (ad 10 0), .int b]) (st' := [.long ((f (ad 9 43) j).toInt64)]) (M' := mm M f g) (ps := [ob (mm M f g) (ad 10 0) 12, mR (mm M f g) (ad 10 0) 43 = some (ad 9 43), va_rf (some (ad 9 43)) = .ref (ad 9 43), ob (mm M f g) (ad 10 0) 12, (Value.int (f (ad 10 0) 88)) = .int (nI j), ob (mm M f g) (ad 9 43) 15, vp_in (nI j) (mN (mm M f g) (ad 9 43)), (Value.int (f (ad 9 43) ((nI j).toNatClampNeg))) = .int (f (ad 9 43) j)]) rfl ⟨hM.1, (hM.r 43 15 364), rfl, hM.1, congrArg Value.int hX.2.2.2.1, (hM.o 43 15 364), (vpi (hM.n 43 15 364) (by omega)), congrArg (fun z => Value.int (f (ad 9 43) z)) (nI_clamp (by omega)), trivial⟩ ?_
    refine go_lret rfl rfl ?_
    have e : lvM f ad j b = (f (ad 9 43) j).toInt64 := by
      clear hR
      unfold lvM ltV
      try unfold mx0
      simp only [isLt, Bool.or_eq_true, beq_iff_eq] at hb
      grind
    rw [e] at hR; exact hR
  refine ⟨fun (c3 : b = 103) => ?_, fun (c3n : ¬ (b = 103)) => ?_⟩
  · -- b = 103
    show Go d 245 0 0 84 [.ref (ad 10 0), .int b] [] (mm M f g) R
    refine go_blk 6 [some (.ref (ad 9 42)), some (.int (nI j)), some (.int (f (ad 9 42) j))] (pc' := 94) (vs' := [.ref (ad 10 0), .int b]) (st' := [.long ((f (ad 9 42) j).toInt64)]) (M' := mm M f g) (ps := [ob (mm M f g) (ad 10 0) 12, mR (mm M f g) (ad 10 0) 42 = some (ad 9 42), va_rf (some (ad 9 42)) = .ref (ad 9 42), ob (mm M f g) (ad 10 0) 12, (Value.int (f (ad 10 0) 88)) = .int (nI j), ob (mm M f g) (ad 9 42) 15, vp_in (nI j) (mN (mm M f g) (ad 9 42)), (Value.int (f (ad 9 42) ((nI j).toNatClampNeg))) = .int (f (ad 9 42) j)]) rfl ⟨hM.1, (hM.r 42 15 364), rfl, hM.1, congrArg Value.int hX.2.2.2.1, (hM.o 42 15 364), (vpi (hM.n 42 15 364) (by omega)), congrArg (fun z => Value.int (f (ad 9 42) z)) (nI_clamp (by omega)), trivial⟩ ?_
    refine go_lret rfl rfl ?_
    have e : lvM f ad j b = (f (ad 9 42) j).toInt64 := by
      clear hR
      unfold lvM ltV
      try unfold mx0
      simp only [isLt, Bool.or_eq_true, beq_iff_eq] at hb
      grind
    rw [e] at hR; exact hR
  refine ⟨fun (c4 : b = 108) => ?_, fun (c4n : ¬ (b = 108)) => ?_⟩
  · -- b = 108
    show Go d 245 0 0 63 [.ref (ad 10 0), .int b] [] (mm M f g) R
    refine go_blk 3 [some (.int (nI j))] (pc' := 68) (vs' := [.ref (ad 10 0), .int b]) (st' := [.int (nI j), .ref (ad 10 0)]) (M' := mm M f g) (ps := [ob (mm M f g) (ad 10 0) 12, (Value.int (f (ad 10 0) 88)) = .int (nI j)]) rfl ⟨hM.1, congrArg Value.int hX.2.2.2.1, trivial⟩ ?_
    refine go_callV rfl rfl rfl (by omega) rfl (by decide) (by decide) hM.1 ?_
    show Go (d - 1) 229 0 0 0 [.ref (ad 10 0), .int (nI j)] [] (mm M f g) _
    refine go_blk 5 [some (.ref (ad 9 38)), some (.int (f (ad 9 38) j))] (pc' := 7) (vs' := [.ref (ad 10 0), .int (nI j)]) (st' := [.int (-1), .int (f (ad 9 38) j)]) (M' := mm M f g) (ps := [ob (mm M f g) (ad 10 0) 12, mR (mm M f g) (ad 10 0) 38 = some (ad 9 38), va_rf (some (ad 9 38)) = .ref (ad 9 38), ob (mm M f g) (ad 9 38) 15, vp_in (nI j) (mN (mm M f g) (ad 9 38)), (Value.int (f (ad 9 38) ((nI j).toNatClampNeg))) = .int (f (ad 9 38) j)]) rfl ⟨hM.1, (hM.r 38 15 364), rfl, (hM.o 38 15 364), (vpi (hM.n 38 15 364) (by omega)), congrArg (fun z => Value.int (f (ad 9 38) z)) (nI_clamp (by omega)), trivial⟩ ?_
    refine go_icmp rfl (fun (c5 : ¬ (f (ad 9 38) j) = (-1)) => ?_) (fun (c5 : ¬ (¬ (f (ad 9 38) j) = (-1))) => ?_)
    · -- ¬ (f (ad 9 38) j) = (-1)
      refine go_blk 10 [some (.ref (ad 9 38)), some (.int (f (ad 9 38) j)), some (.ref (ad 9 34)), some (.int (f (ad 9 34) j))] (pc' := 28) (vs' := [.ref (ad 10 0), .int (nI j)]) (st' := [.int ((f (ad 9 38) j) - (f (ad 9 34) j)), .int 0]) (M' := mm M f g) (ps := [ob (mm M f g) (ad 10 0) 12, mR (mm M f g) (ad 10 0) 38 = some (ad 9 38), va_rf (some (ad 9 38)) = .ref (ad 9 38), ob (mm M f g) (ad 9 38) 15, vp_in (nI j) (mN (mm M f g) (ad 9 38)), (Value.int (f (ad 9 38) ((nI j).toNatClampNeg))) = .int (f (ad 9 38) j), ob (mm M f g) (ad 10 0) 12, mR (mm M f g) (ad 10 0) 34 = some (ad 9 34), va_rf (some (ad 9 34)) = .ref (ad 9 34), ob (mm M f g) (ad 9 34) 15, vp_in (nI j) (mN (mm M f g) (ad 9 34)), (Value.int (f (ad 9 34) ((nI j).toNatClampNeg))) = .int (f (ad 9 34) j)]) rfl ⟨hM.1, (hM.r 38 15 364), rfl, (hM.o 38 15 364), (vpi (hM.n 38 15 364) (by omega)), congrArg (fun z => Value.int (f (ad 9 38) z)) (nI_clamp (by omega)), hM.1, (hM.r 34 15 364), rfl, (hM.o 34 15 364), (vpi (hM.n 34 15 364) (by omega)), congrArg (fun z => Value.int (f (ad 9 34) z)) (nI_clamp (by omega)), trivial⟩ ?_
      refine go_callS rfl (by decide) rfl rfl (by omega) rfl (by decide) (by decide) ?_
      refine s_JM_max0 (by omega) ⟨ne_i, ?_⟩
      show Go (d - 1) 229 0 0 31 [.ref (ad 10 0), .int (nI j)] [.int (mx0 ((f (ad 9 38) j) - (f (ad 9 34) j)))] (mm M f g) _
      refine go_iret rfl rfl ?_
      refine ⟨ne_i, ?_⟩
      show Go d 245 0 0 71 [.ref (ad 10 0), .int b] [.int (mx0 ((f (ad 9 38) j) - (f (ad 9 34) j)))] (mm M f g) R
      refine go_blk 1 [] (pc' := 72) (vs' := [.ref (ad 10 0), .int b]) (st' := [.long ((mx0 ((f (ad 9 38) j) - (f (ad 9 34) j))).toInt64)]) (M' := mm M f g) (ps := []) rfl trivial ?_
      refine go_lret rfl rfl ?_
      have e : lvM f ad j b = (mx0 ((f (ad 9 38) j) - (f (ad 9 34) j))).toInt64 := by
        clear hR
        unfold lvM ltV
        try unfold mx0
        simp only [isLt, Bool.or_eq_true, beq_iff_eq] at hb
        grind
      rw [e] at hR; exact hR
    · -- ¬ (¬ (f (ad 9 38) j) = (-1))
      refine go_blk 2 [] (pc' := 31) (vs' := [.ref (ad 10 0), .int (nI j)]) (st' := [.int (-1)]) (M' := mm M f g) (ps := []) rfl trivial ?_
      refine go_iret rfl rfl ?_
      refine ⟨ne_i, ?_⟩
      show Go d 245 0 0 71 [.ref (ad 10 0), .int b] [.int (-1)] (mm M f g) R
      refine go_blk 1 [] (pc' := 72) (vs' := [.ref (ad 10 0), .int b]) (st' := [.long (((-1) : Int32).toInt64)]) (M' := mm M f g) (ps := []) rfl trivial ?_
      refine go_lret rfl rfl ?_
      have e : lvM f ad j b = ((-1) : Int32).toInt64 := by
        clear hR
        unfold lvM ltV
        try unfold mx0
        simp only [isLt, Bool.or_eq_true, beq_iff_eq] at hb
        grind
      rw [e] at hR; exact hR
  refine ⟨fun (c6 : b = 114) => ?_, fun (c6n : ¬ (b = 114)) => ?_⟩
  · -- b = 114
    show Go d 245 0 0 73 [.ref (ad 10 0), .int b] [] (mm M f g) R
    refine go_blk 6 [some (.ref (ad 9 40)), some (.int (nI j)), some (.int (f (ad 9 40) j))] (pc' := 83) (vs' := [.ref (ad 10 0), .int b]) (st' := [.long ((f (ad 9 40) j).toInt64)]) (M' := mm M f g) (ps := [ob (mm M f g) (ad 10 0) 12, mR (mm M f g) (ad 10 0) 40 = some (ad 9 40), va_rf (some (ad 9 40)) = .ref (ad 9 40), ob (mm M f g) (ad 10 0) 12, (Value.int (f (ad 10 0) 88)) = .int (nI j), ob (mm M f g) (ad 9 40) 15, vp_in (nI j) (mN (mm M f g) (ad 9 40)), (Value.int (f (ad 9 40) ((nI j).toNatClampNeg))) = .int (f (ad 9 40) j)]) rfl ⟨hM.1, (hM.r 40 15 364), rfl, hM.1, congrArg Value.int hX.2.2.2.1, (hM.o 40 15 364), (vpi (hM.n 40 15 364) (by omega)), congrArg (fun z => Value.int (f (ad 9 40) z)) (nI_clamp (by omega)), trivial⟩ ?_
    refine go_lret rfl rfl ?_
    have e : lvM f ad j b = (f (ad 9 40) j).toInt64 := by
      clear hR
      unfold lvM ltV
      try unfold mx0
      simp only [isLt, Bool.or_eq_true, beq_iff_eq] at hb
      grind
    rw [e] at hR; exact hR
  show Go d 245 0 0 106 [.ref (ad 10 0), .int b] [] (mm M f g) R
  refine go_blk 8 [some (.ref (ad 9 37)), some (.int (nI j)), some (.int (f (ad 9 37) j))] (pc' := 119) (vs' := [.ref (ad 10 0), .int b]) (st' := [.long (((f (ad 9 37) j) / 60).toInt64)]) (M' := mm M f g) (ps := [ob (mm M f g) (ad 10 0) 12, mR (mm M f g) (ad 10 0) 37 = some (ad 9 37), va_rf (some (ad 9 37)) = .ref (ad 9 37), ob (mm M f g) (ad 10 0) 12, (Value.int (f (ad 10 0) 88)) = .int (nI j), ob (mm M f g) (ad 9 37) 15, vp_in (nI j) (mN (mm M f g) (ad 9 37)), (Value.int (f (ad 9 37) ((nI j).toNatClampNeg))) = .int (f (ad 9 37) j), ¬ 60 = 0]) rfl ⟨hM.1, (hM.r 37 15 364), rfl, hM.1, congrArg Value.int hX.2.2.2.1, (hM.o 37 15 364), (vpi (hM.n 37 15 364) (by omega)), congrArg (fun z => Value.int (f (ad 9 37) z)) (nI_clamp (by omega)), (by decide), trivial⟩ ?_
  refine go_lret rfl rfl ?_
  have e : lvM f ad j b = ((f (ad 9 37) j) / 60).toInt64 := by
    clear hR
    unfold lvM ltV
    try unfold mx0
    simp only [isLt, Bool.or_eq_true, beq_iff_eq] at hb
    grind
  rw [e] at hR; exact hR

