/-! bits of weeks; looks -/
theorem nI_m1 {n : Nat} (h : n < 2 ^ 31) : ¬ nI n = -1 := fun q => by
  have := congrArg Int32.toInt q
  rw [nI_toInt h] at this
  have k : (-1 : Int32).toInt = -1 := rfl
  rw [k] at this
  omega

theorem sh_amt : ∀ w : Fin 64, ((nI w.val).toInt64.toUInt64 &&& Int64.toUInt64 63) = UInt64.ofNat w.val := by decide
theorem sh_amt2 : ∀ w : Fin 64, ((nI w.val).toInt64 &&& 63) = Int64.ofNat w.val := by decide
theorem sh_one : ∀ w : Fin 52, ((1 : Int64) <<< Int64.ofNat w.val).toBitVec = 1#64 <<< w.val := by decide
theorem sh_bit (x : Int64) {w : Nat} (hw : w < 52) : lg_cmp ((x.toUInt64 >>> ((nI w).toInt64.toUInt64 &&& Int64.toUInt64 63)).toInt64 &&& 1) 0 = (if x.toBitVec.getLsbD w = true then 1 else 0) := by
  rw [sh_amt ⟨w, by omega⟩]
  have h1 : ((x.toUInt64 >>> UInt64.ofNat w).toInt64 &&& 1) = (if x.toBitVec.getLsbD w = true then 1 else 0) := by
    apply Int64.toBitVec_inj.mp
    have e : ((x.toUInt64 >>> UInt64.ofNat w).toInt64 &&& 1).toBitVec = (x.toBitVec >>> w) &&& 1#64 := by
      show (x.toUInt64 >>> UInt64.ofNat w).toBitVec &&& 1#64 = _
      rw [UInt64.toBitVec_shiftRight]
      show x.toBitVec >>> ((UInt64.ofNat w).toBitVec % 64) &&& 1#64 = _
      congr 1
      rw [BitVec.ushiftRight_eq']
      congr 1
      show (BitVec.ofNat 64 w % 64).toNat = w
      simp
      omega
    rw [e, BitVec.and_one_eq_setWidth_ofBool_getLsbD, BitVec.getLsbD_ushiftRight]
    cases h : x.toBitVec.getLsbD (w + 0)
    · rfl
    · rfl
  rw [h1]
  by_cases c : x.toBitVec.getLsbD w = true
  · rw [if_pos c, if_pos c]; rfl
  · rw [if_neg c, if_neg c]; rfl
theorem sh_or (x : Int64) {w v : Nat} (hw : w < 52) (hv : v < 52) : (x ||| ((1 : Int64) <<< ((nI w).toInt64 &&& 63))).toBitVec.getLsbD v = if v = w then true else x.toBitVec.getLsbD v := by
  rw [sh_amt2 ⟨w, by omega⟩]
  show (x.toBitVec ||| ((1 : Int64) <<< Int64.ofNat w).toBitVec).getLsbD v = _
  rw [sh_one ⟨w, hw⟩, BitVec.getLsbD_or, BitVec.getLsbD_shiftLeft, BitVec.getLsbD_one]
  by_cases c : v = w
  · subst c; simp
    omega
  · rw [if_neg c]
    by_cases q : v < w
    · simp [q]
    · simp [show ¬ v - w = 0 by omega]
theorem sh_and (x : Int64) {w v : Nat} (hw : w < 52) (hv : v < 52) : (x &&& (((1 : Int64) <<< ((nI w).toInt64 &&& 63)) ^^^ (-1))).toBitVec.getLsbD v = if v = w then false else x.toBitVec.getLsbD v := by
  rw [sh_amt2 ⟨w, by omega⟩]
  show (x.toBitVec &&& (((1 : Int64) <<< Int64.ofNat w).toBitVec ^^^ (-1 : Int64).toBitVec)).getLsbD v = _
  rw [sh_one ⟨w, hw⟩, show (-1 : Int64).toBitVec = BitVec.allOnes 64 by decide, BitVec.getLsbD_and, BitVec.getLsbD_xor, BitVec.getLsbD_shiftLeft, BitVec.getLsbD_one, BitVec.getLsbD_allOnes]
  by_cases c : v = w
  · subst c; simp
  · rw [if_neg c]
    by_cases q : v < w
    · simp [q]; omega
    · simp [show ¬ v - w = 0 by omega]; omega
theorem ICo.shut {φ φ' : VI} {ψ ψ' : VJ} {nc c w : Nat} (v : Bool) (h : ICo φ ψ nc) (hn : nc ≤ 7) (hc : c < nc) (hw : w < 52) (e : ∀ t i k, (t = 1 ∧ k < 4) ∨ (t = 9 ∧ (i = 1 ∨ i = 2 ∨ i = 3 ∨ i = 4 ∨ i = 5)) → ¬ (t = 9 ∧ i = 5 ∧ k = 7 * w + c) → φ' t i k = φ t i k) (e1 : φ' 9 5 (7 * w + c) = if v = true then 1 else 0) (ej : ∀ a, a ≠ c → ψ' 1 a 4 = ψ 1 a 4) (e2 : ∀ u, u < 52 → (ψ' 1 c 4).toBitVec.getLsbD u = if u = w then v else (ψ 1 c 4).toBitVec.getLsbD u) : ICo φ' ψ' nc := by
  refine ⟨fun a ha => ?_, fun u a hu h1 h2 => ?_⟩
  · obtain ⟨h1, h2⟩ := h.1 a ha
    rw [e 1 a 0 (by omega) (by omega), e 1 a 1 (by omega) (by omega), e 1 a 2 (by omega) (by omega), e 1 a 3 (by omega) (by omega), e 9 1 a (by omega) (by omega), e 9 2 a (by omega) (by omega), e 9 3 a (by omega) (by omega), e 9 4 a (by omega) (by omega)]
    refine ⟨h1, h2.1, h2.2.1, h2.2.2.1, h2.2.2.2.1, fun u hu => ?_⟩
    have h3 := h2.2.2.2.2 u hu
    by_cases hac : a = c
    · subst hac
      rw [e2 u hu]
      by_cases huw : u = w
      · subst huw; rw [if_pos rfl, e1]
      · rw [if_neg huw, e 9 5 _ (by omega) (by omega)]; exact h3
    · rw [ej a hac, e 9 5 _ (by omega) (by omega)]; exact h3
  · rw [e 9 5 _ (by omega) (by omega)]
    exact h.2 u a hu h1 h2

set_option maxRecDepth 100000 in
theorem s_Co_isShut {d : Nat} {M : Mem} {f : Nat → Nat → Int32} {g : Nat → Nat → Int64} {ad : Nat → Nat → Nat} {R : Option Value → Mem → Prop} {c w nc : Nat} {v : Int32} (hd : 0 ≤ d) (hC : Cs M ad nc) (hc : c < nc) (hw : w < 52) (hv : v = if (g (ad 1 c) 4).toBitVec.getLsbD w = true then 1 else 0) (hR : R (some (.int v)) (mm M f g)) : Call d 22 [.ref (ad 1 c), .int (nI w)] (mm M f g) R := by
  show Go d 22 0 0 0 [.ref (ad 1 c), .int (nI w)] [] (mm M f g) R
  refine go_blk 8 [] (pc' := 10) (vs' := [.ref (ad 1 c), .int (nI w)]) (st' := [.int (lg_cmp ((((g (ad 1 c) 4).toUInt64 >>> ((nI w).toInt64.toUInt64 &&& Int64.toUInt64 63)).toInt64) &&& 1) 0)]) (M' := mm M f g) (ps := [ob (mm M f g) (ad 1 c) 2]) rfl ⟨(hC c (by assumption)).2, trivial⟩ ?_
  refine go_if rfl (fun (c1 : (lg_cmp ((((g (ad 1 c) 4).toUInt64 >>> ((nI w).toInt64.toUInt64 &&& Int64.toUInt64 63)).toInt64) &&& 1) 0) = 0) => ?_) (fun (c1 : ¬ ((lg_cmp ((((g (ad 1 c) 4).toUInt64 >>> ((nI w).toInt64.toUInt64 &&& Int64.toUInt64 63)).toInt64) &&& 1) 0) = 0)) => ?_)
  · -- (lg_cmp ((((g (ad 1 c) 4).toUInt64 >>> ((nI w).toInt64.toUInt64 &&& Int64.toUInt64 63)).toInt64) &&& 1) 0) = 0
    refine go_blk 1 [] (pc' := 18) (vs' := [.ref (ad 1 c), .int (nI w)]) (st' := [.int 0]) (M' := mm M f g) (ps := []) rfl trivial ?_
    refine go_zret rfl rfl (Or.inl rfl) ?_
    rw [sh_bit _ hw] at c1
    by_cases hb : (g (ad 1 c) 4).toBitVec.getLsbD w = true
    · rw [if_pos hb] at c1; exact absurd c1 (by decide)
    · rw [if_neg hb] at hv; rw [hv] at hR; exact hR
  · -- ¬ ((lg_cmp ((((g (ad 1 c) 4).toUInt64 >>> ((nI w).toInt64.toUInt64 &&& Int64.toUInt64 63)).toInt64) &&& 1) 0) = 0)
    refine go_blk 2 [] (pc' := 18) (vs' := [.ref (ad 1 c), .int (nI w)]) (st' := [.int 1]) (M' := mm M f g) (ps := []) rfl trivial ?_
    refine go_zret rfl rfl (Or.inr rfl) ?_
    rw [sh_bit _ hw] at c1
    by_cases hb : (g (ad 1 c) 4).toBitVec.getLsbD w = true
    · rw [if_pos hb] at hv; rw [hv] at hR; exact hR
    · rw [if_neg hb] at c1; exact absurd rfl c1

theorem IBo.look {φ φ' : VI} {ne nk nb nc c : Nat} (h : IBo φ ne nk nb nc) (hnb : nb ≤ 60) (hk : nk < 60) (hc : c < nc)
    (e : ∀ t i k, ((t = 0 ∧ i = 32 ∧ ¬ k = ne) ∨ (t = 0 ∧ i = 33 ∧ ¬ k = ne) ∨ (t = 0 ∧ i = 34 ∧ k < 3 * nk) ∨ (t = 0 ∧ i = 35) ∨ (t = 9 ∧ i = 91 ∧ ¬ k = ne) ∨ (t = 9 ∧ i = 92 ∧ ¬ k = ne) ∨ (t = 9 ∧ i = 93 ∧ k < 3 * ne) ∨ (t = 9 ∧ i = 94) ∨ (t = 9 ∧ k < nb ∧ (i = 16 ∨ i = 6)) ∨ (t = 2 ∧ i < nb ∧ k = 11)) → φ' t i k = φ t i k)
    (e1 : φ' 0 9 2 = nI (ne + 1) ∧ φ' 10 0 95 = nI (ne + 1) ∧ φ' 0 9 4 = nI (nk + 1) ∧ φ' 10 0 96 = nI (nk + 1)) (e2 : φ' 0 32 ne = nI c ∧ φ' 9 91 ne = nI c ∧ φ' 0 33 ne = nI nk ∧ φ' 9 92 ne = -1)
    (e3 : ∀ th, th < 3 → φ' 0 34 (3 * nk + th) = φ' 9 93 (3 * ne + th) ∧ rg 0 99 (φ' 9 93 (3 * ne + th))) : IBo φ' (ne + 1) (nk + 1) nb nc := by
  obtain ⟨⟨g1, g2, g3, g4, g5, g6⟩, g7, g8, g9⟩ := h
  refine ⟨⟨e1.1, e1.2.1, e1.2.2.1, e1.2.2.2, by omega, by omega⟩, fun th hth => ?_, fun i hi => ?_, fun b hb hbb => ?_⟩
  · rw [e 0 35 th (by omega), e 9 94 th (by omega)]; exact g7 th hth
  · by_cases hin : i = ne
    · subst hin
      rw [e2.1, e2.2.1, e2.2.2.1, e2.2.2.2]
      exact ⟨rfl, ⟨c, hc, rfl⟩, Or.inr ⟨rfl, nk, by omega, rfl, e3⟩⟩
    · have hi2 : i < ne := by omega
      rw [e 0 32 i (by omega), e 9 91 i (by omega), e 0 33 i (by omega), e 9 92 i (by omega)]
      obtain ⟨q1, q2, q3⟩ := g8 i hi2
      refine ⟨q1, q2, ?_⟩
      rcases q3 with ⟨b, hb, r1, r2, r3, r4⟩ | ⟨r1, k, hk2, r2, r3⟩
      · exact Or.inl ⟨b, hb, r1, by rw [e 9 16 b (by omega)]; exact r2, r3, by rw [e 2 b 11 (by omega)]; exact r4⟩
      · refine Or.inr ⟨r1, k, by omega, r2, fun th hth => ?_⟩
        rw [e 0 34 _ (by omega), e 9 93 _ (by omega)]
        exact r3 th hth
  · rw [e 9 16 b (by omega)] at hbb
    obtain ⟨i, hi, r1, r2, r3, r4⟩ := g9 b hb hbb
    refine ⟨i, by omega, by rw [e 2 b 11 (by omega)]; exact r1, by rw [e 9 92 i (by omega)]; exact r2, by rw [e 9 91 i (by omega), e 9 6 b (by omega)]; exact r3, fun i' hi' hq => ?_⟩
    by_cases hin : i' = ne
    · subst hin
      rw [e2.2.2.2] at hq
      exact absurd hq.symm (nI_m1 (n := b) (by omega))
    · rw [e 9 92 i' (by omega)] at hq
      exact r4 i' (by omega) hq

