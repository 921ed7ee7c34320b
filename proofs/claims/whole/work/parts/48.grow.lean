/-! a new cell: the world's addresses are told anew; what is there stays -/
def swp (ad : Nat → Nat → Nat) (q t i : Nat) : Nat → Nat → Nat := fun t' i' => if t' = t ∧ i' = i then q else if ad t' i' = q then ad t i else ad t' i'
theorem swp_inj {ad : Nat → Nat → Nat} (h : Inj ad) (q t i : Nat) : Inj (swp ad q t i) := by
  intro a b a' b' e
  unfold swp at e
  by_cases c1 : a = t ∧ b = i
  · by_cases c2 : a' = t ∧ b' = i
    · exact ⟨c1.1.trans c2.1.symm, c1.2.trans c2.2.symm⟩
    · rw [if_pos c1, if_neg c2] at e
      by_cases c3 : ad a' b' = q
      · rw [if_pos c3] at e
        exact absurd (h _ _ _ _ (c3.trans e)) c2
      · rw [if_neg c3] at e
        exact absurd e.symm c3
  · by_cases c2 : a' = t ∧ b' = i
    · rw [if_neg c1, if_pos c2] at e
      by_cases c3 : ad a b = q
      · rw [if_pos c3] at e
        exact absurd (h _ _ _ _ (c3.trans e.symm)) c1
      · rw [if_neg c3] at e
        exact absurd e c3
    · rw [if_neg c1, if_neg c2] at e
      by_cases c3 : ad a b = q
      · by_cases c4 : ad a' b' = q
        · exact h _ _ _ _ (c3.trans c4.symm)
        · rw [if_pos c3, if_neg c4] at e
          exact absurd ⟨(h _ _ _ _ e).1.symm, (h _ _ _ _ e).2.symm⟩ c2
      · by_cases c4 : ad a' b' = q
        · rw [if_neg c3, if_pos c4] at e
          exact absurd (h _ _ _ _ e) c1
        · rw [if_neg c3, if_neg c4] at e
          exact h _ _ _ _ e
theorem swp_new (ad : Nat → Nat → Nat) (q t i : Nat) : swp ad q t i t i = q := by simp [swp]
theorem swp_old {ad : Nat → Nat → Nat} {q t i t' i' : Nat} (h1 : ¬ (t' = t ∧ i' = i)) (h2 : ¬ ad t' i' = q) : swp ad q t i t' i' = ad t' i' := by simp only [swp, if_neg h1, if_neg h2]
/-- the places that the invariant tells of -/
def u9 (i : Nat) : Prop := (1 ≤ i ∧ i ≤ 16) ∨ (22 ≤ i ∧ i ≤ 24) ∨ i = 28 ∨ i = 29 ∨ (32 ≤ i ∧ i ≤ 51) ∨ (53 ≤ i ∧ i ≤ 57) ∨ i = 72 ∨ (75 ≤ i ∧ i ≤ 79) ∨ (91 ≤ i ∧ i ≤ 94) ∨ i = 97
def Us (nc nb nt nx t i : Nat) : Prop := match t with
  | 0 => i < 41
  | 1 => i < nc
  | 2 => i < nb
  | 3 => i < nt
  | 4 => i < nt
  | 5 => i < nt
  | 7 => i ≤ nx
  | 8 => i ≤ nx
  | 9 => u9 i
  | 10 => i = 0
  | _ => False
theorem mo9 : ∀ i, i < 98 → ((1 ≤ i ∧ i ≤ 16) ∨ (22 ≤ i ∧ i ≤ 24) ∨ i = 28 ∨ i = 29 ∨ (32 ≤ i ∧ i ≤ 51) ∨ (53 ≤ i ∧ i ≤ 57) ∨ i = 72 ∨ (75 ≤ i ∧ i ≤ 79) ∨ (91 ≤ i ∧ i ≤ 94) ∨ i = 97) → moL.any (fun q => q.1 == i) = true := by decide
theorem WI.at {M : Mem} {ad : Nat → Nat → Nat} {nc nb nt wk nw nx nl ne nk kd : Nat} {op : Bool} (h : WI M ad nc nb nt wk nw nx nl ne nk kd op) {t i : Nat} (hu : Us nc nb nt nx t i) : ad t i ∈ mL M := by
  obtain ⟨hi, ⟨hF, hM, hC, hB, hT, hX⟩, -⟩ := h
  match t, hu with
  | 0, q => exact (hF.1 i q).1.1
  | 1, q => exact (hC i q).2.1
  | 2, q => exact (hB i q).2.1
  | 3, q => exact (hT i q).2.1.1
  | 4, q => exact (hT i q).2.2.1.2.1.1
  | 5, q => exact (hT i q).2.2.2.2.1.1
  | 7, q => exact (hX.2.2 i q).1.1
  | 8, q => exact (hX.2.2 i q).2.2.1.1
  | 10, q => rw [show i = 0 from q]; exact hM.1.1
  | 9, q =>
    have q2 : u9 i := q
    have z := mo9 i (by unfold u9 at q2; omega) q2
    rw [List.any_eq_true] at z
    obtain ⟨p, p1, p2⟩ := z
    have e : p.1 = i := by simpa using p2
    rw [← e]
    exact (hM.2 p p1).2.1.1
theorem WI.at6 {M : Mem} {ad : Nat → Nat → Nat} {nc nb nt wk nw nx nl ne nk kd : Nat} {op : Bool} (h : WI M ad nc nb nt wk nw nx nl ne nk kd op) {b : Nat} (hb : b < nb) (hj : hJ (vw ad (mI M)) wk op b) : ad 6 b ∈ mL M := ((h.2.2.2.1.2.1.1 b hb).1 hj).2.1.1
/-- the places of references that the invariant doesn't tell of -/
def Xr (nc nb nt nx nl t i k : Nat) : Prop := t = 0 ∧ ((i = 1 ∧ nc ≤ k) ∨ (i = 2 ∧ nb ≤ k) ∨ (i = 3 ∧ nt ≤ k) ∨ (i = 36 ∧ nx ≤ k) ∨ (i = 38 ∧ nl ≤ k) ∨ i = 11 ∨ i = 13)
def eqM (M M' : Mem) (a : Nat) : Prop := a ∈ mL M' ∧ mK M' a = mK M a ∧ mN M' a = mN M a ∧ mI M' a = mI M a ∧ mJ M' a = mJ M a
set_option maxHeartbeats 4000000 in
theorem WI.re {M M' : Mem} {ad ad' : Nat → Nat → Nat} {nc nb nt wk nw nx nl ne nk kd : Nat} {op : Bool} (h : WI M ad nc nb nt wk nw nx nl ne nk kd op) (hi' : Inj ad') (ha : ∀ t i, Us nc nb nt nx t i → ad' t i = ad t i) (ha6 : ∀ b, b < nb → hJ (vw ad (mI M)) wk op b → ad' 6 b = ad 6 b) (at1 : ∀ t i, Us nc nb nt nx t i → eqM M M' (ad t i)) (at6 : ∀ b, b < nb → hJ (vw ad (mI M)) wk op b → eqM M M' (ad 6 b)) (atr : ∀ t i k, Us nc nb nt nx t i → ¬ Xr nc nb nt nx nl t i k → mR M' (ad t i) k = mR M (ad t i) k) (atr6 : ∀ b k, b < nb → hJ (vw ad (mI M)) wk op b → mR M' (ad 6 b) k = mR M (ad 6 b) k) : WI M' ad' nc nb nt wk nw nx nl ne nk kd op := by
  obtain ⟨hi, ⟨hF, hM, hC, hB, hT, hX⟩, ⟨iS, iC, iB, iR, iL, iT⟩, ⟨jO, jR, jB, jX, jL⟩, kO, kC, kD, kP, kX⟩ := h
  have hob : ∀ t i c, Us nc nb nt nx t i → ob M (ad t i) c → ob M' (ad' t i) c := fun t i c u q => by
    rw [ha t i u]; exact ⟨(at1 t i u).1, (at1 t i u).2.1.trans q.2⟩
  have hn : ∀ t i, Us nc nb nt nx t i → mN M' (ad' t i) = mN M (ad t i) := fun t i u => by rw [ha t i u]; exact (at1 t i u).2.2.1
  have hv : ∀ t i k, Us nc nb nt nx t i → vw ad' (mI M') t i k = vw ad (mI M) t i k := fun t i k u => by
    show mI M' (ad' t i) k = mI M (ad t i) k
    rw [ha t i u, (at1 t i u).2.2.2.1]
  have hj : ∀ t i k, Us nc nb nt nx t i → vw ad' (mJ M') t i k = vw ad (mJ M) t i k := fun t i k u => by
    show mJ M' (ad' t i) k = mJ M (ad t i) k
    rw [ha t i u, (at1 t i u).2.2.2.2]
  have hr : ∀ t i k, Us nc nb nt nx t i → ¬ Xr nc nb nt nx nl t i k → mR M' (ad' t i) k = mR M (ad t i) k := fun t i k u v => by rw [ha t i u, atr t i k u v]
  have hv6 : ∀ b k, b < nb → hJ (vw ad (mI M)) wk op b → vw ad' (mI M') 6 b k = vw ad (mI M) 6 b k := fun b k hb q => by
    show mI M' (ad' 6 b) k = mI M (ad 6 b) k
    rw [ha6 b hb q, (at6 b hb q).2.2.2.1]
  have e1 : eJ nb (vw ad (mI M)) (vw ad' (mI M')) := fun i k q => hv 9 i k (show u9 i by unfold u9; omega)
  refine ⟨hi', ⟨?_, ?_, ?_, ?_, ?_, ?_⟩, ⟨iS.congr (fun t k q => hv t 0 k (by rcases q with ⟨rfl, q⟩ | ⟨rfl, q⟩ <;> first | (show _ < _; omega) | (show _ ≤ _; omega) | (show u9 _; unfold u9; omega) | (show _ = _; omega))), iC.congr iS.1.2.2 (fun t i k q => hv t i k (by rcases q with ⟨rfl, q⟩ | ⟨rfl, q⟩ <;> first | (show _ < _; omega) | (show _ ≤ _; omega) | (show u9 _; unfold u9; omega) | (show _ = _; omega))) (fun c q => hj 1 c 4 (show c < _ by assumption)), iB.congr (fun t i k q => hv t i k (by rcases q with ⟨rfl, q⟩ | ⟨rfl, q⟩ <;> first | (show _ < _; omega) | (show _ ≤ _; omega) | (show u9 _; unfold u9; omega) | (show _ = _; omega))), iR.congr (fun t i k q => hv t i k (by rcases q with ⟨rfl, q⟩ | ⟨rfl, q⟩ | ⟨rfl, q⟩ | ⟨rfl, q⟩ <;> first | (show _ < _; omega) | (show _ ≤ _; omega) | (show u9 _; unfold u9; omega) | (show _ = _; omega))), iL.congr (fun t i k q => hv t i k (by rcases q with ⟨rfl, q⟩ | ⟨rfl, q⟩ <;> first | (show _ < _; omega) | (show _ ≤ _; omega) | (show u9 _; unfold u9; omega) | (show _ = _; omega))), iT.congr (fun t i k q => hv t i k (by rcases q with ⟨rfl, q⟩ | ⟨rfl, q⟩ | ⟨rfl, q⟩ | ⟨rfl, q⟩ | ⟨rfl, q⟩ <;> first | (show _ < _; omega) | (show _ ≤ _; omega) | (show u9 _; unfold u9; omega) | (show _ = _; omega)))⟩, ⟨jO.congr e1 (fun b k hb q _ => hv6 b k hb q), ?_, jB.congr iS.2.1.2.2 (fun t i k q => hv t i k (by rcases q with ⟨rfl, q⟩ | ⟨rfl, q⟩ | ⟨rfl, q⟩ | ⟨rfl, q⟩ | ⟨rfl, q⟩ <;> first | (show _ < _; omega) | (show _ ≤ _; omega) | (show u9 _; unfold u9; omega) | (show _ = _; omega))), jX.congr (fun t i k q => hv t i k (by rcases q with ⟨rfl, q⟩ | ⟨rfl, q⟩ | ⟨rfl, q⟩ | ⟨rfl, q⟩ | ⟨rfl, q⟩ <;> first | (show _ < _; omega) | (show _ ≤ _; omega) | (show u9 _; unfold u9; omega) | (show _ = _; omega))), ?_⟩, kO.congr iB iS.2.2.2.1.2.2 (fun t i k q => hv t i k (by rcases q with ⟨rfl, q⟩ | ⟨rfl, q⟩ <;> first | (show _ < _; omega) | (show _ ≤ _; omega) | (show u9 _; unfold u9; omega) | (show _ = _; omega))) (fun b hb q => hv6 b 8 hb q), kC.congr (fun t i k q => hv t i k (by rcases q with ⟨rfl, q⟩ | ⟨rfl, q⟩ | ⟨rfl, q⟩ <;> first | (show _ < _; omega) | (show _ ≤ _; omega) | (show u9 _; unfold u9; omega) | (show _ = _; omega))) ⟨hj 0 0 12 (show 0 < 41 by decide), hj 10 0 99 (show 0 = 0 from rfl)⟩, kD.congr (fun i k q => hv 9 i k (show u9 i by unfold u9; omega)), ?_, kX.congr (fun t i k q => hv t i k (by rcases q with ⟨rfl, q⟩ | ⟨rfl, q⟩ | ⟨rfl, q⟩ | ⟨rfl, q⟩ | ⟨rfl, q⟩ <;> first | (show _ < _; omega) | (show _ ≤ _; omega) | (show u9 _; unfold u9; omega) | (show _ = _; omega)))⟩
  · refine ⟨fun i q => ⟨hob 0 i _ (show i < 41 by omega) (hF.1 i q).1, (hn 0 i (show i < 41 by omega)).trans (hF.1 i q).2⟩, fun q hq => ?_⟩
    have l := (show ∀ q ∈ fxR, (q.1 < 41 ∧ q.2.2 < 41) ∧ ¬ (q.1 = 1 ∨ q.1 = 2 ∨ q.1 = 3 ∨ q.1 = 36 ∨ q.1 = 38 ∨ q.1 = 11 ∨ q.1 = 13) by decide) q hq
    rw [hr 0 q.1 _ (show q.1 < 41 by omega) (by unfold Xr; omega), ha 0 q.2.2 (show q.2.2 < 41 by omega)]
    exact hF.2 q hq
  · refine ⟨hob 10 0 _ (show 0 = 0 from rfl) hM.1, fun q hq => ?_⟩
    obtain ⟨z1, z2, z3⟩ := hM.2 q hq
    have hu : Us nc nb nt nx 9 q.1 := (show ∀ q ∈ moL, ((1 ≤ q.1 ∧ q.1 ≤ 16) ∨ (22 ≤ q.1 ∧ q.1 ≤ 24) ∨ q.1 = 28 ∨ q.1 = 29 ∨ (32 ≤ q.1 ∧ q.1 ≤ 51) ∨ (53 ≤ q.1 ∧ q.1 ≤ 57) ∨ q.1 = 72 ∨ (75 ≤ q.1 ∧ q.1 ≤ 79) ∨ (91 ≤ q.1 ∧ q.1 ≤ 94) ∨ q.1 = 97) by decide) q hq
    · rw [hr 10 0 _ (show 0 = 0 from rfl) (by unfold Xr; omega), ha 9 q.1 hu]
      refine ⟨z1, ?_, ?_⟩
      · have := hob 9 q.1 _ hu z2
        rwa [ha 9 q.1 hu] at this
      · have := hn 9 q.1 hu
        rw [ha 9 q.1 hu] at this
        exact this.trans z3
  · exact fun c hc => ⟨by rw [hr 0 1 c (show 1 < 41 by decide) (by unfold Xr; omega), ha 1 c (show c < _ by assumption)]; exact (hC c hc).1, hob 1 c _ (show c < _ by assumption) (hC c hc).2⟩
  · exact fun b hb => ⟨by rw [hr 0 2 b (show 2 < 41 by decide) (by unfold Xr; omega), ha 2 b (show b < _ by assumption)]; exact (hB b hb).1, hob 2 b _ (show b < _ by assumption) (hB b hb).2⟩
  · intro t ht
    obtain ⟨z1, z2, ⟨z3, z4, z5⟩, z6, z7, z8⟩ := hT t ht
    refine ⟨by rw [hr 0 3 t (show 3 < 41 by decide) (by unfold Xr; omega), ha 3 t (show t < _ by assumption)]; exact z1, hob 3 t _ (show t < _ by assumption) z2, ⟨by rw [hr 3 t 2 (show t < _ by assumption) (by unfold Xr; omega), ha 4 t (show t < _ by assumption)]; exact z3, hob 4 t _ (show t < _ by assumption) z4, (hn 4 t (show t < _ by assumption)).trans z5⟩, by rw [hr 3 t 3 (show t < _ by assumption) (by unfold Xr; omega), ha 5 t (show t < _ by assumption)]; exact z6, hob 5 t _ (show t < _ by assumption) z7, (hn 5 t (show t < _ by assumption)).trans z8⟩
  · refine ⟨by rw [hr 0 10 0 (show 10 < 41 by decide) (by unfold Xr; omega), ha 7 nx (show nx ≤ _ by omega)]; exact hX.1, fun i q => by rw [hr 0 36 i (show 36 < 41 by decide) (by unfold Xr; omega), ha 7 i (show i ≤ _ by omega)]; exact hX.2.1 i q, fun i q => ?_⟩
    obtain ⟨z1, z2, z3, z4⟩ := hX.2.2 i q
    exact ⟨hob 7 i _ (show i ≤ _ by omega) z1, by rw [hr 7 i 0 (show i ≤ _ by omega) (by unfold Xr; omega), ha 8 i (show i ≤ _ by omega)]; exact z2, hob 8 i _ (show i ≤ _ by omega) z3, (hn 8 i (show i ≤ _ by omega)).trans z4⟩
  · refine ⟨fun b hb => ?_, fun w c hw hc => ?_, fun ho c hc => ?_⟩
    · rw [hJ.congr e1 hb, hr 2 b 12 (show b < _ by assumption) (by unfold Xr; omega)]
      refine ⟨fun q => ?_, (jR.1 b hb).2⟩
      obtain ⟨z1, z2, z3⟩ := (jR.1 b hb).1 q
      rw [ha6 b hb q, ha 2 b (show b < _ by assumption)]
      exact ⟨z1, ⟨(at6 b hb q).1, (at6 b hb q).2.1.trans z2.2⟩, by rw [atr6 b 0 hb q]; exact z3⟩
    · rw [hr 0 4 _ (show 4 < 41 by decide) (by unfold Xr; omega)]
      rcases jR.2.1 w c hw hc with ⟨b, hb, h1, h2, h3, h4⟩ | ⟨h1, h2⟩
      · exact Or.inl ⟨b, hb, by rw [e1 16 b (by omega)]; exact h1, by rw [e1 6 b (by omega)]; exact h2, by rw [e1 7 b (by omega)]; exact h3, by rw [ha 2 b (show b < _ by assumption)]; exact h4⟩
      · refine Or.inr ⟨h1, fun b hb => ?_⟩
        rw [e1 16 b (by omega), e1 6 b (by omega), e1 7 b (by omega)]
        exact h2 b hb
    · rw [hr 0 5 _ (show 5 < 41 by decide) (by unfold Xr; omega)]
      rcases jR.2.2 ho c hc with ⟨b, hb, h1, h2, h3⟩ | ⟨h1, h2⟩
      · exact Or.inl ⟨b, hb, (hJ.congr e1 hb).mpr h1, (jAt.congr e1 hb).mpr h2, by rw [ha6 b hb h1]; exact h3⟩
      · exact Or.inr ⟨h1, by rw [e1 32 _ (by omega)]; exact h2⟩
  · refine ⟨?_, fun i q => ?_⟩
    · rw [hv 0 10 6 (show 10 < 41 by decide), hv 10 0 73 (show 0 = 0 from rfl), hv 0 10 7 (show 10 < 41 by decide), hv 10 0 74 (show 0 = 0 from rfl)]
      exact jL.1
    · obtain ⟨h1, h2, b, hb, h3, h4, h5, h6, h7, h8⟩ := jL.2 i q
      rw [hv 0 37 i (show 37 < 41 by decide), hv 0 39 i (show 39 < 41 by decide), hv 9 72 _ (show u9 72 by unfold u9; omega), hv 9 72 _ (show u9 72 by unfold u9; omega), hv 9 72 _ (show u9 72 by unfold u9; omega), hv 9 72 _ (show u9 72 by unfold u9; omega), hv 9 72 _ (show u9 72 by unfold u9; omega), hr 0 38 _ (show 38 < 41 by decide) (by unfold Xr; omega)]
      exact ⟨h1, h2, b, hb, (hJ.congr e1 hb).mpr h3, by rw [ha6 b hb h3]; exact h4, by rw [hv6 b 2 hb h3]; exact h5, by rw [hv6 b 1 hb h3]; exact h6, by rw [hv6 b 9 hb h3]; exact h7, by rw [hv6 b 8 hb h3]; exact h8⟩
  · have e9 : ∀ i k, ppS i = true → vw ad' (mI M') 9 i k = vw ad (mI M) 9 i k := fun i k q => hv 9 i k (show u9 i by have := ppS_sp q; unfold u9; omega)
    unfold IPl at *
    rw [ppv_congr e9 (hv 10 0 31 (show 0 = 0 from rfl)), hv 0 7 19 (show 7 < 41 by decide), hv 0 7 2 (show 7 < 41 by decide), hv 0 7 4 (show 7 < 41 by decide), hj 0 7 17 (show 7 < 41 by decide)]
    rcases kP with q | ⟨q1, q2⟩
    · exact Or.inl q
    · refine Or.inr ⟨q1, fun ho => ?_⟩
      obtain ⟨g1, g2, g3⟩ := q2 ho
      refine ⟨g1, fun k c hk => ?_, fun q => ?_⟩
      · obtain ⟨b, hb, z1, z2, z3⟩ := g2 k c hk
        exact ⟨b, hb, (hJ.congr e1 hb).mpr z1, (jAt.congr e1 hb).mpr z2, by rw [hr 0 17 k (show 17 < 41 by decide) (by unfold Xr; omega), ha6 b hb z1]; exact z3⟩
      · obtain ⟨rows, z1, z2, z3⟩ := g3 q
        exact ⟨rows, z1, z2, fun t ht => by rw [hv 0 30 t (show 30 < 41 by decide)]; exact z3 t ht⟩
