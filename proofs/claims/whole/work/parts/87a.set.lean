/-! call: plan, the invariant behind it -/
theorem getD_in {l : List Nat} {i : Nat} (h : i < l.length) : l.getD i 0 ∈ l := by
  rw [List.getD_eq_getElem?_getD, List.getElem?_eq_getElem h]
  exact List.getElem_mem h
theorem nd_getD {l : List Nat} (hn : l.Nodup) {i j : Nat} (hi : i < l.length) (hj : j < l.length) (e : l.getD i 0 = l.getD j 0) : i = j := by
  rw [List.getD_eq_getElem?_getD, List.getElem?_eq_getElem hi, List.getD_eq_getElem?_getD, List.getElem?_eq_getElem hj] at e
  have e' : l[i] = l[j] := e
  have h := List.pairwise_iff_getElem.mp hn
  rcases Nat.lt_trichotomy i j with z | z | z
  · exact absurd e' (h i j hi hj z)
  · exact z
  · exact absurd e'.symm (h j i hj hi z)
theorem plan_inj {p : Nat → Nat → Int32} {nt nc wk : Nat} {ρ : Nat → List Nat} (h : isPlan p nt nc wk ρ) {t t' i i' : Nat} (ht : t < nt) (ht' : t' < nt) (hi : i < (ρ t).length) (hi' : i' < (ρ t').length) (e : (ρ t).getD i 0 = (ρ t').getD i' 0) : t = t' ∧ i = i' := by
  have nd : ((List.range nt).flatMap ρ).Nodup := h.nodup_iff.mpr td_nd
  obtain ⟨n1, n2⟩ := List.pairwise_flatMap.mp nd
  have n2' := List.pairwise_iff_getElem.mp n2
  have x : ∀ a b, a < nt → b < nt → a < b → ∀ u v, u < (ρ a).length → v < (ρ b).length → ¬ (ρ a).getD u 0 = (ρ b).getD v 0 := fun a b ha hb hab u v hu hv z => by
    have q := n2' a b (by rw [List.length_range]; exact ha) (by rw [List.length_range]; exact hb) hab
    rw [List.getElem_range, List.getElem_range] at q
    exact q _ (getD_in hu) _ (getD_in hv) z
  have et : t = t' := by
    rcases Nat.lt_trichotomy t t' with z | z | z
    · exact absurd e (x t t' ht ht' z i i' hi hi')
    · exact z
    · exact absurd e.symm (x t' t ht' ht z i' i hi' hi)
  subst et
  exact ⟨rfl, nd_getD (n1 t (List.mem_range.mpr ht)) hi hi' e⟩
set_option maxHeartbeats 4000000 in
theorem WI_set {M : Mem} {ad : Nat → Nat → Nat} {nc nb nt wk nw nx nl ne nk kd : Nat} {F : Nat → Nat → Int32} {ρ : Nat → List Nat} (hW : WI M ad nc nb nt wk nw nx nl ne nk kd true) (hρ : isPlan (ppv (vw ad (mI M))) nt nc wk ρ) (h0 : ∀ t, nt ≤ t → ρ t = [])
    (e : ∀ t i k, ¬ (t = 3 ∧ k = 4) → ¬ t = 5 → ¬ (t = 9 ∧ (i = 50 ∨ i = 51 ∨ (53 ≤ i ∧ i ≤ 57))) → ¬ (t = 0 ∧ i = 7 ∧ k = 19) → ¬ (t = 10 ∧ i = 0 ∧ (k = 0 ∨ (58 ≤ k ∧ k ≤ 61))) → vw ad F t i k = vw ad (mI M) t i k)
    (r1 : ∀ t, t < nt → F (ad 3 t) 4 = nI (ρ t).length ∧ ∀ i, i < (ρ t).length → F (ad 5 t) i = nI ((ρ t).getD i 0)) (r2 : ∀ t, t < 3 → (ρ t).length ≤ 7 ∧ F (ad 9 51) t = nI (ρ t).length ∧ ∀ i, i < (ρ t).length → F (ad 9 50) (7 * t + i) = nI ((ρ t).getD i 0)) (h19 : F (ad 0 7) 19 = 0) : WI (mm M F (mJ M)) ad nc nb nt wk nw nx nl ne nk kd true := by
  obtain ⟨hi, hsh, ⟨iS, iC, iB, iR, iL, iT⟩, ⟨jO, jR, jB, jX, jL⟩, kO, kC, kD, kP, kX⟩ := hW
  obtain ⟨d1, d2, d3⟩ := kD rfl
  have nc3 := iS.1.2.2
  have nb3 := iS.2.1.2.2
  have nt3 := iS.2.2.1.2.2
  have wk3 := iS.2.2.2.1.2.2
  have e9 : ∀ i k, ¬ (i = 50 ∨ i = 51 ∨ (53 ≤ i ∧ i ≤ 57)) → vw ad F 9 i k = vw ad (mI M) 9 i k := fun i k z => e 9 i k (by omega) (by omega) (by omega) (by omega) (by omega)
  have e32 : ∀ k, ppv (vw ad (mI M)) 32 k = mI M (ad 9 32) k := fun k => pp9 rfl (by decide)
  have e39 : ∀ k, ppv (vw ad (mI M)) 39 k = mI M (ad 9 39) k := fun k => pp9 rfl (by decide)
  have row : ∀ t i, t < nt → i < (ρ t).length → (ρ t).getD i 0 < nc ∧ mI M (ad 9 32) (7 * wk + (ρ t).getD i 0) = 1 ∧ mI M (ad 9 39) (7 * wk + (ρ t).getD i 0) = -1 := fun t i ht hlt => by
    have hm := plan_mem hρ ht (getD_in hlt)
    have q := (td_of (td_lt hm)).mp hm
    rw [e32, e39] at q
    exact ⟨td_lt hm, q⟩
  have eJ' : eJ nb (vw ad (mI M)) (vw ad F) := fun i k z => e9 i k (by omega)
  refine ⟨hi, hsh, ⟨iS.congr (fun t k h => e t 0 k (by omega) (by omega) (by omega) (by omega) (by omega)), iC.congr nc3 (fun t i k h => e t i k (by omega) (by omega) (by omega) (by omega) (by omega)) (fun _ _ => rfl), iB.congr (fun t i k h => e t i k (by omega) (by omega) (by omega) (by omega) (by omega)), iR.congr (fun t i k h => e t i k (by omega) (by omega) (by omega) (by omega) (by omega)), iL.congr (fun t i k h => e t i k (by omega) (by omega) (by omega) (by omega) (by omega)), ⟨fun t ht => ?_, fun t z1 z2 => ?_⟩⟩, ⟨jO.congr eJ' (fun b k _ _ _ => e 6 b k (by omega) (by omega) (by omega) (by omega) (by omega)), jR.congr eJ', jB.congr nb3 (fun t i k h => e t i k (by omega) (by omega) (by omega) (by omega) (by omega)), jX.congr (fun t i k h => e t i k (by omega) (by omega) (by omega) (by omega) (by omega)), jL.congr eJ' (fun b k _ _ _ => e 6 b k (by omega) (by omega) (by omega) (by omega) (by omega)) (fun t i k h => e t i k (by omega) (by omega) (by omega) (by omega) (by omega))⟩, kO.congr iB wk3 (fun t i k h => e t i k (by omega) (by omega) (by omega) (by omega) (by omega)) (fun b _ _ => e 6 b 8 (by omega) (by omega) (by omega) (by omega) (by omega)), kC.congr (fun t i k h => e t i k (by omega) (by omega) (by omega) (by omega) (by omega)) ⟨rfl, rfl⟩, fun _ => ⟨fun t ht => ?_, fun t n i ht hn n7 hlt => ?_, fun c hc z1 z2 => ?_⟩, Or.inl h19, kX.congr (fun t i k h => e t i k (by omega) (by omega) (by omega) (by omega) (by omega))⟩
  · show (vw ad F 3 t 0 = nI t ∧ vw ad F 3 t 1 = vw ad F 9 28 t ∧ vw ad F 3 t 4 = vw ad F 9 51 t ∧ vw ad F 3 t 5 = vw ad F 9 47 t ∧ vw ad F 3 t 6 = vw ad F 9 48 t ∧ vw ad F 3 t 7 = vw ad F 9 44 t ∧ vw ad F 3 t 8 = vw ad F 9 45 t ∧ vw ad F 3 t 9 = vw ad F 9 46 t ∧ vw ad F 3 t 10 = vw ad F 9 49 t) ∧ rg 12 30 (vw ad F 9 28 t) ∧ (∀ k, k < 4 → vw ad F 4 t k = vw ad F 9 97 (4 * t + k) ∧ ∃ m n, m ≤ n ∧ n ≤ 60 ∧ vw ad F 9 97 (4 * t + k) = nI m ∧ vw ad F 10 0 98 = nI n) ∧ ∃ n, n ≤ 7 ∧ vw ad F 9 51 t = nI n ∧ ∀ i, i < n → vw ad F 5 t i = vw ad F 9 50 (7 * t + i) ∧ ∃ c, c < nc ∧ vw ad F 9 50 (7 * t + i) = nI c
    obtain ⟨⟨t0, t1, t4, t5, t6, t7, t8, t9, t10⟩, t11, t12, -⟩ := iT.1 t ht
    have e3 : ∀ k, ¬ k = 4 → vw ad F 3 t k = vw ad (mI M) 3 t k := fun k z => e 3 t k (by omega) (by omega) (by omega) (by omega) (by omega)
    obtain ⟨s1, s2, s3⟩ := r2 t (by omega)
    rw [e3 0 (by decide), e3 1 (by decide), e3 5 (by decide), e3 6 (by decide), e3 7 (by decide), e3 8 (by decide), e3 9 (by decide), e3 10 (by decide), e9 28 t (by omega), e9 47 t (by omega), e9 48 t (by omega), e9 44 t (by omega), e9 45 t (by omega), e9 46 t (by omega), e9 49 t (by omega)]
    refine ⟨⟨t0, t1, (r1 t ht).1.trans s2.symm, t5, t6, t7, t8, t9, t10⟩, t11, fun k hk => ?_, (ρ t).length, s1, s2, fun i hlt => ⟨((r1 t ht).2 i hlt).trans (s3 i hlt).symm, _, (row t i ht hlt).1, s3 i hlt⟩⟩
    rw [e 4 t k (by omega) (by omega) (by omega) (by omega) (by omega), e9 97 _ (by omega), e 10 0 98 (by omega) (by omega) (by omega) (by omega) (by omega)]
    exact t12 k hk
  · show (vw ad F 9 44 t = 0 ∧ vw ad F 9 45 t = 0 ∧ vw ad F 9 46 t = 0 ∧ vw ad F 9 47 t = 0 ∧ vw ad F 9 48 t = 0 ∧ vw ad F 9 49 t = 0 ∧ vw ad F 9 51 t = 0) ∧ ∀ k, k < 4 → vw ad F 9 97 (4 * t + k) = 0
    obtain ⟨⟨q1, q2, q3, q4, q5, q6, q7⟩, q8⟩ := iT.2 t z1 z2
    have s2 := (r2 t z2).2.1
    rw [h0 t z1] at s2
    rw [e9 44 t (by omega), e9 45 t (by omega), e9 46 t (by omega), e9 47 t (by omega), e9 48 t (by omega), e9 49 t (by omega)]
    refine ⟨⟨q1, q2, q3, q4, q5, q6, s2⟩, fun k hk => ?_⟩
    rw [e9 97 _ (by omega)]
    exact q8 k hk
  · have := d1 t ht
    simp only [vw] at this
    show rg 0 30 (vw ad F 9 47 t) ∧ rg 0 nc (vw ad F 9 48 t) ∧ ((vw ad F 9 44 t = 0 ∧ vw ad F 9 45 t = -1 ∧ vw ad F 9 46 t = -1) ∨ ∃ c, c < nc ∧ vw ad F 9 45 t = nI c ∧ vw ad F 9 32 (7 * wk + c) = 1 ∧ vw ad F 9 39 (7 * wk + c) = nI t ∧ vw ad F 9 38 (7 * wk + c) = -1 ∧ vw ad F 9 48 t = nI (c + 1) ∧ ((vw ad F 9 44 t = 1 ∧ vw ad F 9 37 (7 * wk + c) = -1 ∧ ∃ k, nw < k ∧ k ≤ 1680 ∧ vw ad F 9 46 t = nI k) ∨ (vw ad F 9 44 t = 2 ∧ vw ad F 9 37 (7 * wk + c) = -1 ∧ vw ad F 9 46 t = -1) ∨ (vw ad F 9 44 t = 3 ∧ ¬ vw ad F 9 37 (7 * wk + c) = -1 ∧ ∃ k, nw < k ∧ k ≤ 1840 ∧ vw ad F 9 46 t = nI k)))
    rw [e9 47 t (by omega), e9 48 t (by omega), e9 44 t (by omega), e9 45 t (by omega), e9 46 t (by omega)]
    simp only [fun k => e9 32 k (by omega), fun k => e9 39 k (by omega), fun k => e9 38 k (by omega), fun k => e9 37 k (by omega)]
    exact this
  · have hn' : F (ad 9 51) t = nI n := hn
    obtain ⟨s1, s2, s3⟩ := r2 t (by omega)
    have en : n = (ρ t).length := (nI_eqs (by omega) (by omega)).mp (hn'.symm.trans s2)
    subst en
    obtain ⟨w1, w2, w3⟩ := row t i ht hlt
    refine ⟨(ρ t).getD i 0, w1, s3 i hlt, by rw [show vw ad (mI (mm M F (mJ M))) 9 32 (7 * wk + (ρ t).getD i 0) = vw ad (mI M) 9 32 (7 * wk + (ρ t).getD i 0) from e9 32 _ (by omega)]; exact w2, by rw [show vw ad (mI (mm M F (mJ M))) 9 39 (7 * wk + (ρ t).getD i 0) = vw ad (mI M) 9 39 (7 * wk + (ρ t).getD i 0) from e9 39 _ (by omega)]; exact w3, fun t' n' i' ht' hn2 n7' hlt' he => ?_⟩
    have hn2' : F (ad 9 51) t' = nI n' := hn2
    obtain ⟨s1', s2', s3'⟩ := r2 t' (by omega)
    have en' : n' = (ρ t').length := (nI_eqs (by omega) (by omega)).mp (hn2'.symm.trans s2')
    subst en'
    have he' : F (ad 9 50) (7 * t' + i') = nI ((ρ t).getD i 0) := he
    rw [s3' i' hlt'] at he'
    have w1' := (row t' i' ht' hlt').1
    exact plan_inj hρ ht' ht hlt' hlt ((nI_eqs (by omega) (by omega)).mp he')
  · have z1' : vw ad F 9 32 (7 * wk + c) = 1 := z1
    have z2' : vw ad F 9 39 (7 * wk + c) = -1 := z2
    rw [e9 32 _ (by omega)] at z1'
    rw [e9 39 _ (by omega)] at z2'
    show vw ad F 9 37 (7 * wk + c) = -1 ∧ vw ad F 9 38 (7 * wk + c) = -1
    rw [e9 37 _ (by omega), e9 38 _ (by omega)]
    exact d3 c hc z1' z2'
