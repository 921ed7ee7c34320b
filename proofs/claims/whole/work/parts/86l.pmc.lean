/-! the class's planner: costAtHand -/
/-- the rows at hand -/
def RWd (p : Nat → Nat → Int32) (nt nc wk : Nat) : Prop := (∀ t, t < nt → ∃ n, n ≤ 7 ∧ p 51 t = nI n ∧ ∀ i, i < n → ∃ c, c ∈ tdL p nc wk ∧ p 50 (7 * t + i) = nI c) ∧
  ∀ t t' n n' i i', t < nt → t' < nt → p 51 t = nI n → p 51 t' = nI n' → n ≤ 7 → n' ≤ 7 → i < n → i' < n' → p 50 (7 * t + i) = p 50 (7 * t' + i') → t = t' ∧ i = i'
def rwK (p : Nat → Nat → Int32) (nc wk t n : Nat) : List Nat := (List.range n).map (fun i => (tdL p nc wk).idxOf (p 50 (7 * t + i)).toNatClampNeg)
theorem rwK_s (p : Nat → Nat → Int32) (nc wk t n : Nat) : rwK p nc wk t (n + 1) = rwK p nc wk t n ++ [(tdL p nc wk).idxOf (p 50 (7 * t + n)).toNatClampNeg] := by
  unfold rwK
  rw [List.range_succ, List.map_append]; rfl
section
variable {p : Nat → Nat → Int32} {nt nc wk : Nat}
theorem RWd.inj (h : RWd p nt nc wk) (nc7 : nc ≤ 7) {t t' n n' i i' : Nat} (ht : t < nt) (ht' : t' < nt) (hn : p 51 t = nI n) (hn' : p 51 t' = nI n') (n7 : n ≤ 7) (n7' : n' ≤ 7) (hi : i < n) (hi' : i' < n') (e : (tdL p nc wk).idxOf (p 50 (7 * t + i)).toNatClampNeg = (tdL p nc wk).idxOf (p 50 (7 * t' + i')).toNatClampNeg) : t = t' ∧ i = i' := by
  obtain ⟨m, m1, m2, m3⟩ := h.1 t ht
  obtain ⟨m', m1', m2', m3'⟩ := h.1 t' ht'
  have e1 : m = n := (nI_eqs (by omega) (by omega)).mp (m2.symm.trans hn)
  have e2 : m' = n' := (nI_eqs (by omega) (by omega)).mp (m2'.symm.trans hn')
  subst e1 e2
  obtain ⟨c, c1, c2⟩ := m3 i hi
  obtain ⟨c', c1', c2'⟩ := m3' i' hi'
  have l1 := td_lt c1
  have l2 := td_lt c1'
  rw [c2, c2', nI_clamp (by omega), nI_clamp (by omega)] at e
  have ec : c = c' := by rw [← (td_idx c1).2, ← (td_idx c1').2, e]
  exact h.2 t t' m m' i i' ht ht' hn hn' n7 n7' hi hi' (by rw [c2, c2', ec])
theorem RWd.row (h : RWd p nt nc wk) (nc7 : nc ≤ 7) {t n : Nat} (ht : t < nt) (hn : p 51 t = nI n) (n7 : n ≤ 7) {j : Nat} (hj : j ≤ n) : (rwK p nc wk t j).Nodup ∧ ∀ k ∈ rwK p nc wk t j, k < (tdL p nc wk).length := by
  refine ⟨?_, fun k hk => ?_⟩
  · unfold rwK
    refine List.pairwise_map.mpr (List.Pairwise.imp_of_mem (fun {a b} ha hb hab z => ?_) List.pairwise_lt_range)
    have := (h.inj nc7 ht ht hn hn n7 n7 (show a < n by have := List.mem_range.mp ha; omega) (show b < n by have := List.mem_range.mp hb; omega) z).2
    omega
  · obtain ⟨i, hi, rfl⟩ := List.mem_map.mp hk
    obtain ⟨m, m1, m2, m3⟩ := h.1 t ht
    have e1 : m = n := (nI_eqs (by omega) (by omega)).mp (m2.symm.trans hn)
    obtain ⟨c, c1, c2⟩ := m3 i (by have := List.mem_range.mp hi; omega)
    have l1 := td_lt c1
    rw [c2, nI_clamp (by omega)]
    exact (td_idx c1).1
theorem RWd.PK (h : RWd p nt nc wk) (nc7 : nc ≤ 7) (hb : ∀ k, k < (tdL p nc wk).length → ¬ inRw p nt (tdK p nc wk k) = none) : PK nt (tdL p nc wk).length (fun t => rwK p nc wk t (p 51 t).toNatClampNeg) := by
  have n51 : ∀ t, t < nt → ∃ n, n ≤ 7 ∧ p 51 t = nI n ∧ (p 51 t).toNatClampNeg = n := fun t ht => by
    obtain ⟨n, n1, n2, -⟩ := h.1 t ht
    exact ⟨n, n1, n2, by rw [n2]; exact nI_clamp (by omega)⟩
  refine (List.perm_ext_iff_of_nodup ?_ List.nodup_range).mpr (fun k => ⟨fun hk => ?_, fun hk => ?_⟩)
  · refine List.pairwise_flatMap.mpr ⟨fun t ht => ?_, List.Pairwise.imp_of_mem (fun {t t'} ht ht' hlt x hx y hy z => ?_) List.pairwise_lt_range⟩
    · obtain ⟨n, n1, n2, n3⟩ := n51 t (List.mem_range.mp ht)
      rw [n3]
      exact (h.row nc7 (List.mem_range.mp ht) n2 n1 (Nat.le_refl _)).1
    · obtain ⟨n, n1, n2, n3⟩ := n51 t (List.mem_range.mp ht)
      obtain ⟨n', n1', n2', n3'⟩ := n51 t' (List.mem_range.mp ht')
      rw [n3] at hx
      rw [n3'] at hy
      obtain ⟨i, hi, rfl⟩ := List.mem_map.mp hx
      obtain ⟨i', hi', rfl⟩ := List.mem_map.mp hy
      have := (h.inj nc7 (List.mem_range.mp ht) (List.mem_range.mp ht') n2 n2' n1 n1' (List.mem_range.mp hi) (List.mem_range.mp hi') z).1
      omega
  · obtain ⟨t, ht, hk⟩ := List.mem_flatMap.mp hk
    obtain ⟨n, n1, n2, n3⟩ := n51 t (List.mem_range.mp ht)
    rw [n3] at hk
    exact List.mem_range.mpr ((h.row nc7 (List.mem_range.mp ht) n2 n1 (Nat.le_refl _)).2 k hk)
  · have hk' := List.mem_range.mp hk
    cases e : inRw p nt (tdK p nc wk k) with
    | none => exact absurd e (hb k hk')
    | some t =>
      rw [inRw_hit, List.find?_range_eq_some] at e
      have ht := List.mem_range.mp e.2.1
      obtain ⟨n, n1, n2, n3⟩ := n51 t ht
      obtain ⟨i, i1, i2⟩ := (hitR_of n2 n1).mp e.1
      refine List.mem_flatMap.mpr ⟨t, e.2.1, ?_⟩
      rw [n3]
      refine List.mem_map.mpr ⟨i, List.mem_range.mpr i1, ?_⟩
      have l1 := td_lt (tdK_mem hk')
      rw [i2, nI_clamp (by omega)]
      exact tdK_idx hk'
end

set_option maxHeartbeats 4000000 in
set_option maxRecDepth 100000 in
theorem s_Pl_indexOf {d : Nat} {M : Mem} {f : Nat → Nat → Int32} {g : Nat → Nat → Int64} {ad : Nat → Nat → Nat} {R : Option Value → Mem → Prop} {p : Nat → Nat → Int32} {nt nc wk nw : Nat} {bk : Nat → Nat} {c : Nat} (hd : 0 ≤ d) (hF : Fx M ad) (hP : PW p nt nc wk nw) (ce : CPl p nt nc wk M ad bk f) (hc : c ∈ tdL p nc wk) (hR : R (some (.int (nI ((tdL p nc wk).idxOf c)))) (mm M f g)) : Call d 57 [.ref (ad 0 7), .int (nI c)] (mm M f g) R := by
  have T7 := td_le (p := p) (nc := nc) (wk := wk)
  have nc7 := hP.2.2.2
  have lc := td_lt hc
  obtain ⟨x1, x2⟩ := td_idx hc
  obtain ⟨q, hq⟩ : ∃ q, (tdL p nc wk).length = q := ⟨_, rfl⟩
  obtain ⟨x, hx⟩ : ∃ x, (tdL p nc wk).idxOf c = x := ⟨_, rfl⟩
  have c2 : f (ad 0 7) 2 = nI q := by rw [← hq]; exact ce.2.2.2.2.2.1
  have e1 := ce.1
  rw [hx] at x1 x2 hR
  have loop : ∀ k, k ≤ x → Go d 57 0 0 2 [.ref (ad 0 7), .int (nI c), .int (nI k)] [] (mm M f g) R := by
    refine up_ind (P := fun k => Go d 57 0 0 2 [.ref (ad 0 7), .int (nI c), .int (nI k)] [] (mm M f g) R) x ?_ (fun k hlt ih => ?_)
    · have e3 := (e1 x (by omega)).2.2.1
      rw [x2] at e3
      show Go d 57 0 0 2 [.ref (ad 0 7), .int (nI c), .int (nI x)] [] (mm M f g) R
      refine go_blk 3 [some (.int (nI q))] (pc' := 7) (vs' := [.ref (ad 0 7), .int (nI c), .int (nI x)]) (st' := [.int (nI q), .int (nI x)]) (M' := mm M f g) (ps := [ob (mm M f g) (ad 0 7) 6, (Value.int (f (ad 0 7) 2)) = .int (nI q)]) rfl ⟨(hF.o 7), congrArg Value.int c2, trivial⟩ ?_
      refine go_icmp rfl (fun (z : nI q ≤ (nI x)) => absurd z (show ¬ (nI q ≤ (nI x)) from (Int32.not_le.mpr ((nI_lts (a := x) (b := q) (by omega) (by omega)).mpr (by omega))))) (fun _ => ?_)
      refine go_blk 6 [some (.ref (ad 0 17)), some (.ref (ad 6 (bk x))), some (.int (nI c))] (pc' := 20) (vs' := [.ref (ad 0 7), .int (nI c), .int (nI x)]) (st' := [.int (nI c), .int (nI c)]) (M' := mm M f g) (ps := [ob (mm M f g) (ad 0 7) 6, mR (mm M f g) (ad 0 7) 1 = some (ad 0 17), va_rf (some (ad 0 17)) = .ref (ad 0 17), ob (mm M f g) (ad 0 17) 19, 17 ≤ 19 ∧ 19 < 22, vp_in (nI x) (mN (mm M f g) (ad 0 17)), mR (mm M f g) (ad 0 17) ((nI x).toNatClampNeg) = some (ad 6 (bk x)), va_rf (some (ad 6 (bk x))) = .ref (ad 6 (bk x)), ob (mm M f g) (ad 6 (bk x)) 3, (Value.int (f (ad 6 (bk x)) 1)) = .int (nI c)]) rfl ⟨(hF.o 7), (hF.r 7 1 17), rfl, (hF.o 17), (by decide), (vpi (hF.n 17) (show _ < 7 by omega)), (cl_rf rfl (by omega) (e1 x (by omega)).1), rfl, (e1 x (by omega)).2.1, congrArg Value.int e3, trivial⟩ ?_
      refine go_icmp rfl (fun (z : ¬ (nI c) = nI c) => absurd z (show ¬ (¬ (nI c) = nI c) from (fun z => z rfl))) (fun _ => ?_)
      refine go_blk 1 [] (pc' := 24) (vs' := [.ref (ad 0 7), .int (nI c), .int (nI x)]) (st' := [.int (nI x)]) (M' := mm M f g) (ps := []) rfl trivial ?_
      refine go_iret rfl rfl ?_
      exact hR
    · have e3 := (e1 k (by omega)).2.2.1
      have kT : k < (tdL p nc wk).length := by omega
      have ne : ¬ tdK p nc wk k = c := fun z => by
        have := tdK_idx kT
        rw [z, hx] at this
        omega
      have lk := td_lt (tdK_mem kT)
      obtain ⟨e, he⟩ : ∃ e, tdK p nc wk k = e := ⟨_, rfl⟩
      rw [he] at e3 ne lk
      show Go d 57 0 0 2 [.ref (ad 0 7), .int (nI c), .int (nI k)] [] (mm M f g) R
      refine go_blk 3 [some (.int (nI q))] (pc' := 7) (vs' := [.ref (ad 0 7), .int (nI c), .int (nI k)]) (st' := [.int (nI q), .int (nI k)]) (M' := mm M f g) (ps := [ob (mm M f g) (ad 0 7) 6, (Value.int (f (ad 0 7) 2)) = .int (nI q)]) rfl ⟨(hF.o 7), congrArg Value.int c2, trivial⟩ ?_
      refine go_icmp rfl (fun (z : nI q ≤ (nI k)) => absurd z (show ¬ (nI q ≤ (nI k)) from (Int32.not_le.mpr ((nI_lts (a := k) (b := q) (by omega) (by omega)).mpr (by omega))))) (fun _ => ?_)
      refine go_blk 6 [some (.ref (ad 0 17)), some (.ref (ad 6 (bk k))), some (.int (nI e))] (pc' := 20) (vs' := [.ref (ad 0 7), .int (nI c), .int (nI k)]) (st' := [.int (nI c), .int (nI e)]) (M' := mm M f g) (ps := [ob (mm M f g) (ad 0 7) 6, mR (mm M f g) (ad 0 7) 1 = some (ad 0 17), va_rf (some (ad 0 17)) = .ref (ad 0 17), ob (mm M f g) (ad 0 17) 19, 17 ≤ 19 ∧ 19 < 22, vp_in (nI k) (mN (mm M f g) (ad 0 17)), mR (mm M f g) (ad 0 17) ((nI k).toNatClampNeg) = some (ad 6 (bk k)), va_rf (some (ad 6 (bk k))) = .ref (ad 6 (bk k)), ob (mm M f g) (ad 6 (bk k)) 3, (Value.int (f (ad 6 (bk k)) 1)) = .int (nI e)]) rfl ⟨(hF.o 7), (hF.r 7 1 17), rfl, (hF.o 17), (by decide), (vpi (hF.n 17) (show _ < 7 by omega)), (cl_rf rfl (by omega) (e1 k (by omega)).1), rfl, (e1 k (by omega)).2.1, congrArg Value.int e3, trivial⟩ ?_
      refine go_icmp rfl (fun _ => ?_) (fun (z : ¬ (¬ (nI e) = nI c)) => absurd (show ¬ (nI e) = nI c from (fun z => ne ((nI_eqs (by omega) (by omega)).mp z))) z)
      refine go_blk 2 [] (pc' := 2) (vs' := [.ref (ad 0 7), .int (nI c), .int ((nI k) + 1)]) (st' := []) (M' := mm M f g) (ps := []) rfl trivial ?_
      rw [show nI k + 1 = nI (k + 1) from nI_add k 1]
      exact ih
  show Go d 57 0 0 0 [.ref (ad 0 7), .int (nI c), .retAddr 0] [] (mm M f g) R
  refine go_blk 2 [] (pc' := 2) (vs' := [.ref (ad 0 7), .int (nI c), .int 0]) (st' := []) (M' := mm M f g) (ps := []) rfl trivial ?_
  exact loop 0 (Nat.zero_le _)

set_option maxHeartbeats 4000000 in
set_option maxRecDepth 100000 in
theorem s_Pl_costAtHand {d : Nat} {M : Mem} {f : Nat → Nat → Int32} {g : Nat → Nat → Int64} {ad : Nat → Nat → Nat} {R : Option Value → Mem → Prop} {p : Nat → Nat → Int32} {nt nc wk nw : Nat} {bk : Nat → Nat} (hd : 5 ≤ d) (hi : Inj ad) (hF : Fx M ad) (hT : Ts M ad nt) (nt3 : nt ≤ 3) (hP : PW p nt nc wk nw) (ce : CPl p nt nc wk M ad bk f) (hnw : nw ≤ 1440) (hw : ∀ t, t < nt → TW p wk t) (hrw : RWd p nt nc wk) (hR : ∀ V f' g', hsF ad f g f' g' → CeV p nt nc wk nw V → R (some (.long (lN V))) (mm M f' g')) : Call d 56 [.ref (ad 0 7), .ref (ad 0 5), .ref (ad 0 3), .int (nI nw)] (mm M f g) R := by
  have T7 := td_le (p := p) (nc := nc) (wk := wk)
  have nc7 := hP.2.2.2
  obtain ⟨q, hq⟩ : ∃ q, (tdL p nc wk).length = q := ⟨_, rfl⟩
  have c2 : f (ad 0 7) 2 = nI q := by rw [← hq]; exact ce.2.2.2.2.2.1
  have c4 : f (ad 0 7) 4 = nI nt := ce.2.2.2.2.2.2.1
  have far : (1152921504606846976 : Int64) = lN (2 ^ 60) := rfl
  have teams : PK nt (tdL p nc wk).length (fun t => rwK p nc wk t (p 51 t).toNatClampNeg) → ∀ t, t ≤ nt → ∀ (f' : Nat → Nat → Int32) (g' : Nat → Nat → Int64) (u7 u8 : Value), hsF ad f g f' g' → Go d 56 0 0 39 [.ref (ad 0 7), .ref (ad 0 5), .ref (ad 0 3), .int (nI nw), .long (lN (tcK p nt nc wk nw (fun t => rwK p nc wk t (p 51 t).toNatClampNeg) t)), .retAddr 1, .int (nI t), u7, u8] [] (mm M f' g') R := by
    intro hpk
    have tb := tcK_bd (nt := nt) hP (fun t ht => hpk.row ht)
    refine up_ind (P := fun t => ∀ (f' : Nat → Nat → Int32) (g' : Nat → Nat → Int64) (u7 u8 : Value), hsF ad f g f' g' → Go d 56 0 0 39 [.ref (ad 0 7), .ref (ad 0 5), .ref (ad 0 3), .int (nI nw), .long (lN (tcK p nt nc wk nw (fun t => rwK p nc wk t (p 51 t).toNatClampNeg) t)), .retAddr 1, .int (nI t), u7, u8] [] (mm M f' g') R) nt (fun f' g' u7 u8 k1 => ?_) (fun t ht ih f' g' u7 u8 k1 => ?_)
    ·
      show Go d 56 0 0 39 [.ref (ad 0 7), .ref (ad 0 5), .ref (ad 0 3), .int (nI nw), .long (lN (tcK p nt nc wk nw (fun t => rwK p nc wk t (p 51 t).toNatClampNeg) nt)), .retAddr 1, .int (nI nt), u7, u8] [] (mm M f' g') R
      refine go_blk 3 [some (.int (nI nt))] (pc' := 45) (vs' := [.ref (ad 0 7), .ref (ad 0 5), .ref (ad 0 3), .int (nI nw), .long (lN (tcK p nt nc wk nw (fun t => rwK p nc wk t (p 51 t).toNatClampNeg) nt)), .retAddr 1, .int (nI nt), u7, u8]) (st' := [.int (nI nt), .int (nI nt)]) (M' := mm M f' g') (ps := [ob (mm M f' g') (ad 0 7) 6, (Value.int (f' (ad 0 7) 4)) = .int (nI nt)]) rfl ⟨(hF.o 7), congrArg Value.int ((k1.1 0 7 4 (by omega)).trans c4), trivial⟩ ?_
      refine go_icmp rfl (fun _ => ?_) (fun (z : ¬ (nI nt ≤ (nI nt))) => absurd (show nI nt ≤ (nI nt) from Int32.le_refl _) z)
      refine go_blk 1 [] (pc' := 147) (vs' := [.ref (ad 0 7), .ref (ad 0 5), .ref (ad 0 3), .int (nI nw), .long (lN (tcK p nt nc wk nw (fun t => rwK p nc wk t (p 51 t).toNatClampNeg) nt)), .retAddr 1, .int (nI nt), u7, u8]) (st' := [.long (lN (tcK p nt nc wk nw (fun t => rwK p nc wk t (p 51 t).toNatClampNeg) nt))]) (M' := mm M f' g') (ps := []) rfl trivial ?_
      refine go_lret rfl rfl ?_
      have t1 := tb nt (Nat.le_refl _)
      have t2 : nt * 2 ^ 40 ≤ 3 * 2 ^ 40 := Nat.mul_le_mul_right _ nt3
      exact hR _ f' g' k1 (Or.inr ⟨by omega, _, hpk, rfl⟩)
    · obtain ⟨n, n7, n51, nr⟩ := hrw.1 t ht
      obtain ⟨Y, hY⟩ : ∃ Y, tcK p nt nc wk nw (fun t => rwK p nc wk t (p 51 t).toNatClampNeg) t = Y := ⟨_, rfl⟩
      have nx : Y + rcK p nt nc wk nw t (rwK p nc wk t n) = tcK p nt nc wk nw (fun t => rwK p nc wk t (p 51 t).toNatClampNeg) (t + 1) := by
        rw [tcK, hY, n51, nI_clamp (by omega)]
      rw [hY]
      have inner : ∀ i, i ≤ n → ∀ (f' : Nat → Nat → Int32) (g' : Nat → Nat → Int64) (u8 : Value), hsF ad f g f' g' → SA ad f' g' i (rsK p nc wk nw t (rwK p nc wk t i)) (rcK p nt nc wk nw t (rwK p nc wk t i)) → Go d 56 0 0 62 [.ref (ad 0 7), .ref (ad 0 5), .ref (ad 0 3), .int (nI nw), .long (lN Y), .retAddr 1, .int (nI t), .int (nI i), u8] [] (mm M f' g') R := by
        refine up_ind (P := fun i => ∀ (f' : Nat → Nat → Int32) (g' : Nat → Nat → Int64) (u8 : Value), hsF ad f g f' g' → SA ad f' g' i (rsK p nc wk nw t (rwK p nc wk t i)) (rcK p nt nc wk nw t (rwK p nc wk t i)) → Go d 56 0 0 62 [.ref (ad 0 7), .ref (ad 0 5), .ref (ad 0 3), .int (nI nw), .long (lN Y), .retAddr 1, .int (nI t), .int (nI i), u8] [] (mm M f' g') R) n (fun f' g' u8 k1 k2 => ?_) (fun i hlt ihi f' g' u8 k1 k2 => ?_)
        ·
          show Go d 56 0 0 62 [.ref (ad 0 7), .ref (ad 0 5), .ref (ad 0 3), .int (nI nw), .long (lN Y), .retAddr 1, .int (nI t), .int (nI n), u8] [] (mm M f' g') R
          refine go_blk 5 [some (.ref (ad 3 t)), some (.int (nI n))] (pc' := 71) (vs' := [.ref (ad 0 7), .ref (ad 0 5), .ref (ad 0 3), .int (nI nw), .long (lN Y), .retAddr 1, .int (nI t), .int (nI n), u8]) (st' := [.int (nI n), .int (nI n)]) (M' := mm M f' g') (ps := [ob (mm M f' g') (ad 0 3) 20, 17 ≤ 20 ∧ 20 < 22, vp_in (nI t) (mN (mm M f' g') (ad 0 3)), mR (mm M f' g') (ad 0 3) ((nI t).toNatClampNeg) = some (ad 3 t), va_rf (some (ad 3 t)) = .ref (ad 3 t), ob (mm M f' g') (ad 3 t) 8, (Value.int (f' (ad 3 t) 4)) = .int (nI n)]) rfl ⟨(hF.o 3), (by decide), (vpi (hF.n 3) (show _ < 3 by omega)), (cl_rf rfl (by omega) (hT t (by assumption)).1), rfl, (hT t (by assumption)).2.1, congrArg Value.int (((k1.1 3 t 4 (by omega)).trans (ce.2.1 t ht).2.2.1).trans n51), trivial⟩ ?_
          refine go_icmp rfl (fun _ => ?_) (fun (z : ¬ (nI n ≤ (nI n))) => absurd (show nI n ≤ (nI n) from Int32.le_refl _) z)
          refine go_blk 12 [some (.ref (ad 0 25)), some (.ref (ad 3 t)), some (.int (nI n)), some (.long (lN (rcK p nt nc wk nw t (rwK p nc wk t n))))] (pc' := 39) (vs' := [.ref (ad 0 7), .ref (ad 0 5), .ref (ad 0 3), .int (nI nw), .long ((lN Y) + (lN (rcK p nt nc wk nw t (rwK p nc wk t n)))), .retAddr 1, .int ((nI t) + 1), .int (nI n), u8]) (st' := []) (M' := mm M f' g') (ps := [ob (mm M f' g') (ad 0 7) 6, mR (mm M f' g') (ad 0 7) 11 = some (ad 0 25), va_rf (some (ad 0 25)) = .ref (ad 0 25), ob (mm M f' g') (ad 0 3) 20, 17 ≤ 20 ∧ 20 < 22, vp_in (nI t) (mN (mm M f' g') (ad 0 3)), mR (mm M f' g') (ad 0 3) ((nI t).toNatClampNeg) = some (ad 3 t), va_rf (some (ad 3 t)) = .ref (ad 3 t), ob (mm M f' g') (ad 3 t) 8, (Value.int (f' (ad 3 t) 4)) = .int (nI n), ob (mm M f' g') (ad 0 25) 16, vp_in (nI n) (mN (mm M f' g') (ad 0 25)), (Value.long (g' (ad 0 25) ((nI n).toNatClampNeg))) = .long (lN (rcK p nt nc wk nw t (rwK p nc wk t n)))]) rfl ⟨(hF.o 7), (hF.r 7 11 25), rfl, (hF.o 3), (by decide), (vpi (hF.n 3) (show _ < 3 by omega)), (cl_rf rfl (by omega) (hT t (by assumption)).1), rfl, (hT t (by assumption)).2.1, congrArg Value.int (((k1.1 3 t 4 (by omega)).trans (ce.2.1 t ht).2.2.1).trans n51), (hF.o 25), (vpi (hF.n 25) (show _ < 8 by omega)), congrArg Value.long ((congrArg (fun z => g' (ad 0 25) z) (nI_clamp (by omega))).trans k2.2.2.2), trivial⟩ ?_
          rw [lN_add, nx, show nI t + 1 = nI (t + 1) from nI_add t 1]
          exact ih f' g' _ _ k1
        · obtain ⟨c, cc1, cc2⟩ := nr i hlt
          have lc := td_lt cc1
          obtain ⟨kt, kd⟩ := td_idx cc1
          obtain ⟨k, hk⟩ : ∃ k, (tdL p nc wk).idxOf c = k := ⟨_, rfl⟩
          have es : rwK p nc wk t (i + 1) = rwK p nc wk t i ++ [k] := by rw [rwK_s, cc2, nI_clamp (by omega), hk]
          rw [hk] at kt kd
          have ce1 := ce.tr k1.plF
          have e5 : f' (ad 5 t) i = nI c := (ce1.2.2.1 t i n ht n51 n7 hlt).trans cc2
          obtain ⟨r1, r2⟩ := hrw.row nc7 ht n51 n7 (show i ≤ n by omega)
          obtain ⟨-, so, -⟩ := rcK_bd (nw := nw) hP ht r1 r2
          have ln : (rwK p nc wk t i).length = i := by unfold rwK; rw [List.length_map, List.length_range]
          rw [ln] at so
          show Go d 56 0 0 62 [.ref (ad 0 7), .ref (ad 0 5), .ref (ad 0 3), .int (nI nw), .long (lN Y), .retAddr 1, .int (nI t), .int (nI i), u8] [] (mm M f' g') R
          refine go_blk 5 [some (.ref (ad 3 t)), some (.int (nI n))] (pc' := 71) (vs' := [.ref (ad 0 7), .ref (ad 0 5), .ref (ad 0 3), .int (nI nw), .long (lN Y), .retAddr 1, .int (nI t), .int (nI i), u8]) (st' := [.int (nI n), .int (nI i)]) (M' := mm M f' g') (ps := [ob (mm M f' g') (ad 0 3) 20, 17 ≤ 20 ∧ 20 < 22, vp_in (nI t) (mN (mm M f' g') (ad 0 3)), mR (mm M f' g') (ad 0 3) ((nI t).toNatClampNeg) = some (ad 3 t), va_rf (some (ad 3 t)) = .ref (ad 3 t), ob (mm M f' g') (ad 3 t) 8, (Value.int (f' (ad 3 t) 4)) = .int (nI n)]) rfl ⟨(hF.o 3), (by decide), (vpi (hF.n 3) (show _ < 3 by omega)), (cl_rf rfl (by omega) (hT t (by assumption)).1), rfl, (hT t (by assumption)).2.1, congrArg Value.int (((k1.1 3 t 4 (by omega)).trans (ce.2.1 t ht).2.2.1).trans n51), trivial⟩ ?_
          refine go_icmp rfl (fun (z : nI n ≤ (nI i)) => absurd z (show ¬ (nI n ≤ (nI i)) from (Int32.not_le.mpr ((nI_lts (a := i) (b := n) (by omega) (by omega)).mpr hlt)))) (fun _ => ?_)
          refine go_blk 7 [some (.ref (ad 3 t)), some (.ref (ad 5 t)), some (.int (nI c))] (pc' := 85) (vs' := [.ref (ad 0 7), .ref (ad 0 5), .ref (ad 0 3), .int (nI nw), .long (lN Y), .retAddr 1, .int (nI t), .int (nI i), u8]) (st' := [.int (nI c), .ref (ad 0 7)]) (M' := mm M f' g') (ps := [ob (mm M f' g') (ad 0 3) 20, 17 ≤ 20 ∧ 20 < 22, vp_in (nI t) (mN (mm M f' g') (ad 0 3)), mR (mm M f' g') (ad 0 3) ((nI t).toNatClampNeg) = some (ad 3 t), va_rf (some (ad 3 t)) = .ref (ad 3 t), ob (mm M f' g') (ad 3 t) 8, mR (mm M f' g') (ad 3 t) 3 = some (ad 5 t), va_rf (some (ad 5 t)) = .ref (ad 5 t), ob (mm M f' g') (ad 5 t) 15, vp_in (nI i) (mN (mm M f' g') (ad 5 t)), (Value.int (f' (ad 5 t) ((nI i).toNatClampNeg))) = .int (nI c)]) rfl ⟨(hF.o 3), (by decide), (vpi (hF.n 3) (show _ < 3 by omega)), (cl_rf rfl (by omega) (hT t (by assumption)).1), rfl, (hT t (by assumption)).2.1, (hT t (by assumption)).2.2.2.1, rfl, (hT t (by assumption)).2.2.2.2.1, (vpi (hT t (by assumption)).2.2.2.2.2 (by omega)), congrArg Value.int ((congrArg (fun z => f' (ad 5 t) z) (nI_clamp (by omega))).trans e5), trivial⟩ ?_
          refine go_callV rfl rfl rfl (by omega) rfl (by decide) (by decide) (hF.o 7) ?_
          refine s_Pl_indexOf (c := c) (by omega) hF hP ce1 cc1 ⟨ne_i, ?_⟩
          show Go d 56 0 0 88 [.ref (ad 0 7), .ref (ad 0 5), .ref (ad 0 3), .int (nI nw), .long (lN Y), .retAddr 1, .int (nI t), .int (nI i), u8] [.int (nI ((tdL p nc wk).idxOf c))] (mm M f' g') R
          rw [hk]
          show Go d 56 0 0 88 [.ref (ad 0 7), .ref (ad 0 5), .ref (ad 0 3), .int (nI nw), .long (lN Y), .retAddr 1, .int (nI t), .int (nI i), u8] [.int (nI k)] (mm M f' g') R
          refine go_blk 3 [] (pc' := 93) (vs' := [.ref (ad 0 7), .ref (ad 0 5), .ref (ad 0 3), .int (nI nw), .long (lN Y), .retAddr 1, .int (nI t), .int (nI i), .int (nI k)]) (st' := [.int (-1), .int (nI k)]) (M' := mm M f' g') (ps := []) rfl trivial ?_
          refine go_icmp rfl (fun _ => ?_) (fun (z : ¬ (¬ (nI k) = (-1))) => absurd (show ¬ (nI k) = (-1) from (nI_m1 (by omega))) z)
          refine go_blk 9 [some (.ref (ad 3 t))] (pc' := 113) (vs' := [.ref (ad 0 7), .ref (ad 0 5), .ref (ad 0 3), .int (nI nw), .long (lN Y), .retAddr 1, .int (nI t), .int (nI i), .int (nI k)]) (st' := [.int (nI k), .int ((nI i) + 1), .int (nI i), .ref (ad 3 t), .ref (ad 0 7)]) (M' := mm M f' g') (ps := [ob (mm M f' g') (ad 0 3) 20, 17 ≤ 20 ∧ 20 < 22, vp_in (nI t) (mN (mm M f' g') (ad 0 3)), mR (mm M f' g') (ad 0 3) ((nI t).toNatClampNeg) = some (ad 3 t), va_rf (some (ad 3 t)) = .ref (ad 3 t)]) rfl ⟨(hF.o 3), (by decide), (vpi (hF.n 3) (show _ < 3 by omega)), (cl_rf rfl (by omega) (hT t (by assumption)).1), rfl, trivial⟩ ?_
          rw [show nI i + 1 = nI (i + 1) from nI_add i 1]
          refine go_callV rfl rfl rfl (by omega) rfl (by decide) (by decide) (hF.o 7) ?_
          refine s_Pl_putBehind (t := t) (m := i) (by omega) hi hF hT nt3 hP ce1 ht kt (by omega) (by omega) so (by omega) k2 ⟨ne_v, ?_⟩
          show Go d 56 0 0 116 [.ref (ad 0 7), .ref (ad 0 5), .ref (ad 0 3), .int (nI nw), .long (lN Y), .retAddr 1, .int (nI t), .int (nI i), .int (nI k)] [] (mm M (pbF ad f' (i + 1) (spN p wk t (rsK p nc wk nw t (rwK p nc wk t i)) (tdK p nc wk k))) (up2 g' (ad 0 25) (i + 1) (lN (rcK p nt nc wk nw t (rwK p nc wk t i) + kcN p nt wk t (rsK p nc wk nw t (rwK p nc wk t i)) (tdK p nc wk k))))) R
          refine go_blk 2 [] (pc' := 62) (vs' := [.ref (ad 0 7), .ref (ad 0 5), .ref (ad 0 3), .int (nI nw), .long (lN Y), .retAddr 1, .int (nI t), .int ((nI i) + 1), .int (nI k)]) (st' := []) (M' := mm M (pbF ad f' (i + 1) (spN p wk t (rsK p nc wk nw t (rwK p nc wk t i)) (tdK p nc wk k))) (up2 g' (ad 0 25) (i + 1) (lN (rcK p nt nc wk nw t (rwK p nc wk t i) + kcN p nt wk t (rsK p nc wk nw t (rwK p nc wk t i)) (tdK p nc wk k))))) (ps := []) rfl trivial ?_
          rw [← rsK_app, ← rcK_app, ← es, show nI i + 1 = nI (i + 1) from nI_add i 1]
          exact ihi _ _ _ (k1.pb hi) (SA.pb hi)
      show Go d 56 0 0 39 [.ref (ad 0 7), .ref (ad 0 5), .ref (ad 0 3), .int (nI nw), .long (lN Y), .retAddr 1, .int (nI t), u7, u8] [] (mm M f' g') R
      refine go_blk 3 [some (.int (nI nt))] (pc' := 45) (vs' := [.ref (ad 0 7), .ref (ad 0 5), .ref (ad 0 3), .int (nI nw), .long (lN Y), .retAddr 1, .int (nI t), u7, u8]) (st' := [.int (nI nt), .int (nI t)]) (M' := mm M f' g') (ps := [ob (mm M f' g') (ad 0 7) 6, (Value.int (f' (ad 0 7) 4)) = .int (nI nt)]) rfl ⟨(hF.o 7), congrArg Value.int ((k1.1 0 7 4 (by omega)).trans c4), trivial⟩ ?_
      refine go_icmp rfl (fun (z : nI nt ≤ (nI t)) => absurd z (show ¬ (nI nt ≤ (nI t)) from (Int32.not_le.mpr ((nI_lts (a := t) (b := nt) (by omega) (by omega)).mpr ht)))) (fun _ => ?_)
      refine go_blk 7 [some (.ref (ad 3 t))] (pc' := 56) (vs' := [.ref (ad 0 7), .ref (ad 0 5), .ref (ad 0 3), .int (nI nw), .long (lN Y), .retAddr 1, .int (nI t), u7, u8]) (st' := [.int (nI nw), .ref (ad 0 5), .int 0, .ref (ad 3 t), .ref (ad 0 7)]) (M' := mm M f' g') (ps := [ob (mm M f' g') (ad 0 3) 20, 17 ≤ 20 ∧ 20 < 22, vp_in (nI t) (mN (mm M f' g') (ad 0 3)), mR (mm M f' g') (ad 0 3) ((nI t).toNatClampNeg) = some (ad 3 t), va_rf (some (ad 3 t)) = .ref (ad 3 t)]) rfl ⟨(hF.o 3), (by decide), (vpi (hF.n 3) (show _ < 3 by omega)), (cl_rf rfl (by omega) (hT t (by assumption)).1), rfl, trivial⟩ ?_
      refine go_callV rfl rfl rfl (by omega) rfl (by decide) (by decide) (hF.o 7) ?_
      refine s_Pl_start (t := t) (aa := 0) (by omega) hi hF hT nt3 hP (ce.tr k1.plF) ht (by omega) hnw (hw t ht) ⟨ne_v, ?_⟩
      show Go d 56 0 0 59 [.ref (ad 0 7), .ref (ad 0 5), .ref (ad 0 3), .int (nI nw), .long (lN Y), .retAddr 1, .int (nI t), u7, u8] [] (mm M (pbF ad f' 0 (s0N p wk nw t)) (up2 g' (ad 0 25) 0 (lN 0))) R
      refine go_blk 2 [] (pc' := 62) (vs' := [.ref (ad 0 7), .ref (ad 0 5), .ref (ad 0 3), .int (nI nw), .long (lN Y), .retAddr 1, .int (nI t), .int 0, u8]) (st' := []) (M' := mm M (pbF ad f' 0 (s0N p wk nw t)) (up2 g' (ad 0 25) 0 (lN 0))) (ps := []) rfl trivial ?_
      exact inner 0 (Nat.zero_le _) _ _ _ (k1.pb hi) (SA.pb hi)
  have fst : ∀ k, k ≤ q → ∀ u5 u6 u7 u8, (∀ k', k' < k → ¬ inRw p nt (tdK p nc wk k') = none) → Go d 56 0 0 3 [.ref (ad 0 7), .ref (ad 0 5), .ref (ad 0 3), .int (nI nw), .int (nI k), u5, u6, u7, u8] [] (mm M f g) R := by
    refine up_ind (P := fun k => ∀ u5 u6 u7 u8, (∀ k', k' < k → ¬ inRw p nt (tdK p nc wk k') = none) → Go d 56 0 0 3 [.ref (ad 0 7), .ref (ad 0 5), .ref (ad 0 3), .int (nI nw), .int (nI k), u5, u6, u7, u8] [] (mm M f g) R) q (fun u5 u6 u7 u8 h0 => ?_) (fun k hlt ih u5 u6 u7 u8 h0 => ?_)
    ·
      show Go d 56 0 0 3 [.ref (ad 0 7), .ref (ad 0 5), .ref (ad 0 3), .int (nI nw), .int (nI q), u5, u6, u7, u8] [] (mm M f g) R
      refine go_blk 3 [some (.int (nI q))] (pc' := 9) (vs' := [.ref (ad 0 7), .ref (ad 0 5), .ref (ad 0 3), .int (nI nw), .int (nI q), u5, u6, u7, u8]) (st' := [.int (nI q), .int (nI q)]) (M' := mm M f g) (ps := [ob (mm M f g) (ad 0 7) 6, (Value.int (f (ad 0 7) 2)) = .int (nI q)]) rfl ⟨(hF.o 7), congrArg Value.int c2, trivial⟩ ?_
      refine go_icmp rfl (fun _ => ?_) (fun (z : ¬ (nI q ≤ (nI q))) => absurd (show nI q ≤ (nI q) from Int32.le_refl _) z)
      refine go_blk 4 [] (pc' := 39) (vs' := [.ref (ad 0 7), .ref (ad 0 5), .ref (ad 0 3), .int (nI nw), .long 0, .retAddr 1, .int 0, u7, u8]) (st' := []) (M' := mm M f g) (ps := []) rfl trivial ?_
      exact teams (hrw.PK nc7 (by rw [hq]; exact h0)) 0 (Nat.zero_le _) f g _ _ (hsF.refl _ _ _)
    · have e18 := (ce.1 k (by omega)).2.2.2.2.2.2.2
      cases e : inRw p nt (tdK p nc wk k) with
      | none =>
        rw [e] at e18
        have e18' : f (ad 0 18) k = -1 := e18
        show Go d 56 0 0 3 [.ref (ad 0 7), .ref (ad 0 5), .ref (ad 0 3), .int (nI nw), .int (nI k), u5, u6, u7, u8] [] (mm M f g) R
        refine go_blk 3 [some (.int (nI q))] (pc' := 9) (vs' := [.ref (ad 0 7), .ref (ad 0 5), .ref (ad 0 3), .int (nI nw), .int (nI k), u5, u6, u7, u8]) (st' := [.int (nI q), .int (nI k)]) (M' := mm M f g) (ps := [ob (mm M f g) (ad 0 7) 6, (Value.int (f (ad 0 7) 2)) = .int (nI q)]) rfl ⟨(hF.o 7), congrArg Value.int c2, trivial⟩ ?_
        refine go_icmp rfl (fun (z : nI q ≤ (nI k)) => absurd z (show ¬ (nI q ≤ (nI k)) from (Int32.not_le.mpr ((nI_lts (a := k) (b := q) (by omega) (by omega)).mpr hlt)))) (fun _ => ?_)
        refine go_blk 5 [some (.ref (ad 0 18)), some (.int (-1))] (pc' := 20) (vs' := [.ref (ad 0 7), .ref (ad 0 5), .ref (ad 0 3), .int (nI nw), .int (nI k), u5, u6, u7, u8]) (st' := [.int (-1), .int (-1)]) (M' := mm M f g) (ps := [ob (mm M f g) (ad 0 7) 6, mR (mm M f g) (ad 0 7) 3 = some (ad 0 18), va_rf (some (ad 0 18)) = .ref (ad 0 18), ob (mm M f g) (ad 0 18) 15, vp_in (nI k) (mN (mm M f g) (ad 0 18)), (Value.int (f (ad 0 18) ((nI k).toNatClampNeg))) = .int (-1)]) rfl ⟨(hF.o 7), (hF.r 7 3 18), rfl, (hF.o 18), (vpi (hF.n 18) (show _ < 7 by omega)), congrArg Value.int ((congrArg (fun z => f (ad 0 18) z) (nI_clamp (by omega))).trans e18'), trivial⟩ ?_
        refine go_icmp rfl (fun (z : ¬ ((-1) : Int32) = (-1)) => absurd z (show ¬ (¬ ((-1) : Int32) = (-1)) from (by decide))) (fun _ => ?_)
        refine go_blk 1 [] (pc' := 26) (vs' := [.ref (ad 0 7), .ref (ad 0 5), .ref (ad 0 3), .int (nI nw), .int (nI k), u5, u6, u7, u8]) (st' := [.long 1152921504606846976]) (M' := mm M f g) (ps := []) rfl trivial ?_
        refine go_lret rfl rfl ?_
        rw [far]
        exact hR _ f g (hsF.refl _ _ _) (Or.inl rfl)
      | some t =>
        rw [e] at e18
        have e18' : f (ad 0 18) k = nI t := e18
        have tl : t < nt := by
          rw [inRw_hit, List.find?_range_eq_some] at e
          exact List.mem_range.mp e.2.1
        show Go d 56 0 0 3 [.ref (ad 0 7), .ref (ad 0 5), .ref (ad 0 3), .int (nI nw), .int (nI k), u5, u6, u7, u8] [] (mm M f g) R
        refine go_blk 3 [some (.int (nI q))] (pc' := 9) (vs' := [.ref (ad 0 7), .ref (ad 0 5), .ref (ad 0 3), .int (nI nw), .int (nI k), u5, u6, u7, u8]) (st' := [.int (nI q), .int (nI k)]) (M' := mm M f g) (ps := [ob (mm M f g) (ad 0 7) 6, (Value.int (f (ad 0 7) 2)) = .int (nI q)]) rfl ⟨(hF.o 7), congrArg Value.int c2, trivial⟩ ?_
        refine go_icmp rfl (fun (z : nI q ≤ (nI k)) => absurd z (show ¬ (nI q ≤ (nI k)) from (Int32.not_le.mpr ((nI_lts (a := k) (b := q) (by omega) (by omega)).mpr hlt)))) (fun _ => ?_)
        refine go_blk 5 [some (.ref (ad 0 18)), some (.int (nI t))] (pc' := 20) (vs' := [.ref (ad 0 7), .ref (ad 0 5), .ref (ad 0 3), .int (nI nw), .int (nI k), u5, u6, u7, u8]) (st' := [.int (-1), .int (nI t)]) (M' := mm M f g) (ps := [ob (mm M f g) (ad 0 7) 6, mR (mm M f g) (ad 0 7) 3 = some (ad 0 18), va_rf (some (ad 0 18)) = .ref (ad 0 18), ob (mm M f g) (ad 0 18) 15, vp_in (nI k) (mN (mm M f g) (ad 0 18)), (Value.int (f (ad 0 18) ((nI k).toNatClampNeg))) = .int (nI t)]) rfl ⟨(hF.o 7), (hF.r 7 3 18), rfl, (hF.o 18), (vpi (hF.n 18) (show _ < 7 by omega)), congrArg Value.int ((congrArg (fun z => f (ad 0 18) z) (nI_clamp (by omega))).trans e18'), trivial⟩ ?_
        refine go_icmp rfl (fun _ => ?_) (fun (z : ¬ (¬ (nI t) = (-1))) => absurd (show ¬ (nI t) = (-1) from (nI_m1 (by omega))) z)
        refine go_blk 2 [] (pc' := 3) (vs' := [.ref (ad 0 7), .ref (ad 0 5), .ref (ad 0 3), .int (nI nw), .int ((nI k) + 1), u5, u6, u7, u8]) (st' := []) (M' := mm M f g) (ps := []) rfl trivial ?_
        rw [show nI k + 1 = nI (k + 1) from nI_add k 1]
        exact ih _ _ _ _ (fun k' hk' z => by
          by_cases y : k' = k
          · rw [y, e] at z; cases z
          · exact h0 k' (by omega) z)
  show Go d 56 0 0 0 [.ref (ad 0 7), .ref (ad 0 5), .ref (ad 0 3), .int (nI nw), .retAddr 0, .retAddr 0, .retAddr 0, .retAddr 0, .retAddr 0] [] (mm M f g) R
  refine go_blk 2 [] (pc' := 3) (vs' := [.ref (ad 0 7), .ref (ad 0 5), .ref (ad 0 3), .int (nI nw), .int 0, .retAddr 0, .retAddr 0, .retAddr 0, .retAddr 0]) (st' := []) (M' := mm M f g) (ps := []) rfl trivial ?_
  exact fst 0 (Nat.zero_le _) _ _ _ _ (fun k' hk' => absurd hk' (by omega))

