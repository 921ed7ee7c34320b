/-! the class's planner: lengthen -/
def BN : Nat → Nat
  | 0 => 0
  | r + 1 => 7 * (1 + BN r)
theorem LFr.upF {ad : Nat → Nat → Nat} {t m i k : Nat} {v : Int32} {f f' : Nat → Nat → Int32} {g g' : Nat → Nat → Int64} (hi : Inj ad) (h : LFr ad t m f g f' g') (hz : i = 26 ∨ i = 27 ∨ i = 29 ∨ (i = 24 ∧ m < k) ∨ (i = 20 ∧ 128 * t < k ∧ k < 128 * t + 128)) : LFr ad t m f g (up2 f' (ad 0 i) k v) g' := by
  obtain ⟨a1, a2, a3, a4, a5, a6⟩ := h
  refine ⟨fun a i' k' z => ?_, fun i' k' z1 z2 z3 => ?_, fun k' z => ?_, a4, a5, a6⟩
  · rw [up2_n _ _ (fun y => z (by have := hi _ _ _ _ y.1; omega))]; exact a1 a i' k' z
  · rw [up2_n _ _ (fun y => by have := hi _ _ _ _ y.1; omega)]; exact a2 i' k' z1 z2 z3
  · rw [up2_n _ _ (fun y => by have := hi _ _ _ _ y.1; omega)]; exact a3 k' z
theorem LFr.upG {ad : Nat → Nat → Nat} {t m i k : Nat} {v : Int64} {f f' : Nat → Nat → Int32} {g g' : Nat → Nat → Int64} (hi : Inj ad) (h : LFr ad t m f g f' g') (hz : i = 28 ∨ (i = 19 ∧ 128 * t < k ∧ k < 128 * t + 128)) : LFr ad t m f g f' (up2 g' (ad 0 i) k v) := by
  obtain ⟨a1, a2, a3, a4, a5, a6⟩ := h
  refine ⟨a1, a2, a3, fun a i' k' z => ?_, fun k' z => ?_, fun k' z => ?_⟩
  · rw [up2_n _ _ (fun y => z (by have := hi _ _ _ _ y.1; omega))]; exact a4 a i' k' z
  · rw [up2_n _ _ (fun y => by have := hi _ _ _ _ y.1; omega)]; exact a5 k' z
  · rw [up2_n _ _ (fun y => by have := hi _ _ _ _ y.1; omega)]; exact a6 k' z
theorem VE_7 {T : Nat} {V : List Nat → Prop} {w : List Nat} (hT : T ≤ 7) (hw : 7 ≤ w.length) (x : List Nat) : VE T V w x ↔ V x := by
  constructor
  · rintro (y | ⟨h1, ⟨s, rfl⟩, h3⟩)
    · exact y
    · exfalso
      have l := nd_len h1.2.1 h1.2.2
      rw [List.length_append] at l
      have : s = [] := List.length_eq_zero_iff.mp (by omega)
      rw [this, List.append_nil] at h3
      exact h3 rfl
  · exact Or.inl
theorem plF_pb {ad : Nat → Nat → Nat} {f : Nat → Nat → Int32} {i i' k : Nat} {s : Nat × Nat × Nat} (hi : Inj ad) (z : ¬ (21 ≤ i' ∧ i' ≤ 23)) : pbF ad f i s (ad 0 i') k = f (ad 0 i') k := by
  unfold pbF
  rw [up2_n _ _ (fun y => z (by have := hi _ _ _ _ y.1; omega)), up2_n _ _ (fun y => z (by have := hi _ _ _ _ y.1; omega)), up2_n _ _ (fun y => z (by have := hi _ _ _ _ y.1; omega))]
theorem spN_pl (p : Nat → Nat → Int32) (wk t : Nat) (s : Nat × Nat × Nat) (c : Nat) : (spN p wk t s c).2.1 = 1 + c := rfl
theorem LI.idle1 {p : Nat → Nat → Int32} {nt nc wk nw t ceil K K' k J i a e : Nat} {ad : Nat → Nat → Nat} {V : List Nat → Prop} {w : List Nat} {C Q : Nat → Nat} {f : Nat → Nat → Int32} {g : Nat → Nat → Int64} (h : LI p nt nc wk nw ad t ceil (VK (tdL p nc wk).length V w k) w C Q K f g) (hP : PW p nt nc wk nw) (ht : t < nt) (hw1 : w.Nodup) (hw2 : ∀ k ∈ w, k < (tdL p nc wk).length) (hkw : ¬ k ∈ w) (hr : Rw (tdL p nc wk).length (w ++ [k])) (hT : (tdL p nc wk).length ≤ 7) (hV2 : ∀ x, V x → lexL x w) (hJ : mkN (w ++ [k]) * 7 + k = J)
    (hx : ∃ x, Rw (tdL p nc wk).length x ∧ mkN x * 7 + x.getLastD 0 = J ∧ f (ad 0 26) (J * 4 + i) = nI (rsK p nc wk nw t x).1 ∧ f (ad 0 27) (J * 4 + i) = nI (rsK p nc wk nw t x).2.2 ∧ g (ad 0 28) (J * 4 + i) = lN (rcK p nt nc wk nw t x) ∧ (x <+: w ∨ ∀ s, Rw (tdL p nc wk).length (x ++ s) → VK (tdL p nc wk).length V w k (x ++ s)))
    (i3 : f (ad 0 26) (J * 4 + i) = nI a) (i4 : f (ad 0 27) (J * 4 + i) = nI (rsK p nc wk nw t (w ++ [k])).2.2) (i5 : g (ad 0 28) (J * 4 + i) = lN e) (i6 : a < 2 ^ 31) (i7 : e < 2 ^ 63) (i8 : a ≤ (rsK p nc wk nw t (w ++ [k])).1) (i9 : e ≤ rcK p nt nc wk nw t (w ++ [k])) (hK : K ≤ K') : LI p nt nc wk nw ad t ceil (VK (tdL p nc wk).length V w (k + 1)) w C Q K' f g := by
  obtain ⟨x, x1, x2, x3, x4, x5, x6⟩ := hx
  obtain ⟨y1, y2, y3⟩ := rcK_bd hP ht x1.2.1 x1.2.2
  obtain ⟨r1, r2, r3⟩ := rcK_bd hP ht hr.2.1 hr.2.2
  have xl := last_lt x1
  have rl := last_lt hr
  have lst : (w ++ [k]).getLastD 0 = k := last_app w k
  obtain ⟨z1, z2⟩ := mkJ (x := x) (r := w ++ [k]) (by omega) (by omega) (by rw [x2, lst]; exact hJ.symm)
  have xlen := (mkN_perm x1.2.1 hr.2.1 z1).length_eq
  have xs : ∀ s, Rw (tdL p nc wk).length (x ++ s) → VK (tdL p nc wk).length V w k (x ++ s) := by
    rcases x6 with z | z
    · have := z.length_le
      rw [xlen, List.length_append, List.length_singleton] at this
      omega
    · exact z
  have xV : VK (tdL p nc wk).length V w k x := by
    have := xs []
    rw [List.append_nil] at this
    exact this x1
  have ea : (rsK p nc wk nw t x).1 ≤ (rsK p nc wk nw t (w ++ [k])).1 := by
    have q1 := y2.1
    have := (nI_eqs (a := a) (b := (rsK p nc wk nw t x).1) (by omega) (by omega)).mp (i3.symm.trans x3)
    omega
  have ec : (rsK p nc wk nw t x).2.2 = (rsK p nc wk nw t (w ++ [k])).2.2 := by
    have q1 := y2.2.2
    have q2 := r2.2.2
    exact (nI_eqs (by omega) (by omega)).mp (x4.symm.trans i4)
  have ee : rcK p nt nc wk nw t x ≤ rcK p nt nc wk nw t (w ++ [k]) := by
    have := (pk_lEQ (a := e) (b := rcK p nt nc wk nw t x) (by omega) (by omega)).mp (i5.symm.trans x5)
    omega
  have eb : (rsK p nc wk nw t x).2.1 = (rsK p nc wk nw t (w ++ [k])).2.1 := by
    obtain ⟨y, hy⟩ := last_snoc x1.1
    rw [z2, lst] at hy
    rw [hy, rsK_app, rsK_app, spN_pl, spN_pl]
  exact h.grow (h.2.1.idle hT ⟨x1.2.1, x1.2.2⟩ hr z1 xs (VK_l hV2 xV []) (fun s _ => rcK_sub ee ea (Prod.ext eb ec)) (VK_s hkw)) (fun x hx => (VK_s hkw x).mpr (Or.inl hx)) hK

set_option maxHeartbeats 4000000 in
set_option maxRecDepth 100000 in
theorem s_Pl_lengthen {M : Mem} {ad : Nat → Nat → Nat} {p : Nat → Nat → Int32} {nt nc wk nw t ceil : Nat} {bk : Nat → Nat} (hi : Inj ad) (hF : Fx M ad) (hT : Ts M ad nt) (nt3 : nt ≤ 3) (hP : PW p nt nc wk nw) (ht : t < nt) (hce : ceil < 2 ^ 62) : ∀ (n d : Nat) (w : List Nat) (V : List Nat → Prop) (C Q : Nat → Nat) (K : Nat) (f : Nat → Nat → Int32) (g : Nat → Nat → Int64) (R : Option Value → Mem → Prop), 7 - w.length < n → n + 4 ≤ d → w.Nodup → (∀ k ∈ w, k < (tdL p nc wk).length) → CPl p nt nc wk M ad bk f → SA ad f g w.length (rsK p nc wk nw t w) (rcK p nt nc wk nw t w) → f (ad 0 24) w.length = nI (octD 7 w) → g (ad 0 7) 16 = lN ceil → LI p nt nc wk nw ad t ceil V w C Q K f g → (∀ x, V x → Rw (tdL p nc wk).length x) → (∀ x, V x → lexL x w) → K + BN (7 - w.length) < 2 ^ 28 → (∀ f' g' C' Q', LFr ad t w.length f g f' g' → LI p nt nc wk nw ad t ceil (VE (tdL p nc wk).length V w) w C' Q' (K + BN (7 - w.length)) f' g' → R none (mm M f' g')) → Call d 60 [.ref (ad 0 7), .ref (ad 3 t), .int (nI w.length), .int (nI (mkN w))] (mm M f g) R := by
  intro n
  induction n with
  | zero => intro d w V C Q K f g R h0; exact absurd h0 (by omega)
  | succ n ih =>
    intro d w V C Q K f g R hn hd hw1 hw2 ce hA hpk h16 hL hV1 hV2 hK hR
    have T7 := td_le (p := p) (nc := nc) (wk := wk)
    have nc7 := hP.2.2.2
    have lw := nd_len hw1 hw2
    obtain ⟨-, hsO, -⟩ := rcK_bd hP ht hw1 hw2
    have S7 : mkN w < 128 := Nat.lt_of_lt_of_le (mkN_lt hw2) (Nat.pow_le_pow_right (n := 2) (j := 7) (by decide) (by omega))
    obtain ⟨S, hS⟩ : ∃ S, mkN w = S := ⟨_, rfl⟩
    obtain ⟨m, hm⟩ : ∃ m, w.length = m := ⟨_, rfl⟩
    obtain ⟨q, hq⟩ : ∃ q, (tdL p nc wk).length = q := ⟨_, rfl⟩
    have c2 : f (ad 0 7) 2 = nI q := by rw [← hq]; exact ce.2.2.2.2.2.1
    rw [hS] at S7 ⊢
    rw [hm] at hn hA hpk hK hR hsO lw ⊢
    rw [hq] at T7 lw
    by_cases h7 : 7 ≤ m
    ·
      show Go d 60 0 0 0 [.ref (ad 0 7), .ref (ad 3 t), .int (nI m), .int (nI S), .retAddr 0, .retAddr 0, .retAddr 0] [] (mm M f g) R
      refine go_blk 5 [some (.int (nI q))] (pc' := 9) (vs' := [.ref (ad 0 7), .ref (ad 3 t), .int (nI m), .int (nI S), .int 0, .retAddr 0, .retAddr 0]) (st' := [.int (nI q), .int 0]) (M' := mm M f g) (ps := [ob (mm M f g) (ad 0 7) 6, (Value.int (f (ad 0 7) 2)) = .int (nI q)]) rfl ⟨(hF.o 7), congrArg Value.int c2, trivial⟩ ?_
      refine go_icmp rfl (fun (z : nI q ≤ (0 : Int32)) => absurd z (show ¬ (nI q ≤ (0 : Int32)) from (Int32.not_le.mpr ((nI_lts (a := 0) (b := q) (by omega) (by omega)).mpr (by omega))))) (fun _ => ?_)
      refine go_blk 2 [] (pc' := 15) (vs' := [.ref (ad 0 7), .ref (ad 3 t), .int (nI m), .int (nI S), .int 0, .retAddr 0, .retAddr 0]) (st' := [.int 7, .int (nI m)]) (M' := mm M f g) (ps := []) rfl trivial ?_
      refine go_icmp rfl (fun _ => ?_) (fun (z : ¬ (7 ≤ (nI m))) => absurd (show 7 ≤ (nI m) from ((nI_les (a := 7) (b := m) (by decide) (by omega)).mpr h7)) z)
      refine go_vret rfl rfl ?_
      exact hR f g C Q (LFr.refl _ _ _ _ _) ((hL.congr (VE_7 (by omega) (by omega))).grow (hL.2.1.congr (VE_7 (by omega) (by omega))) (fun _ y => y) (by omega))
    · have m7 : m < 7 := by omega
      have loop : ∀ k, k ≤ q → ∀ (f' : Nat → Nat → Int32) (g' : Nat → Nat → Int64) (C' Q' : Nat → Nat) (u5 u6 : Value), LFr ad t m f g f' g' → LI p nt nc wk nw ad t ceil (VK (tdL p nc wk).length V w k) w C' Q' (K + k * (1 + BN (6 - m))) f' g' → Go d 60 0 0 3 [.ref (ad 0 7), .ref (ad 3 t), .int (nI m), .int (nI S), .int (nI k), u5, u6] [] (mm M f' g') R := by
        refine up_ind (P := fun k => ∀ (f' : Nat → Nat → Int32) (g' : Nat → Nat → Int64) (C' Q' : Nat → Nat) (u5 u6 : Value), LFr ad t m f g f' g' → LI p nt nc wk nw ad t ceil (VK (tdL p nc wk).length V w k) w C' Q' (K + k * (1 + BN (6 - m))) f' g' → Go d 60 0 0 3 [.ref (ad 0 7), .ref (ad 3 t), .int (nI m), .int (nI S), .int (nI k), u5, u6] [] (mm M f' g') R) q (fun f' g' C' Q' u5 u6 k1 k2 => ?_) (fun k hlt ihk f' g' C' Q' u5 u6 k1 k2 => ?_)
        ·
          show Go d 60 0 0 3 [.ref (ad 0 7), .ref (ad 3 t), .int (nI m), .int (nI S), .int (nI q), u5, u6] [] (mm M f' g') R
          refine go_blk 3 [some (.int (nI q))] (pc' := 9) (vs' := [.ref (ad 0 7), .ref (ad 3 t), .int (nI m), .int (nI S), .int (nI q), u5, u6]) (st' := [.int (nI q), .int (nI q)]) (M' := mm M f' g') (ps := [ob (mm M f' g') (ad 0 7) 6, (Value.int (f' (ad 0 7) 2)) = .int (nI q)]) rfl ⟨(hF.o 7), congrArg Value.int ((k1.1 0 7 2 (by omega)).trans c2), trivial⟩ ?_
          refine go_icmp rfl (fun _ => ?_) (fun (z : ¬ (nI q ≤ (nI q))) => absurd (show nI q ≤ (nI q) from Int32.le_refl _) z)
          refine go_vret rfl rfl ?_
          rw [← hq] at k2
          refine hR f' g' C' Q' k1 ((k2.congr (fun x => (VK_e x).symm)).grow (k2.2.1.congr (fun x => (VK_e x).symm)) (fun _ y => y) ?_)
          rw [show 7 - m = (6 - m) + 1 by omega, BN]
          exact Nat.add_le_add_left (Nat.mul_le_mul_right _ (by omega)) _
        · have kq : nI k + 1 = nI (k + 1) := nI_add k 1
          have e2 : f' (ad 0 7) 2 = nI q := (k1.1 0 7 2 (by omega)).trans c2
          have kb : k < (tdL p nc wk).length := by omega
          obtain ⟨S2, hS2⟩ : ∃ S2, mkN (w ++ [k]) = S2 := ⟨_, rfl⟩
          have eS : S ||| 2 ^ k = S2 := by rw [← hS2, mkN_app, hS]
          by_cases hkw : k ∈ w
          · have sm : S2 = S := by
              rw [← hS2, ← hS]
              apply Nat.eq_of_testBit_eq
              intro i
              rw [mkN_tb, mkN_tb]
              simp only [List.mem_append, List.mem_singleton]
              by_cases e : i = k
              · simp [e, hkw]
              · simp [e]
            show Go d 60 0 0 3 [.ref (ad 0 7), .ref (ad 3 t), .int (nI m), .int (nI S), .int (nI k), u5, u6] [] (mm M f' g') R
            refine go_blk 3 [some (.int (nI q))] (pc' := 9) (vs' := [.ref (ad 0 7), .ref (ad 3 t), .int (nI m), .int (nI S), .int (nI k), u5, u6]) (st' := [.int (nI q), .int (nI k)]) (M' := mm M f' g') (ps := [ob (mm M f' g') (ad 0 7) 6, (Value.int (f' (ad 0 7) 2)) = .int (nI q)]) rfl ⟨(hF.o 7), congrArg Value.int e2, trivial⟩ ?_
            refine go_icmp rfl (fun (z : nI q ≤ (nI k)) => absurd z (show ¬ (nI q ≤ (nI k)) from (Int32.not_le.mpr ((nI_lts (a := k) (b := q) (by omega) (by omega)).mpr hlt)))) (fun _ => ?_)
            refine go_blk 2 [] (pc' := 15) (vs' := [.ref (ad 0 7), .ref (ad 3 t), .int (nI m), .int (nI S), .int (nI k), u5, u6]) (st' := [.int 7, .int (nI m)]) (M' := mm M f' g') (ps := []) rfl trivial ?_
            refine go_icmp rfl (fun (z : 7 ≤ (nI m)) => absurd z (show ¬ (7 ≤ (nI m)) from (Int32.not_le.mpr ((nI_lts (a := m) (b := 7) (by omega) (by decide)).mpr m7)))) (fun _ => ?_)
            refine go_blk 5 [] (pc' := 24) (vs' := [.ref (ad 0 7), .ref (ad 3 t), .int (nI m), .int (nI S), .int (nI k), u5, u6]) (st' := [.int ((nI S) ||| (1 <<< ((nI k) &&& 31)))]) (M' := mm M f' g') (ps := []) rfl trivial ?_
            rw [nI_sh1 k (by omega), nI_or, eS]
            show Go d 60 0 0 24 [.ref (ad 0 7), .ref (ad 3 t), .int (nI m), .int (nI S), .int (nI k), u5, u6] [.int (nI S2)] (mm M f' g') R
            refine go_blk 3 [] (pc' := 29) (vs' := [.ref (ad 0 7), .ref (ad 3 t), .int (nI m), .int (nI S), .int (nI k), .int (nI S2), u6]) (st' := [.int (nI S), .int (nI S2)]) (M' := mm M f' g') (ps := []) rfl trivial ?_
            refine go_icmp rfl (fun (z : ¬ (nI S2) = nI S) => absurd z (show ¬ (¬ (nI S2) = nI S) from (fun z => z (by rw [sm])))) (fun _ => ?_)
            refine go_blk 3 [] (pc' := 3) (vs' := [.ref (ad 0 7), .ref (ad 3 t), .int (nI m), .int (nI S), .int ((nI k) + 1), .int (nI S2), u6]) (st' := []) (M' := mm M f' g') (ps := []) rfl trivial ?_
            rw [kq]
            exact ihk _ _ _ _ _ _ k1 ((k2.congr (VK_n hkw)).grow (k2.2.1.congr (VK_n hkw)) (fun _ y => y) (by rw [Nat.add_mul, Nat.one_mul]; omega))
          · have rn : (w ++ [k]).Nodup := List.nodup_append.mpr ⟨hw1, List.pairwise_singleton _ k, fun a ha b hb z => hkw (by rw [List.mem_singleton.mp hb] at z; exact z ▸ ha)⟩
            have rl : ∀ j ∈ w ++ [k], j < (tdL p nc wk).length := fun j hj => by
              rcases List.mem_append.mp hj with y | y
              · exact hw2 j y
              · rw [List.mem_singleton.mp y]; exact kb
            have hr : Rw (tdL p nc wk).length (w ++ [k]) := ⟨by simp, rn, rl⟩
            have lr : (w ++ [k]).length = m + 1 := by rw [List.length_append, hm]; rfl
            have lst : (w ++ [k]).getLastD 0 = k := last_app w k
            obtain ⟨rb, rs, -⟩ := rcK_bd hP ht rn rl
            rw [lr] at rs
            have S27 : S2 < 128 := by rw [← hS2]; exact Nat.lt_of_lt_of_le (mkN_lt rl) (Nat.pow_le_pow_right (n := 2) (j := 7) (by decide) (by omega))
            have S20 : 0 < S2 := by rw [← hS2]; exact mkN_pos (by simp)
            have sn : ¬ S2 = S := fun z => hkw (by rw [← hS2, ← hS] at z; exact (mkN_mem z k).mp (List.mem_append_right _ (List.mem_singleton.mpr rfl)))
            have ce1 := ce.tr k1.plF
            have hA1 := k1.SA hA (Nat.le_refl _)
            have VR : ∀ x, VK (tdL p nc wk).length V w k x → Rw (tdL p nc wk).length x := fun x hx => VK_R hV1 hx
            have Vl : ∀ x, VK (tdL p nc wk).length V w k x → lexL x (w ++ [k]) := fun x hx => VK_l hV2 hx []
            have knd : K + k * (1 + BN (6 - m)) + 1 + BN (6 - m) ≤ K + BN (7 - m) := by
              rw [show 7 - m = (6 - m) + 1 by omega, BN]
              have : (k + 1) * (1 + BN (6 - m)) ≤ 7 * (1 + BN (6 - m)) := Nat.mul_le_mul_right _ (by omega)
              rw [Nat.add_mul, Nat.one_mul] at this
              omega
            obtain ⟨f1, hf1⟩ : ∃ f1, pbF ad f' (m + 1) (rsK p nc wk nw t (w ++ [k])) = f1 := ⟨_, rfl⟩
            obtain ⟨g1, hg1⟩ : ∃ g1, up2 g' (ad 0 25) (m + 1) (lN (rcK p nt nc wk nw t (w ++ [k]))) = g1 := ⟨_, rfl⟩
            have kf1 : LFr ad t m f g f1 g1 := by rw [← hf1, ← hg1]; exact k1.trans (LFr.pb hi (by omega)) (Nat.le_refl _)
            have A1 : SA ad f1 g1 (m + 1) (rsK p nc wk nw t (w ++ [k])) (rcK p nt nc wk nw t (w ++ [k])) := by rw [← hf1, ← hg1]; exact SA.pb hi
            have L1 : LI p nt nc wk nw ad t ceil (VK (tdL p nc wk).length V w k) w C' Q' (K + k * (1 + BN (6 - m))) f1 g1 := k2.mem (fun i j z => by rw [← hf1]; exact plF_pb hi (by omega)) (fun i j z => by rw [← hg1, up2_n _ _ (fun y => by have := hi _ _ _ _ y.1; omega)])
            have g16 : g1 (ad 0 7) 16 = lN ceil := (kf1.2.2.2.1 0 7 16 (by omega)).trans h16
            have p1 : f1 (ad 0 24) m = nI (octD 7 w) := (kf1.2.1 24 m (by omega) (by omega) (Nat.le_refl _)).trans hpk
            obtain ⟨J, hJ⟩ : ∃ J, S2 * 7 + k = J := ⟨_, rfl⟩
            obtain ⟨cn, cn1, cn2, cn3⟩ := L1.2.2 J (by omega)
            have pki : (nI (octD 7 w) &&& ((7 : Int32) <<< ((3 * (6 - nI m)) &&& 31) ^^^ (-1))) ||| nI k <<< ((3 * (6 - nI m)) &&& 31) = nI (octD 7 (w ++ [k])) := by
              have := pack_i32 (w := w) (k := k) (by omega) (by omega) (fun x hx => by have := hw2 x hx; omega)
              rw [hm] at this
              exact this
            have labs : ∀ i, i < cn → i < 4 → ∃ a b e, a < 2 ^ 31 ∧ b < 2 ^ 31 ∧ e < 2 ^ 63 ∧ f1 (ad 0 26) (J * 4 + i) = nI a ∧ f1 (ad 0 27) (J * 4 + i) = nI b ∧ g1 (ad 0 28) (J * 4 + i) = lN e := fun i i1 i2 => by
              obtain ⟨x, x1, x2, x3, x4, x5, x6⟩ := cn3 i i1 i2
              obtain ⟨y1, y2, y3⟩ := rcK_bd hP ht x1.2.1 x1.2.2
              exact ⟨_, _, _, by have := y2.1; omega, by have := y2.2.2; omega, by omega, x3, x4, x5⟩
            show Go d 60 0 0 3 [.ref (ad 0 7), .ref (ad 3 t), .int (nI m), .int (nI S), .int (nI k), u5, u6] [] (mm M f' g') R
            refine go_blk 3 [some (.int (nI q))] (pc' := 9) (vs' := [.ref (ad 0 7), .ref (ad 3 t), .int (nI m), .int (nI S), .int (nI k), u5, u6]) (st' := [.int (nI q), .int (nI k)]) (M' := mm M f' g') (ps := [ob (mm M f' g') (ad 0 7) 6, (Value.int (f' (ad 0 7) 2)) = .int (nI q)]) rfl ⟨(hF.o 7), congrArg Value.int e2, trivial⟩ ?_
            refine go_icmp rfl (fun (z : nI q ≤ (nI k)) => absurd z (show ¬ (nI q ≤ (nI k)) from (Int32.not_le.mpr ((nI_lts (a := k) (b := q) (by omega) (by omega)).mpr hlt)))) (fun _ => ?_)
            refine go_blk 2 [] (pc' := 15) (vs' := [.ref (ad 0 7), .ref (ad 3 t), .int (nI m), .int (nI S), .int (nI k), u5, u6]) (st' := [.int 7, .int (nI m)]) (M' := mm M f' g') (ps := []) rfl trivial ?_
            refine go_icmp rfl (fun (z : 7 ≤ (nI m)) => absurd z (show ¬ (7 ≤ (nI m)) from (Int32.not_le.mpr ((nI_lts (a := m) (b := 7) (by omega) (by decide)).mpr m7)))) (fun _ => ?_)
            refine go_blk 5 [] (pc' := 24) (vs' := [.ref (ad 0 7), .ref (ad 3 t), .int (nI m), .int (nI S), .int (nI k), u5, u6]) (st' := [.int ((nI S) ||| (1 <<< ((nI k) &&& 31)))]) (M' := mm M f' g') (ps := []) rfl trivial ?_
            rw [nI_sh1 k (by omega), nI_or, eS]
            show Go d 60 0 0 24 [.ref (ad 0 7), .ref (ad 3 t), .int (nI m), .int (nI S), .int (nI k), u5, u6] [.int (nI S2)] (mm M f' g') R
            refine go_blk 3 [] (pc' := 29) (vs' := [.ref (ad 0 7), .ref (ad 3 t), .int (nI m), .int (nI S), .int (nI k), .int (nI S2), u6]) (st' := [.int (nI S), .int (nI S2)]) (M' := mm M f' g') (ps := []) rfl trivial ?_
            refine go_icmp rfl (fun _ => ?_) (fun (z : ¬ (¬ (nI S2) = nI S)) => absurd (show ¬ (nI S2) = nI S from (fun z => sn ((nI_eqs (by omega) (by omega)).mp z))) z)
            refine go_blk 7 [] (pc' := 43) (vs' := [.ref (ad 0 7), .ref (ad 3 t), .int (nI m), .int (nI S), .int (nI k), .int (nI S2), u6]) (st' := [.int (nI k), .int ((nI m) + 1), .int (nI m), .ref (ad 3 t), .ref (ad 0 7)]) (M' := mm M f' g') (ps := []) rfl trivial ?_
            rw [show nI m + 1 = nI (m + 1) from nI_add m 1]
            refine go_callV rfl rfl rfl (by omega) rfl (by decide) (by decide) (hF.o 7) ?_
            refine s_Pl_putBehind (t := t) (m := m) (by omega) hi hF hT nt3 hP ce1 ht kb (by omega) (by omega) hsO (by omega) hA1 ⟨ne_v, ?_⟩
            show Go d 60 0 0 46 [.ref (ad 0 7), .ref (ad 3 t), .int (nI m), .int (nI S), .int (nI k), .int (nI S2), u6] [] (mm M (pbF ad f' (m + 1) (spN p wk t (rsK p nc wk nw t w) (tdK p nc wk k))) (up2 g' (ad 0 25) (m + 1) (lN (rcK p nt nc wk nw t w + kcN p nt wk t (rsK p nc wk nw t w) (tdK p nc wk k))))) R
            rw [← rsK_app, ← rcK_app, hf1, hg1]
            show Go d 60 0 0 46 [.ref (ad 0 7), .ref (ad 3 t), .int (nI m), .int (nI S), .int (nI k), .int (nI S2), u6] [] (mm M f1 g1) R
            refine go_blk 9 [some (.ref (ad 0 25)), some (.long (lN (rcK p nt nc wk nw t (w ++ [k])))), some (.long (lN ceil))] (pc' := 59) (vs' := [.ref (ad 0 7), .ref (ad 3 t), .int (nI m), .int (nI S), .int (nI k), .int (nI S2), u6]) (st' := [.int (lg_cmp (lN (rcK p nt nc wk nw t (w ++ [k]))) (lN ceil))]) (M' := mm M f1 g1) (ps := [ob (mm M f1 g1) (ad 0 7) 6, mR (mm M f1 g1) (ad 0 7) 11 = some (ad 0 25), va_rf (some (ad 0 25)) = .ref (ad 0 25), ob (mm M f1 g1) (ad 0 25) 16, vp_in ((nI m) + 1) (mN (mm M f1 g1) (ad 0 25)), (Value.long (g1 (ad 0 25) (((nI m) + 1).toNatClampNeg))) = .long (lN (rcK p nt nc wk nw t (w ++ [k]))), ob (mm M f1 g1) (ad 0 7) 6, (Value.long (g1 (ad 0 7) 16)) = .long (lN ceil)]) rfl ⟨(hF.o 7), (hF.r 7 11 25), rfl, (hF.o 25), (vp_eq (eq_add rfl (show (1 : Int32) = nI 1 from rfl)) (vpi (hF.n 25) (show _ < 8 by omega))), congrArg Value.long ((congrArg (fun z => g1 (ad 0 25) z) (cl_of (eq_add rfl (show (1 : Int32) = nI 1 from rfl)) (by omega))).trans A1.2.2.2), (hF.o 7), congrArg Value.long g16, trivial⟩ ?_
            refine go_if rfl (fun (c21 : 0 < (lg_cmp (lN (rcK p nt nc wk nw t (w ++ [k]))) (lN ceil))) => ?_) (fun (c21 : ¬ (0 < (lg_cmp (lN (rcK p nt nc wk nw t (w ++ [k]))) (lN ceil)))) => ?_)
            · -- 0 < (lg_cmp (lN (rcK p nt nc wk nw t (w ++ [k]))) (lN ceil))
              refine go_blk 2 [] (pc' := 3) (vs' := [.ref (ad 0 7), .ref (ad 3 t), .int (nI m), .int (nI S), .int ((nI k) + 1), .int (nI S2), u6]) (st' := []) (M' := mm M f1 g1) (ps := []) rfl trivial ?_
              have dr := (lgG (by omega) (by omega)).mp c21
              rw [kq]
              exact ihk f1 g1 C' Q' _ _ kf1 (L1.grow (L1.2.1.dear (fun s => Nat.lt_of_lt_of_le dr (rcK_ge _ s)) (VK_s hkw)) (fun x hx => (VK_s hkw x).mpr (Or.inl hx)) (by rw [Nat.add_mul, Nat.one_mul]; omega))
            · -- ¬ (0 < (lg_cmp (lN (rcK p nt nc wk nw t (w ++ [k]))) (lN ceil)))
              refine go_blk 6 [] (pc' := 70) (vs' := [.ref (ad 0 7), .ref (ad 3 t), .int (nI m), .int (nI S), .int (nI k), .int (nI S2), u6]) (st' := [.int ((nI m) + 1), .int (nI k), .int (nI S2), .ref (ad 0 7)]) (M' := mm M f1 g1) (ps := []) rfl trivial ?_
              rw [show nI m + 1 = nI (m + 1) from nI_add m 1]
              refine go_callV rfl rfl rfl (by omega) rfl (by decide) (by decide) (hF.o 7) ?_
              refine s_Pl_isIdle (sa := (rsK p nc wk nw t (w ++ [k])).1) (sb := (rsK p nc wk nw t (w ++ [k])).2.1) (sc := (rsK p nc wk nw t (w ++ [k])).2.2) (C := rcK p nt nc wk nw t (w ++ [k])) (J := J) (cn := cn) (by omega) hi hF S27 (by omega) (by omega) hJ A1 ⟨by have := rs.1; omega, by have := rs.2.2; omega, by omega⟩ cn2 (by omega) (fun i i1 i2 => labs i i1 i2) (fun i a e i1 i2 i3 i4 i5 i6 i7 i8 i9 => ⟨ne_i, ?_⟩) ⟨ne_i, ?_⟩
              · -- ('i', '1')
                show Go d 60 0 0 73 [.ref (ad 0 7), .ref (ad 3 t), .int (nI m), .int (nI S), .int (nI k), .int (nI S2), u6] [.int 1] (mm M f1 g1) R
                refine go_if rfl (fun _ => ?_) (fun (z : ¬ (¬ (1 : Int32) = 0)) => absurd (show ¬ (1 : Int32) = 0 from (by decide)) z)
                refine go_blk 2 [] (pc' := 3) (vs' := [.ref (ad 0 7), .ref (ad 3 t), .int (nI m), .int (nI S), .int ((nI k) + 1), .int (nI S2), u6]) (st' := []) (M' := mm M f1 g1) (ps := []) rfl trivial ?_
                rw [kq]
                exact ihk f1 g1 C' Q' _ _ kf1 (L1.idle1 hP ht hw1 hw2 hkw hr (by omega) hV2 (by rw [hS2]; exact hJ) (cn3 i i1 i2) i3 i4 i5 i6 i7 i8 i9 (by rw [Nat.add_mul, Nat.one_mul]; omega))
              · -- ('i', '0')
                obtain ⟨f2, hf2⟩ : ∃ f2, up2 (up2 (up2 f1 (ad 0 26) (J * 4 + cn % 4) (nI (rsK p nc wk nw t (w ++ [k])).1)) (ad 0 27) (J * 4 + cn % 4) (nI (rsK p nc wk nw t (w ++ [k])).2.2)) (ad 0 29) J (nI (cn + 1)) = f2 := ⟨_, rfl⟩
                obtain ⟨g2, hg2⟩ : ∃ g2, up2 g1 (ad 0 28) (J * 4 + cn % 4) (lN (rcK p nt nc wk nw t (w ++ [k]))) = g2 := ⟨_, rfl⟩
                rw [hf2, hg2]
                have L2 : LI p nt nc wk nw ad t ceil (VK (tdL p nc wk).length V w k) (w ++ [k]) C' Q' (K + k * (1 + BN (6 - m)) + 1) f2 g2 := by rw [← hf2, ← hg2]; exact L1.label hi hr (by rw [lst, hS2]; exact hJ) cn2 (by omega) (by omega) (List.prefix_append _ _)
                have kf2 : LFr ad t m f g f2 g2 := by rw [← hf2, ← hg2]; exact (((kf1.upF hi (by omega)).upF hi (by omega)).upF hi (by omega)).upG hi (by omega)
                have p2 : f2 (ad 0 24) m = nI (octD 7 w) := by rw [← hf2, up2_n _ _ (fun y => by have := hi _ _ _ _ y.1; omega), up2_n _ _ (fun y => by have := hi _ _ _ _ y.1; omega), up2_n _ _ (fun y => by have := hi _ _ _ _ y.1; omega)]; exact p1
                have A2 : SA ad f2 g2 (m + 1) (rsK p nc wk nw t (w ++ [k])) (rcK p nt nc wk nw t (w ++ [k])) := by
                  obtain ⟨x1, x2, x3, x4⟩ := A1
                  rw [← hf2, ← hg2]
                  unfold SA
                  simp only [up2_ad hi]
                  rw [if_neg (by omega), if_neg (by omega), if_neg (by omega), if_neg (by omega), if_neg (by omega), if_neg (by omega), if_neg (by omega), if_neg (by omega), if_neg (by omega), if_neg (by omega)]
                  exact ⟨x1, x2, x3, x4⟩
                have w0 : f2 (ad 3 t) 0 = nI t := ((ce.tr kf2.plF).2.1 t ht).1
                show Go d 60 0 0 73 [.ref (ad 0 7), .ref (ad 3 t), .int (nI m), .int (nI S), .int (nI k), .int (nI S2), u6] [.int 0] (mm M f2 g2) R
                refine go_if rfl (fun (z : ¬ (0 : Int32) = 0) => absurd z (show ¬ (¬ (0 : Int32) = 0) from (by decide))) (fun _ => ?_)
                refine go_blk 1 [] (pc' := 77) (vs' := [.ref (ad 0 7), .ref (ad 3 t), .int (nI m), .int (nI S), .int (nI k), .int (nI S2), u6]) (st' := [.int (nI m)]) (M' := mm M f2 g2) (ps := []) rfl trivial ?_
                refine go_callS rfl (by decide) rfl rfl (by omega) rfl (by decide) (by decide) ?_
                show Go (d - 1) 51 0 0 0 [.int (nI m)] [] (mm M f2 g2) _
                refine go_blk 5 [] (pc' := 6) (vs' := [.int (nI m)]) (st' := [.int (3 * (6 - (nI m)))]) (M' := mm M f2 g2) (ps := []) rfl trivial ?_
                refine go_iret rfl rfl ?_
                refine ⟨ne_i, ?_⟩
                show Go d 60 0 0 80 [.ref (ad 0 7), .ref (ad 3 t), .int (nI m), .int (nI S), .int (nI k), .int (nI S2), u6] [.int (3 * (6 - (nI m)))] (mm M f2 g2) R
                refine go_blk 20 [some (.ref (ad 0 24)), some (.ref (ad 0 24)), some (.int (nI (octD 7 w)))] (pc' := 109) (vs' := [.ref (ad 0 7), .ref (ad 3 t), .int (nI m), .int (nI S), .int (nI k), .int (nI S2), .int (3 * (6 - (nI m)))]) (st' := [.int (((nI (octD 7 w)) &&& ((7 <<< ((3 * (6 - (nI m))) &&& 31)) ^^^ (-1))) ||| ((nI k) <<< ((3 * (6 - (nI m))) &&& 31))), .int ((nI m) + 1), .ref (ad 0 24)]) (M' := mm M f2 g2) (ps := [ob (mm M f2 g2) (ad 0 7) 6, mR (mm M f2 g2) (ad 0 7) 10 = some (ad 0 24), va_rf (some (ad 0 24)) = .ref (ad 0 24), ob (mm M f2 g2) (ad 0 7) 6, mR (mm M f2 g2) (ad 0 7) 10 = some (ad 0 24), va_rf (some (ad 0 24)) = .ref (ad 0 24), ob (mm M f2 g2) (ad 0 24) 15, vp_in (nI m) (mN (mm M f2 g2) (ad 0 24)), (Value.int (f2 (ad 0 24) ((nI m).toNatClampNeg))) = .int (nI (octD 7 w))]) rfl ⟨(hF.o 7), (hF.r 7 10 24), rfl, (hF.o 7), (hF.r 7 10 24), rfl, (hF.o 24), (vpi (hF.n 24) (show _ < 8 by omega)), congrArg Value.int ((congrArg (fun z => f2 (ad 0 24) z) (nI_clamp (by omega))).trans p2), trivial⟩ ?_
                rw [pki]
                show Go d 60 0 0 109 [.ref (ad 0 7), .ref (ad 3 t), .int (nI m), .int (nI S), .int (nI k), .int (nI S2), .int (3 * (6 - (nI m)))] [.int (nI (octD 7 (w ++ [k]))), .int ((nI m) + 1), .ref (ad 0 24)] (mm M f2 g2) R
                refine go_blk 11 [some (.int (nI t))] (pc' := 125) (vs' := [.ref (ad 0 7), .ref (ad 3 t), .int (nI m), .int (nI S), .int (nI k), .int (nI S2), .int (3 * (6 - (nI m)))]) (st' := [.int ((nI m) + 1), .int (((nI t) * 128) + (nI S2)), .ref (ad 0 7)]) (M' := mm M (up2 f2 (ad 0 24) (((nI m) + 1).toNatClampNeg) (nI (octD 7 (w ++ [k])))) g2) (ps := [ob (mm M f2 g2) (ad 0 24) 15, vp_in ((nI m) + 1) (mN (mm M f2 g2) (ad 0 24)), ob (mm M (up2 f2 (ad 0 24) (((nI m) + 1).toNatClampNeg) (nI (octD 7 (w ++ [k])))) g2) (ad 3 t) 8, (Value.int ((up2 f2 (ad 0 24) (((nI m) + 1).toNatClampNeg) (nI (octD 7 (w ++ [k])))) (ad 3 t) 0)) = .int (nI t)]) rfl ⟨(hF.o 24), (vp_eq (eq_add rfl (show (1 : Int32) = nI 1 from rfl)) (vpi (hF.n 24) (show _ < 8 by omega))), (hT t (by assumption)).2.1, congrArg Value.int (((up2_n _ _ (fun z => absurd (hi _ _ _ _ z.1).1 (by decide))).trans (rfl)).trans w0), trivial⟩ ?_
                rw [cl_of (x := (m + 1)) (eq_add rfl (show (1 : Int32) = nI 1 from rfl)) (by omega)]
                show Go d 60 0 0 125 [.ref (ad 0 7), .ref (ad 3 t), .int (nI m), .int (nI S), .int (nI k), .int (nI S2), .int (3 * (6 - (nI m)))] [.int ((nI m) + 1), .int (((nI t) * 128) + (nI S2)), .ref (ad 0 7)] (mm M (up2 f2 (ad 0 24) ((m + 1)) (nI (octD 7 (w ++ [k])))) g2) R
                rw [show nI m + 1 = nI (m + 1) from nI_add m 1]
                rw [show nI t * 128 + nI S2 = nI (128 * t + S2) from by rw [Nat.mul_comm]; exact eq_add (eq_mul rfl (show (128 : Int32) = nI 128 from rfl)) rfl]
                obtain ⟨f3, hf3⟩ : ∃ f3, up2 f2 (ad 0 24) ((m + 1)) (nI (octD 7 (w ++ [k]))) = f3 := ⟨_, rfl⟩
                rw [hf3]
                have n3 : ∀ i j, ¬ (i = 24 ∧ j = m + 1) → f3 (ad 0 i) j = f2 (ad 0 i) j := fun i j z => by rw [← hf3, up2_n _ _ (fun y => z ⟨(hi _ _ _ _ y.1).2, y.2⟩)]
                have p3 : f3 (ad 0 24) (m + 1) = nI (octD 7 (w ++ [k])) := by rw [← hf3]; exact up2_s _ _ _ _
                have kf3 : LFr ad t m f g f3 g2 := by rw [← hf3]; exact kf2.upF hi (by omega)
                have L3 : LI p nt nc wk nw ad t ceil (VK (tdL p nc wk).length V w k) (w ++ [k]) C' Q' (K + k * (1 + BN (6 - m)) + 1) f3 g2 := L2.mem (fun i j z => n3 i j (by omega)) (fun _ _ _ => rfl)
                have A3 : SA ad f3 g2 (m + 1) (rsK p nc wk nw t (w ++ [k])) (rcK p nt nc wk nw t (w ++ [k])) := ⟨(n3 21 _ (by omega)).trans A2.1, (n3 22 _ (by omega)).trans A2.2.1, (n3 23 _ (by omega)).trans A2.2.2.1, A2.2.2.2⟩
                have hmk : mkN (w ++ [k]) < 128 := by omega
                refine go_callV rfl rfl rfl (by omega) rfl (by decide) (by decide) (hF.o 7) ?_
                refine s_Pl_keepRow (B := C' S2) (C := rcK p nt nc wk nw t (w ++ [k])) (P := octD 7 (w ++ [k])) (by omega) hF (by omega) (by omega) (by omega) (by have := (L3.1 S2 S27).2.2; omega) A3.2.2.2 (L3.1 S2 S27).1 p3 hi (fun hlt2 => ⟨ne_v, ?_⟩) (fun hle2 => ⟨ne_v, ?_⟩)
                · -- ('v',)
                  obtain ⟨f4, hf4⟩ : ∃ f4, up2 f3 (ad 0 20) (128 * t + S2) (nI (octD 7 (w ++ [k]))) = f4 := ⟨_, rfl⟩
                  obtain ⟨g4, hg4⟩ : ∃ g4, up2 g2 (ad 0 19) (128 * t + S2) (lN (rcK p nt nc wk nw t (w ++ [k]))) = g4 := ⟨_, rfl⟩
                  rw [hf4, hg4]
                  obtain ⟨C4, Q4, L4⟩ : ∃ C4 Q4, LI p nt nc wk nw ad t ceil (fun y => VK (tdL p nc wk).length V w k y ∨ y = w ++ [k]) (w ++ [k]) C4 Q4 (K + k * (1 + BN (6 - m)) + 1) f4 g4 := ⟨_, _, by rw [← hf4, ← hg4, ← hS2]; exact L3.keep1 hi hr hmk (by omega) (by rw [hS2]; exact hlt2) (fun x => Iff.rfl)⟩
                  have kf4 : LFr ad t m f g f4 g4 := by rw [← hf4, ← hg4]; exact (kf3.upF hi (by omega)).upG hi (by omega)
                  have A4 : SA ad f4 g4 (m + 1) (rsK p nc wk nw t (w ++ [k])) (rcK p nt nc wk nw t (w ++ [k])) := by
                    obtain ⟨x1, x2, x3, x4⟩ := A3
                    rw [← hf4, ← hg4]
                    unfold SA
                    simp only [up2_ad hi]
                    rw [if_neg (by omega), if_neg (by omega), if_neg (by omega), if_neg (by omega)]
                    exact ⟨x1, x2, x3, x4⟩
                  have p4 : f4 (ad 0 24) (m + 1) = nI (octD 7 (w ++ [k])) := by rw [← hf4, up2_n _ _ (fun y => by have := hi _ _ _ _ y.1; omega)]; exact p3
                  show Go d 60 0 0 128 [.ref (ad 0 7), .ref (ad 3 t), .int (nI m), .int (nI S), .int (nI k), .int (nI S2), .int (3 * (6 - (nI m)))] [] (mm M f4 g4) R
                  refine go_blk 6 [] (pc' := 135) (vs' := [.ref (ad 0 7), .ref (ad 3 t), .int (nI m), .int (nI S), .int (nI k), .int (nI S2), .int (3 * (6 - (nI m)))]) (st' := [.int (nI S2), .int ((nI m) + 1), .ref (ad 3 t), .ref (ad 0 7)]) (M' := mm M f4 g4) (ps := []) rfl trivial ?_
                  rw [show nI m + 1 = nI (m + 1) from nI_add m 1]
                  rw [← lr, ← hS2]
                  refine go_callV rfl rfl rfl (by omega) rfl (by decide) (by decide) (hF.o 7) ?_
                  refine ih (d - 1) (w ++ [k]) (fun y => VK (tdL p nc wk).length V w k y ∨ y = w ++ [k]) C4 Q4 (K + k * (1 + BN (6 - m)) + 1) f4 g4 _ (by rw [lr]; omega) (by omega) rn rl (ce.tr kf4.plF) (by rw [lr]; exact A4) (by rw [lr]; exact p4) ((kf4.2.2.2.1 0 7 16 (by omega)).trans h16) L4 (fun x hx => hx.elim (VR x) (fun z => z ▸ hr)) (fun x hx => hx.elim (Vl x) (fun z => z ▸ lexL_refl _)) (by rw [lr, show 7 - (m + 1) = 6 - m by omega]; omega) (fun f5 g5 C5 Q5 k5 L5 => ⟨ne_v, ?_⟩)
                  · -- ('v',)
                    rw [lr, show 7 - (m + 1) = 6 - m by omega] at L5
                    rw [lr] at k5
                    rw [hS2]
                    show Go d 60 0 0 138 [.ref (ad 0 7), .ref (ad 3 t), .int (nI m), .int (nI S), .int (nI k), .int (nI S2), .int (3 * (6 - (nI m)))] [] (mm M f5 g5) R
                    refine go_blk 2 [] (pc' := 3) (vs' := [.ref (ad 0 7), .ref (ad 3 t), .int (nI m), .int (nI S), .int ((nI k) + 1), .int (nI S2), .int (3 * (6 - (nI m)))]) (st' := []) (M' := mm M f5 g5) (ps := []) rfl trivial ?_
                    rw [kq]
                    exact ihk f5 g5 C5 Q5 _ _ (kf4.trans k5 (by omega)) ((L5.up (r := w) hkw hr).grow (L5.up (r := w) hkw hr).2.1 (fun _ y => y) (by rw [Nat.add_mul, Nat.one_mul]; omega))
                · -- ('v',)
                  obtain ⟨C4, Q4, L4⟩ : ∃ C4 Q4, LI p nt nc wk nw ad t ceil (fun y => VK (tdL p nc wk).length V w k y ∨ y = w ++ [k]) (w ++ [k]) C4 Q4 (K + k * (1 + BN (6 - m)) + 1) f3 g2 := ⟨_, _, L3.grow (L3.2.1.keep2 (by omega) hr (by rw [hS2]; exact hle2) (by omega) VR Vl (fun x => Iff.rfl)) (fun x hx => Or.inl hx) (Nat.le_refl _)⟩
                  have kf4 := kf3
                  have A4 := A3
                  have p4 := p3
                  show Go d 60 0 0 128 [.ref (ad 0 7), .ref (ad 3 t), .int (nI m), .int (nI S), .int (nI k), .int (nI S2), .int (3 * (6 - (nI m)))] [] (mm M f3 g2) R
                  refine go_blk 6 [] (pc' := 135) (vs' := [.ref (ad 0 7), .ref (ad 3 t), .int (nI m), .int (nI S), .int (nI k), .int (nI S2), .int (3 * (6 - (nI m)))]) (st' := [.int (nI S2), .int ((nI m) + 1), .ref (ad 3 t), .ref (ad 0 7)]) (M' := mm M f3 g2) (ps := []) rfl trivial ?_
                  rw [show nI m + 1 = nI (m + 1) from nI_add m 1]
                  rw [← lr, ← hS2]
                  refine go_callV rfl rfl rfl (by omega) rfl (by decide) (by decide) (hF.o 7) ?_
                  refine ih (d - 1) (w ++ [k]) (fun y => VK (tdL p nc wk).length V w k y ∨ y = w ++ [k]) C4 Q4 (K + k * (1 + BN (6 - m)) + 1) f3 g2 _ (by rw [lr]; omega) (by omega) rn rl (ce.tr kf4.plF) (by rw [lr]; exact A4) (by rw [lr]; exact p4) ((kf4.2.2.2.1 0 7 16 (by omega)).trans h16) L4 (fun x hx => hx.elim (VR x) (fun z => z ▸ hr)) (fun x hx => hx.elim (Vl x) (fun z => z ▸ lexL_refl _)) (by rw [lr, show 7 - (m + 1) = 6 - m by omega]; omega) (fun f5 g5 C5 Q5 k5 L5 => ⟨ne_v, ?_⟩)
                  · -- ('v',)
                    rw [lr, show 7 - (m + 1) = 6 - m by omega] at L5
                    rw [lr] at k5
                    rw [hS2]
                    show Go d 60 0 0 138 [.ref (ad 0 7), .ref (ad 3 t), .int (nI m), .int (nI S), .int (nI k), .int (nI S2), .int (3 * (6 - (nI m)))] [] (mm M f5 g5) R
                    refine go_blk 2 [] (pc' := 3) (vs' := [.ref (ad 0 7), .ref (ad 3 t), .int (nI m), .int (nI S), .int ((nI k) + 1), .int (nI S2), .int (3 * (6 - (nI m)))]) (st' := []) (M' := mm M f5 g5) (ps := []) rfl trivial ?_
                    rw [kq]
                    exact ihk f5 g5 C5 Q5 _ _ (kf4.trans k5 (by omega)) ((L5.up (r := w) hkw hr).grow (L5.up (r := w) hkw hr).2.1 (fun _ y => y) (by rw [Nat.add_mul, Nat.one_mul]; omega))
      show Go d 60 0 0 0 [.ref (ad 0 7), .ref (ad 3 t), .int (nI m), .int (nI S), .retAddr 0, .retAddr 0, .retAddr 0] [] (mm M f g) R
      refine go_blk 2 [] (pc' := 3) (vs' := [.ref (ad 0 7), .ref (ad 3 t), .int (nI m), .int (nI S), .int 0, .retAddr 0, .retAddr 0]) (st' := []) (M' := mm M f g) (ps := []) rfl trivial ?_
      exact loop 0 (Nat.zero_le _) f g C Q _ _ (LFr.refl _ _ _ _ _) ((hL.congr VK_0).grow (hL.2.1.congr VK_0) (fun _ y => y) (by omega))

