/-! the class's planner: takeSoonest -/
def hsF (ad : Nat → Nat → Nat) (f : Nat → Nat → Int32) (g : Nat → Nat → Int64) (f' : Nat → Nat → Int32) (g' : Nat → Nat → Int64) : Prop := (∀ a i k, ¬ (a = 0 ∧ 21 ≤ i ∧ i ≤ 23) → f' (ad a i) k = f (ad a i) k) ∧ ∀ a i k, ¬ (a = 0 ∧ i = 25) → g' (ad a i) k = g (ad a i) k
theorem hsF.refl (ad : Nat → Nat → Nat) (f : Nat → Nat → Int32) (g : Nat → Nat → Int64) : hsF ad f g f g := ⟨fun _ _ _ _ => rfl, fun _ _ _ _ => rfl⟩
theorem hsF.trans {ad : Nat → Nat → Nat} {f f' f'' : Nat → Nat → Int32} {g g' g'' : Nat → Nat → Int64} (h : hsF ad f g f' g') (h' : hsF ad f' g' f'' g'') : hsF ad f g f'' g'' := ⟨fun a i k z => (h'.1 a i k z).trans (h.1 a i k z), fun a i k z => (h'.2 a i k z).trans (h.2 a i k z)⟩
theorem hsF.pb {ad : Nat → Nat → Nat} {f f' : Nat → Nat → Int32} {g g' : Nat → Nat → Int64} {i : Nat} {s : Nat × Nat × Nat} {v : Int64} (hi : Inj ad) (h : hsF ad f g f' g') : hsF ad f g (pbF ad f' i s) (up2 g' (ad 0 25) i v) := by
  refine ⟨fun a i' k z => ?_, fun a i' k z => ?_⟩
  · unfold pbF
    rw [up2_n _ _ (fun y => z (by have := hi _ _ _ _ y.1; omega)), up2_n _ _ (fun y => z (by have := hi _ _ _ _ y.1; omega)), up2_n _ _ (fun y => z (by have := hi _ _ _ _ y.1; omega))]
    exact h.1 a i' k z
  · rw [up2_n _ _ (fun y => z (hi _ _ _ _ y.1))]
    exact h.2 a i' k z
theorem hsF.plF {ad : Nat → Nat → Nat} {f f' : Nat → Nat → Int32} {g g' : Nat → Nat → Int64} (h : hsF ad f g f' g') : plF ad f f' := fun a i k z => h.1 a i k (by omega)

set_option maxHeartbeats 4000000 in
set_option maxRecDepth 100000 in
theorem s_Pl_takeSoonest {d : Nat} {M : Mem} {f : Nat → Nat → Int32} {g : Nat → Nat → Int64} {ad : Nat → Nat → Nat} {R : Option Value → Mem → Prop} {p : Nat → Nat → Int32} {nt nc wk nw : Nat} {bk : Nat → Nat} {O m : Nat} {s : Nat → Nat × Nat × Nat} {Cc : Nat → Nat} (hd : 3 ≤ d) (hi : Inj ad) (hF : Fx M ad) (hT : Ts M ad nt) (nt3 : nt ≤ 3) (hP : PW p nt nc wk nw) (ce : CPl p nt nc wk M ad bk f) (hm : m ≤ 7) (hs : ∀ t, t < nt → sOK m (s t)) (hA : ∀ t, t < nt → SA ad f g t (s t) (Cc t)) (hO : O < 128) (h0 : 0 < nt) (hopn : ∃ k, k < (tdL p nc wk).length ∧ O.testBit k = true) (hR : ∀ k t f' g', k < (tdL p nc wk).length → O.testBit k = true → t < nt → hsF ad f g f' g' → (∀ t', t' < nt → ¬ t' = t → SA ad f' g' t' (s t') (Cc t')) → SA ad f' g' t (spN p wk t (s t) (tdK p nc wk k)) (Cc t + kcN p nt wk t (s t) (tdK p nc wk k)) → R (some (.int (nI k))) (mm M f' g')) : Call d 59 [.ref (ad 0 7), .ref (ad 0 3), .int (nI O)] (mm M f g) R := by
  have T7 := td_le (p := p) (nc := nc) (wk := wk)
  have nc7 := hP.2.2.2
  obtain ⟨q, hq⟩ : ∃ q, (tdL p nc wk).length = q := ⟨_, rfl⟩
  rw [hq] at T7 hopn hR
  have c2 : f (ad 0 7) 2 = nI q := by rw [← hq]; exact ce.2.2.2.2.2.1
  have c4 : f (ad 0 7) 4 = nI nt := ce.2.2.2.2.2.2.1
  have outer : ∀ k, k ≤ q → ∀ (f' : Nat → Nat → Int32) (g' : Nat → Nat → Int64) (sk bt lv : Nat) (u7 u8 : Value), hsF ad f g f' g' → (∀ t, t < nt → SA ad f' g' t (s t) (Cc t)) → lv < 2 ^ 31 → ((sk < q ∧ O.testBit sk = true ∧ bt < nt) ∨ (lv = 1073741824 ∧ ∀ k', k' < k → O.testBit k' = false)) → Go d 59 0 0 12 [.ref (ad 0 7), .ref (ad 0 3), .int (nI O), .int (nI sk), .int (nI bt), .int (nI lv), .int (nI k), u7, u8] [] (mm M f' g') R := by
    refine up_ind (P := fun k => ∀ (f' : Nat → Nat → Int32) (g' : Nat → Nat → Int64) (sk bt lv : Nat) (u7 u8 : Value), hsF ad f g f' g' → (∀ t, t < nt → SA ad f' g' t (s t) (Cc t)) → lv < 2 ^ 31 → ((sk < q ∧ O.testBit sk = true ∧ bt < nt) ∨ (lv = 1073741824 ∧ ∀ k', k' < k → O.testBit k' = false)) → Go d 59 0 0 12 [.ref (ad 0 7), .ref (ad 0 3), .int (nI O), .int (nI sk), .int (nI bt), .int (nI lv), .int (nI k), u7, u8] [] (mm M f' g') R) q (fun f' g' sk bt lv u7 u8 k1 k2 k3 k4 => ?_) (fun k hlt ih f' g' sk bt lv u7 u8 k1 k2 k3 k4 => ?_)
    · have ok : sk < q ∧ O.testBit sk = true ∧ bt < nt := by
        rcases k4 with z | ⟨-, z⟩
        · exact z
        · obtain ⟨k0, a1, a2⟩ := hopn
          rw [z k0 a1] at a2
          cases a2
      obtain ⟨o1, o2, hbt⟩ := ok
      have ce1 := ce.tr k1.plF
      show Go d 59 0 0 12 [.ref (ad 0 7), .ref (ad 0 3), .int (nI O), .int (nI sk), .int (nI bt), .int (nI lv), .int (nI q), u7, u8] [] (mm M f' g') R
      refine go_blk 3 [some (.int (nI q))] (pc' := 18) (vs' := [.ref (ad 0 7), .ref (ad 0 3), .int (nI O), .int (nI sk), .int (nI bt), .int (nI lv), .int (nI q), u7, u8]) (st' := [.int (nI q), .int (nI q)]) (M' := mm M f' g') (ps := [ob (mm M f' g') (ad 0 7) 6, (Value.int (f' (ad 0 7) 2)) = .int (nI q)]) rfl ⟨(hF.o 7), congrArg Value.int ((k1.1 0 7 2 (by omega)).trans c2), trivial⟩ ?_
      refine go_icmp rfl (fun _ => ?_) (fun (z : ¬ (nI q ≤ (nI q))) => absurd (show nI q ≤ (nI q) from Int32.le_refl _) z)
      refine go_blk 7 [some (.ref (ad 3 bt))] (pc' := 114) (vs' := [.ref (ad 0 7), .ref (ad 0 3), .int (nI O), .int (nI sk), .int (nI bt), .int (nI lv), .int (nI q), u7, u8]) (st' := [.int (nI sk), .int (nI bt), .int (nI bt), .ref (ad 3 bt), .ref (ad 0 7)]) (M' := mm M f' g') (ps := [ob (mm M f' g') (ad 0 3) 20, 17 ≤ 20 ∧ 20 < 22, vp_in (nI bt) (mN (mm M f' g') (ad 0 3)), mR (mm M f' g') (ad 0 3) ((nI bt).toNatClampNeg) = some (ad 3 bt), va_rf (some (ad 3 bt)) = .ref (ad 3 bt)]) rfl ⟨(hF.o 3), (by decide), (vpi (hF.n 3) (show _ < 3 by omega)), (cl_rf rfl (by omega) (hT bt (by assumption)).1), rfl, trivial⟩ ?_
      refine go_callV rfl rfl rfl (by omega) rfl (by decide) (by decide) (hF.o 7) ?_
      refine s_Pl_putBehind (t := bt) (m := m) (s := s bt) (C := Cc bt) (by omega) hi hF hT nt3 hP ce1 hbt (by omega) (by omega) (by omega) (hs bt hbt) hm (k2 bt hbt) ⟨ne_v, ?_⟩
      show Go d 59 0 0 117 [.ref (ad 0 7), .ref (ad 0 3), .int (nI O), .int (nI sk), .int (nI bt), .int (nI lv), .int (nI q), u7, u8] [] (mm M (pbF ad f' bt (spN p wk bt (s bt) (tdK p nc wk sk))) (up2 g' (ad 0 25) bt (lN (Cc bt + kcN p nt wk bt (s bt) (tdK p nc wk sk))))) R
      refine go_blk 1 [] (pc' := 118) (vs' := [.ref (ad 0 7), .ref (ad 0 3), .int (nI O), .int (nI sk), .int (nI bt), .int (nI lv), .int (nI q), u7, u8]) (st' := [.int (nI sk)]) (M' := mm M (pbF ad f' bt (spN p wk bt (s bt) (tdK p nc wk sk))) (up2 g' (ad 0 25) bt (lN (Cc bt + kcN p nt wk bt (s bt) (tdK p nc wk sk))))) (ps := []) rfl trivial ?_
      refine go_iret rfl rfl ?_
      exact hR sk bt _ _ o1 o2 hbt (k1.pb hi) (fun t' ht' hne => SA.keep hi (k2 t' ht') hne) (SA.pb hi)
    · have kT : k < (tdL p nc wk).length := by omega
      obtain ⟨c, hc⟩ : ∃ c, tdK p nc wk k = c := ⟨_, rfl⟩
      have hct := tdK_mem kT
      obtain ⟨j1, j2, -, j4, -⟩ := ce.1 k kT
      rw [hc] at j4 hct
      obtain ⟨du, du1, du2, du3⟩ := (hP.1 c hct).2.1
      have bit := bit_at O hO k (by omega)
      have inner : ∀ t, t ≤ nt → ∀ (f' : Nat → Nat → Int32) (g' : Nat → Nat → Int64) (sk bt lv : Nat) (u8 : Value), hsF ad f g f' g' → (∀ t, t < nt → SA ad f' g' t (s t) (Cc t)) → lv < 2 ^ 31 → ((sk < q ∧ O.testBit sk = true ∧ bt < nt) ∨ (lv = 1073741824 ∧ (∀ k', k' < k → O.testBit k' = false) ∧ (t = 0 ∨ O.testBit k = false))) → Go d 59 0 0 24 [.ref (ad 0 7), .ref (ad 0 3), .int (nI O), .int (nI sk), .int (nI bt), .int (nI lv), .int (nI k), .int (nI t), u8] [] (mm M f' g') R := by
        refine up_ind (P := fun t => ∀ (f' : Nat → Nat → Int32) (g' : Nat → Nat → Int64) (sk bt lv : Nat) (u8 : Value), hsF ad f g f' g' → (∀ t, t < nt → SA ad f' g' t (s t) (Cc t)) → lv < 2 ^ 31 → ((sk < q ∧ O.testBit sk = true ∧ bt < nt) ∨ (lv = 1073741824 ∧ (∀ k', k' < k → O.testBit k' = false) ∧ (t = 0 ∨ O.testBit k = false))) → Go d 59 0 0 24 [.ref (ad 0 7), .ref (ad 0 3), .int (nI O), .int (nI sk), .int (nI bt), .int (nI lv), .int (nI k), .int (nI t), u8] [] (mm M f' g') R) nt (fun f' g' sk bt lv u8 k1 k2 k3 k4 => ?_) (fun t ht iht f' g' sk bt lv u8 k1 k2 k3 k4 => ?_)
        ·
          show Go d 59 0 0 24 [.ref (ad 0 7), .ref (ad 0 3), .int (nI O), .int (nI sk), .int (nI bt), .int (nI lv), .int (nI k), .int (nI nt), u8] [] (mm M f' g') R
          refine go_blk 3 [some (.int (nI nt))] (pc' := 30) (vs' := [.ref (ad 0 7), .ref (ad 0 3), .int (nI O), .int (nI sk), .int (nI bt), .int (nI lv), .int (nI k), .int (nI nt), u8]) (st' := [.int (nI nt), .int (nI nt)]) (M' := mm M f' g') (ps := [ob (mm M f' g') (ad 0 7) 6, (Value.int (f' (ad 0 7) 4)) = .int (nI nt)]) rfl ⟨(hF.o 7), congrArg Value.int ((k1.1 0 7 4 (by omega)).trans c4), trivial⟩ ?_
          refine go_icmp rfl (fun _ => ?_) (fun (z : ¬ (nI nt ≤ (nI nt))) => absurd (show nI nt ≤ (nI nt) from Int32.le_refl _) z)
          refine go_blk 2 [] (pc' := 12) (vs' := [.ref (ad 0 7), .ref (ad 0 3), .int (nI O), .int (nI sk), .int (nI bt), .int (nI lv), .int ((nI k) + 1), .int (nI nt), u8]) (st' := []) (M' := mm M f' g') (ps := []) rfl trivial ?_
          rw [show nI k + 1 = nI (k + 1) from nI_add k 1]
          refine ih _ _ _ _ _ _ _ k1 k2 k3 ?_
          rcases k4 with z | ⟨z1, z2, z3⟩
          · exact Or.inl z
          · exact Or.inr ⟨z1, fun k' hk' => by
              by_cases e : k' = k
              · rw [e]; exact z3.resolve_left (by omega)
              · exact z2 k' (by omega)⟩
        · cases hb : O.testBit k with
          | false =>
            show Go d 59 0 0 24 [.ref (ad 0 7), .ref (ad 0 3), .int (nI O), .int (nI sk), .int (nI bt), .int (nI lv), .int (nI k), .int (nI t), u8] [] (mm M f' g') R
            refine go_blk 3 [some (.int (nI nt))] (pc' := 30) (vs' := [.ref (ad 0 7), .ref (ad 0 3), .int (nI O), .int (nI sk), .int (nI bt), .int (nI lv), .int (nI k), .int (nI t), u8]) (st' := [.int (nI nt), .int (nI t)]) (M' := mm M f' g') (ps := [ob (mm M f' g') (ad 0 7) 6, (Value.int (f' (ad 0 7) 4)) = .int (nI nt)]) rfl ⟨(hF.o 7), congrArg Value.int ((k1.1 0 7 4 (by omega)).trans c4), trivial⟩ ?_
            refine go_icmp rfl (fun (z : nI nt ≤ (nI t)) => absurd z (show ¬ (nI nt ≤ (nI t)) from (Int32.not_le.mpr ((nI_lts (a := t) (b := nt) (by omega) (by omega)).mpr ht)))) (fun _ => ?_)
            refine go_blk 5 [] (pc' := 39) (vs' := [.ref (ad 0 7), .ref (ad 0 3), .int (nI O), .int (nI sk), .int (nI bt), .int (nI lv), .int (nI k), .int (nI t), u8]) (st' := [.int ((((nI O).toUInt32 >>> ((nI k).toUInt32 &&& Int32.toUInt32 31)).toInt32) &&& 1)]) (M' := mm M f' g') (ps := []) rfl trivial ?_
            refine go_if rfl (fun _ => ?_) (fun (z : ¬ (((((nI O).toUInt32 >>> ((nI k).toUInt32 &&& Int32.toUInt32 31)).toInt32) &&& 1) = 0)) => absurd (show ((((nI O).toUInt32 >>> ((nI k).toUInt32 &&& Int32.toUInt32 31)).toInt32) &&& 1) = 0 from (bit.mpr hb)) z)
            refine go_blk 2 [] (pc' := 12) (vs' := [.ref (ad 0 7), .ref (ad 0 3), .int (nI O), .int (nI sk), .int (nI bt), .int (nI lv), .int ((nI k) + 1), .int (nI t), u8]) (st' := []) (M' := mm M f' g') (ps := []) rfl trivial ?_
            rw [show nI k + 1 = nI (k + 1) from nI_add k 1]
            refine ih _ _ _ _ _ _ _ k1 k2 k3 ?_
            rcases k4 with z | ⟨z1, z2, z3⟩
            · exact Or.inl z
            · exact Or.inr ⟨z1, fun k' hk' => by
                by_cases e : k' = k
                · rw [e]; exact hb
                · exact z2 k' (by omega)⟩
          | true =>
            have ce1 := ce.tr k1.plF
            have g1 := (hP.st ht hct (hs t ht)).1.1
            obtain ⟨en, hen⟩ : ∃ en, (spN p wk t (s t) c).1 = en := ⟨_, rfl⟩
            rw [hen] at g1
            obtain ⟨f1, hf1⟩ : ∃ f1, pbF ad f' 3 (spN p wk t (s t) c) = f1 := ⟨_, rfl⟩
            obtain ⟨g2, hg2⟩ : ∃ g2, up2 g' (ad 0 25) 3 (lN (Cc t + kcN p nt wk t (s t) c)) = g2 := ⟨_, rfl⟩
            have n1 : hsF ad f g f1 g2 := by rw [← hf1, ← hg2]; exact k1.pb hi
            have A1 : ∀ t, t < nt → SA ad f1 g2 t (s t) (Cc t) := fun t' ht' => by rw [← hf1, ← hg2]; exact SA.keep hi (k2 t' ht') (by omega)
            have e21 : f1 (ad 0 21) 3 = nI en := by
              have := (SA.pb (ad := ad) (f := f') (g := g') (i := 3) (C := 0) (s := spN p wk t (s t) c) hi).1
              rw [hf1, hen] at this
              exact this
            have ej : f1 (ad 6 (bk k)) 3 = nI du := (n1.1 6 _ 3 (by omega)).trans (j4.trans du3)
            show Go d 59 0 0 24 [.ref (ad 0 7), .ref (ad 0 3), .int (nI O), .int (nI sk), .int (nI bt), .int (nI lv), .int (nI k), .int (nI t), u8] [] (mm M f' g') R
            refine go_blk 3 [some (.int (nI nt))] (pc' := 30) (vs' := [.ref (ad 0 7), .ref (ad 0 3), .int (nI O), .int (nI sk), .int (nI bt), .int (nI lv), .int (nI k), .int (nI t), u8]) (st' := [.int (nI nt), .int (nI t)]) (M' := mm M f' g') (ps := [ob (mm M f' g') (ad 0 7) 6, (Value.int (f' (ad 0 7) 4)) = .int (nI nt)]) rfl ⟨(hF.o 7), congrArg Value.int ((k1.1 0 7 4 (by omega)).trans c4), trivial⟩ ?_
            refine go_icmp rfl (fun (z : nI nt ≤ (nI t)) => absurd z (show ¬ (nI nt ≤ (nI t)) from (Int32.not_le.mpr ((nI_lts (a := t) (b := nt) (by omega) (by omega)).mpr ht)))) (fun _ => ?_)
            refine go_blk 5 [] (pc' := 39) (vs' := [.ref (ad 0 7), .ref (ad 0 3), .int (nI O), .int (nI sk), .int (nI bt), .int (nI lv), .int (nI k), .int (nI t), u8]) (st' := [.int ((((nI O).toUInt32 >>> ((nI k).toUInt32 &&& Int32.toUInt32 31)).toInt32) &&& 1)]) (M' := mm M f' g') (ps := []) rfl trivial ?_
            refine go_if rfl (fun (z : ((((nI O).toUInt32 >>> ((nI k).toUInt32 &&& Int32.toUInt32 31)).toInt32) &&& 1) = 0) => absurd z (show ¬ (((((nI O).toUInt32 >>> ((nI k).toUInt32 &&& Int32.toUInt32 31)).toInt32) &&& 1) = 0) from (fun z => by rw [bit.mp z] at hb; cases hb))) (fun _ => ?_)
            refine go_blk 7 [some (.ref (ad 3 t))] (pc' := 52) (vs' := [.ref (ad 0 7), .ref (ad 0 3), .int (nI O), .int (nI sk), .int (nI bt), .int (nI lv), .int (nI k), .int (nI t), u8]) (st' := [.int (nI k), .int 3, .int (nI t), .ref (ad 3 t), .ref (ad 0 7)]) (M' := mm M f' g') (ps := [ob (mm M f' g') (ad 0 3) 20, 17 ≤ 20 ∧ 20 < 22, vp_in (nI t) (mN (mm M f' g') (ad 0 3)), mR (mm M f' g') (ad 0 3) ((nI t).toNatClampNeg) = some (ad 3 t), va_rf (some (ad 3 t)) = .ref (ad 3 t)]) rfl ⟨(hF.o 3), (by decide), (vpi (hF.n 3) (show _ < 3 by omega)), (cl_rf rfl (by omega) (hT t (by assumption)).1), rfl, trivial⟩ ?_
            refine go_callV rfl rfl rfl (by omega) rfl (by decide) (by decide) (hF.o 7) ?_
            refine s_Pl_putBehind (t := t) (m := m) (s := s t) (C := Cc t) (to := 3) (by omega) hi hF hT nt3 hP ce1 ht kT (by omega) (by omega) (hs t ht) hm (k2 t ht) ⟨ne_v, ?_⟩
            show Go d 59 0 0 55 [.ref (ad 0 7), .ref (ad 0 3), .int (nI O), .int (nI sk), .int (nI bt), .int (nI lv), .int (nI k), .int (nI t), u8] [] (mm M (pbF ad f' 3 (spN p wk t (s t) (tdK p nc wk k))) (up2 g' (ad 0 25) 3 (lN (Cc t + kcN p nt wk t (s t) (tdK p nc wk k))))) R
            rw [hc, hf1, hg2]
            show Go d 59 0 0 55 [.ref (ad 0 7), .ref (ad 0 3), .int (nI O), .int (nI sk), .int (nI bt), .int (nI lv), .int (nI k), .int (nI t), u8] [] (mm M f1 g2) R
            refine go_blk 10 [some (.ref (ad 0 21)), some (.int (nI en)), some (.ref (ad 0 17)), some (.ref (ad 6 (bk k))), some (.int (nI du))] (pc' := 72) (vs' := [.ref (ad 0 7), .ref (ad 0 3), .int (nI O), .int (nI sk), .int (nI bt), .int (nI lv), .int (nI k), .int (nI t), u8]) (st' := [.int ((nI en) + (nI du))]) (M' := mm M f1 g2) (ps := [ob (mm M f1 g2) (ad 0 7) 6, mR (mm M f1 g2) (ad 0 7) 7 = some (ad 0 21), va_rf (some (ad 0 21)) = .ref (ad 0 21), ob (mm M f1 g2) (ad 0 21) 15, vp_in 3 (mN (mm M f1 g2) (ad 0 21)), (Value.int (f1 (ad 0 21) ((3 : Int32).toNatClampNeg))) = .int (nI en), ob (mm M f1 g2) (ad 0 7) 6, mR (mm M f1 g2) (ad 0 7) 1 = some (ad 0 17), va_rf (some (ad 0 17)) = .ref (ad 0 17), ob (mm M f1 g2) (ad 0 17) 19, 17 ≤ 19 ∧ 19 < 22, vp_in (nI k) (mN (mm M f1 g2) (ad 0 17)), mR (mm M f1 g2) (ad 0 17) ((nI k).toNatClampNeg) = some (ad 6 (bk k)), va_rf (some (ad 6 (bk k))) = .ref (ad 6 (bk k)), ob (mm M f1 g2) (ad 6 (bk k)) 3, (Value.int (f1 (ad 6 (bk k)) 3)) = .int (nI du)]) rfl ⟨(hF.o 7), (hF.r 7 7 21), rfl, (hF.o 21), (vp_eq (show (3 : Int32) = nI 3 from rfl) (vpi (hF.n 21) (show _ < 8 by omega))), congrArg Value.int ((congrArg (fun z => f1 (ad 0 21) z) (cl_of (show (3 : Int32) = nI 3 from rfl) (by omega))).trans e21), (hF.o 7), (hF.r 7 1 17), rfl, (hF.o 17), (by decide), (vpi (hF.n 17) (show _ < 7 by omega)), (cl_rf rfl (by omega) j1), rfl, j2, congrArg Value.int ej, trivial⟩ ?_
            rw [nI_add]
            show Go d 59 0 0 72 [.ref (ad 0 7), .ref (ad 0 3), .int (nI O), .int (nI sk), .int (nI bt), .int (nI lv), .int (nI k), .int (nI t), u8] [.int (nI (en + du))] (mm M f1 g2) R
            refine go_blk 3 [] (pc' := 78) (vs' := [.ref (ad 0 7), .ref (ad 0 3), .int (nI O), .int (nI sk), .int (nI bt), .int (nI lv), .int (nI k), .int (nI t), .int (nI (en + du))]) (st' := [.int (nI lv), .int (nI (en + du))]) (M' := mm M f1 g2) (ps := []) rfl trivial ?_
            refine go_icmp rfl (fun (c21 : nI lv ≤ (nI (en + du))) => ?_) (fun (c21 : ¬ (nI lv ≤ (nI (en + du)))) => ?_)
            · -- nI lv ≤ (nI (en + du))
              refine go_blk 2 [] (pc' := 24) (vs' := [.ref (ad 0 7), .ref (ad 0 3), .int (nI O), .int (nI sk), .int (nI bt), .int (nI lv), .int (nI k), .int ((nI t) + 1), .int (nI (en + du))]) (st' := []) (M' := mm M f1 g2) (ps := []) rfl trivial ?_
              rw [show nI t + 1 = nI (t + 1) from nI_add t 1]
              refine iht _ _ sk bt lv _ n1 A1 k3 (Or.inl ?_)
              rcases k4 with z | ⟨z1, -, -⟩
              · exact z
              · have := (nI_les (a := lv) (b := en + du) (by omega) (by omega)).mp c21
                omega
            · -- ¬ (nI lv ≤ (nI (en + du)))
              refine go_blk 8 [] (pc' := 24) (vs' := [.ref (ad 0 7), .ref (ad 0 3), .int (nI O), .int (nI k), .int (nI t), .int (nI (en + du)), .int (nI k), .int ((nI t) + 1), .int (nI (en + du))]) (st' := []) (M' := mm M f1 g2) (ps := []) rfl trivial ?_
              rw [show nI t + 1 = nI (t + 1) from nI_add t 1]
              exact iht _ _ k t (en + du) _ n1 A1 (by omega) (Or.inl ⟨hlt, hb, ht⟩)
      show Go d 59 0 0 12 [.ref (ad 0 7), .ref (ad 0 3), .int (nI O), .int (nI sk), .int (nI bt), .int (nI lv), .int (nI k), u7, u8] [] (mm M f' g') R
      refine go_blk 3 [some (.int (nI q))] (pc' := 18) (vs' := [.ref (ad 0 7), .ref (ad 0 3), .int (nI O), .int (nI sk), .int (nI bt), .int (nI lv), .int (nI k), u7, u8]) (st' := [.int (nI q), .int (nI k)]) (M' := mm M f' g') (ps := [ob (mm M f' g') (ad 0 7) 6, (Value.int (f' (ad 0 7) 2)) = .int (nI q)]) rfl ⟨(hF.o 7), congrArg Value.int ((k1.1 0 7 2 (by omega)).trans c2), trivial⟩ ?_
      refine go_icmp rfl (fun (z : nI q ≤ (nI k)) => absurd z (show ¬ (nI q ≤ (nI k)) from (Int32.not_le.mpr ((nI_lts (a := k) (b := q) (by omega) (by omega)).mpr hlt)))) (fun _ => ?_)
      refine go_blk 2 [] (pc' := 24) (vs' := [.ref (ad 0 7), .ref (ad 0 3), .int (nI O), .int (nI sk), .int (nI bt), .int (nI lv), .int (nI k), .int 0, u8]) (st' := []) (M' := mm M f' g') (ps := []) rfl trivial ?_
      exact inner 0 (Nat.zero_le _) f' g' sk bt lv _ k1 k2 k3 (k4.imp id (fun z => ⟨z.1, z.2, Or.inl rfl⟩))
  show Go d 59 0 0 0 [.ref (ad 0 7), .ref (ad 0 3), .int (nI O), .retAddr 0, .retAddr 0, .retAddr 0, .retAddr 0, .retAddr 0, .retAddr 0] [] (mm M f g) R
  refine go_blk 8 [] (pc' := 12) (vs' := [.ref (ad 0 7), .ref (ad 0 3), .int (nI O), .int 0, .int 0, .int 1073741824, .int 0, .retAddr 0, .retAddr 0]) (st' := []) (M' := mm M f g) (ps := []) rfl trivial ?_
  exact outer 0 (Nat.zero_le _) f g 0 0 1073741824 _ _ (hsF.refl _ _ _) hA (by omega) (Or.inr ⟨rfl, fun k' hk' => absurd hk' (by omega)⟩)

