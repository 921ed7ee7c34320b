/-! moves: the class's search, place -/
theorem MC.cell {ad : Nat → Nat → Nat} {F f : Nat → Nat → Int32} {gs : List Nat} {nc i : Nat} {fr : Nat → Bool} {acc : Nat → Int32} {B : MvB} (hi : Inj ad) (h : MC ad F f gs nc i fr acc B) (t j k : Nat) (ht : ¬ t = 0) : f (ad t j) k = F (ad t j) k := h.1 _ _ (fun z => ht (hi _ _ _ _ z.1).1) (fun z => ht (hi _ _ _ _ z).1) (fun z => ht (hi _ _ _ _ z).1) (fun z => ht (hi _ _ _ _ z).1)
/-- one booking tried at a cottage -/
theorem MC.put {ad : Nat → Nat → Nat} {F f : Nat → Nat → Int32} {pre r : List Nat} {nc b c : Nat} {fr : Nat → Bool} {acc : Nat → Int32} {B : MvB} (hi : Inj ad) (hn : (pre ++ b :: r).Nodup) (h : MC ad F f (pre ++ b :: r) nc pre.length fr acc B) : MC ad F (up2 (up2 f (ad 0 12) c 0) (ad 0 14) pre.length (nI c)) (pre ++ b :: r) nc (pre.length + 1) (va_up fr c false) (va_up acc b (nI c)) B := by
  have n612 : ∀ i j, ¬ i = j → ¬ ad 0 i = ad 0 j := fun i j z y => z (hi _ _ _ _ y).2
  obtain ⟨h1, h2, h3, h4, h5, h6⟩ := h
  refine ⟨fun x k z1 z2 z3 z4 => ?_, fun c' hc => ?_, fun k hk => ?_, ?_, ?_, fun r' hr k hk => ?_⟩
  · rw [up2_n _ _ (fun z => z3 z.1), up2_n _ _ (fun z => z2 z.1)]
    exact h1 x k z1 z2 z3 z4
  · rw [up2_n _ _ (fun z => n612 12 14 (by decide) z.1)]
    by_cases q : c' = c
    · rw [q, up2_s, va_s]; rfl
    · rw [up2_n _ _ (fun z => q z.2), va_n _ _ q]; exact h2 c' hc
  · by_cases q : k = pre.length
    · rw [q, up2_s, gtD_app, va_s]
    · rw [up2_n _ _ (fun z => q z.2), up2_n _ _ (fun z => n612 14 12 (by decide) z.1), h3 k (by omega), va_n]
      intro z
      refine q (gtD_inj hn (by rw [List.length_append, List.length_cons]; omega) (by rw [List.length_append, List.length_cons]; omega) (z.trans gtD_app.symm))
  · rw [up2_n _ _ (fun z => n612 6 14 (by decide) z.1), up2_n _ _ (fun z => n612 6 12 (by decide) z.1)]; exact h4
  · rw [up2_n _ _ (fun z => n612 6 14 (by decide) z.1), up2_n _ _ (fun z => n612 6 12 (by decide) z.1)]; exact h5
  · rw [up2_n _ _ (fun z => n612 15 14 (by decide) z.1), up2_n _ _ (fun z => n612 15 12 (by decide) z.1)]; exact h6 r' hr k hk
theorem MC.skip {ad : Nat → Nat → Nat} {F f : Nat → Nat → Int32} {pre r : List Nat} {nc b : Nat} {fr : Nat → Bool} {acc : Nat → Int32} {B : MvB} (hi : Inj ad) (hn : (pre ++ b :: r).Nodup) (h : MC ad F f (pre ++ b :: r) nc pre.length fr acc B) : MC ad F (up2 f (ad 0 14) pre.length (-1)) (pre ++ b :: r) nc (pre.length + 1) fr (va_up acc b (-1)) B := by
  have n612 : ∀ i j, ¬ i = j → ¬ ad 0 i = ad 0 j := fun i j z y => z (hi _ _ _ _ y).2
  obtain ⟨h1, h2, h3, h4, h5, h6⟩ := h
  refine ⟨fun x k z1 z2 z3 z4 => ?_, fun c' hc => ?_, fun k hk => ?_, ?_, ?_, fun r' hr k hk => ?_⟩
  · rw [up2_n _ _ (fun z => z3 z.1)]
    exact h1 x k z1 z2 z3 z4
  · rw [up2_n _ _ (fun z => n612 12 14 (by decide) z.1)]; exact h2 c' hc
  · by_cases q : k = pre.length
    · rw [q, up2_s, gtD_app, va_s]
    · rw [up2_n _ _ (fun z => q z.2), h3 k (by omega), va_n]
      intro z
      refine q (gtD_inj hn (by rw [List.length_append, List.length_cons]; omega) (by rw [List.length_append, List.length_cons]; omega) (z.trans gtD_app.symm))
  · rw [up2_n _ _ (fun z => n612 6 14 (by decide) z.1)]; exact h4
  · rw [up2_n _ _ (fun z => n612 6 14 (by decide) z.1)]; exact h5
  · rw [up2_n _ _ (fun z => n612 15 14 (by decide) z.1)]; exact h6 r' hr k hk
/-- and taken back -/
theorem MC.back {ad : Nat → Nat → Nat} {F f : Nat → Nat → Int32} {pre r : List Nat} {nc b c : Nat} {fr : Nat → Bool} {acc : Nat → Int32} {B : MvB} {v : Int32} (hi : Inj ad) (hn : (pre ++ b :: r).Nodup) (hc0 : fr c = true) (h : MC ad F f (pre ++ b :: r) nc (pre.length + 1) (va_up fr c false) (va_up acc b v) B) : MC ad F (up2 f (ad 0 12) c 1) (pre ++ b :: r) nc pre.length fr acc B := by
  have n612 : ∀ i j, ¬ i = j → ¬ ad 0 i = ad 0 j := fun i j z y => z (hi _ _ _ _ y).2
  obtain ⟨h1, h2, h3, h4, h5, h6⟩ := h
  refine ⟨fun x k z1 z2 z3 z4 => ?_, fun c' hc => ?_, fun k hk => ?_, ?_, ?_, fun r' hr k hk => ?_⟩
  · rw [up2_n _ _ (fun z => z2 z.1)]
    exact h1 x k z1 z2 z3 z4
  · by_cases q : c' = c
    · rw [q, up2_s, hc0]; rfl
    · rw [up2_n _ _ (fun z => q z.2), h2 c' hc, va_n _ _ q]
  · rw [up2_n _ _ (fun z => n612 14 12 (by decide) z.1), h3 k (by omega), va_n]
    intro z
    have := gtD_inj hn (i := k) (j := pre.length) (by rw [List.length_append, List.length_cons]; omega) (by rw [List.length_append, List.length_cons]; omega) (z.trans gtD_app.symm)
    omega
  · rw [up2_n _ _ (fun z => n612 6 12 (by decide) z.1)]; exact h4
  · rw [up2_n _ _ (fun z => n612 6 12 (by decide) z.1)]; exact h5
  · rw [up2_n _ _ (fun z => n612 15 12 (by decide) z.1)]; exact h6 r' hr k hk
theorem MC.less {ad : Nat → Nat → Nat} {F f : Nat → Nat → Int32} {pre r : List Nat} {nc b : Nat} {fr : Nat → Bool} {acc : Nat → Int32} {B : MvB} {v : Int32} (hn : (pre ++ b :: r).Nodup) (h : MC ad F f (pre ++ b :: r) nc (pre.length + 1) fr (va_up acc b v) B) : MC ad F f (pre ++ b :: r) nc pre.length fr acc B := by
  obtain ⟨h1, h2, h3, h4⟩ := h
  refine ⟨h1, h2, fun k hk => ?_, h4⟩
  rw [h3 k (by omega), va_n]
  intro z
  have := gtD_inj hn (i := k) (j := pre.length) (by rw [List.length_append, List.length_cons]; omega) (by rw [List.length_append, List.length_cons]; omega) (z.trans gtD_app.symm)
  omega

set_option maxRecDepth 100000 in
theorem s_Mv_place {M : Mem} {F : Nat → Nat → Int32} {g : Nat → Nat → Int64} {ad : Nat → Nat → Nat} {gs : List Nat} {nc nb : Nat} {ok : Nat → Nat → Bool} {ds : Nat → Nat → Int32} (hG : MG M ad F gs nc nb) (hok : ∀ c b, c < nc → b ∈ gs → ((1 ≤ F (ad 2 b) 2 ∧ F (ad 2 b) 2 ≤ F (ad 1 c) 0 ∧ (¬ F (ad 1 c) 1 = 0 ∨ F (ad 2 b) 3 = 0)) ↔ ok c b = true)) (hds : ∀ c b, c < nc → b ∈ gs → (if 0 ≤ F (ad 1 c) 3 - F (ad 2 b) 5 then F (ad 1 c) 3 - F (ad 2 b) 5 else -(F (ad 1 c) 3 - F (ad 2 b) 5)) = ds c b) : ∀ (l pre : List Nat), gs = pre ++ l → ∀ (d : Nat) (f : Nat → Nat → Int32) (fr : Nat → Bool) (m : Nat) (a : Int32) (acc : Nat → Int32) (B : MvB) (R : Option Value → Mem → Prop), l.length + 3 ≤ d → m + l.length ≤ 60 → (∀ r, B = some r → r.1 ≤ 60) → MC ad F f gs nc pre.length fr acc B → (∀ f', MC ad F f' gs nc pre.length fr acc (mvS ok ds nc l fr m a acc B) → R none (mm M f' g)) → Call d 41 [.ref (ad 0 6), .int (nI pre.length), .int (nI m), .int a] (mm M f g) R := by
  have hG0 := hG
  obtain ⟨⟨hi, hF, hC, hB⟩, ⟨g2, g4, gnc, gl7, gnd, gnb⟩, gh, gg⟩ := hG
  intro l
  induction l with
  | nil =>
    intro pre hgs d f fr m a acc B R hd hm hB1 hf hR
    rw [List.append_nil] at hgs
    subst hgs
    rw [mvS] at hR
    show Go d 41 0 0 0 [.ref (ad 0 6), .int (nI gs.length), .int (nI m), .int a, .retAddr 0, .retAddr 0] [] (mm M f g) R
    refine go_blk 3 [some (.int (nI gs.length))] (pc' := 5) (vs' := [.ref (ad 0 6), .int (nI gs.length), .int (nI m), .int a, .retAddr 0, .retAddr 0]) (st' := [.int (nI gs.length), .int (nI gs.length)]) (M' := mm M f g) (ps := [ob (mm M f g) (ad 0 6) 5, (Value.int (f (ad 0 6) 4)) = .int (nI gs.length)]) rfl ⟨(hF.o 6), congrArg Value.int ((hf.1 _ _ (fun z => absurd z.2 (by decide)) (fun z => absurd (hi _ _ _ _ z).2 (by decide)) (fun z => absurd (hi _ _ _ _ z).2 (by decide)) (fun z => absurd (hi _ _ _ _ z).2 (by decide))).trans g4), trivial⟩ ?_
    refine go_icmp rfl (fun _ => ?_) (fun (z : ¬ (nI gs.length ≤ (nI gs.length))) => absurd (show nI gs.length ≤ (nI gs.length) from Int32.le_refl _) z)
    refine go_blk 3 [] (pc' := 17) (vs' := [.ref (ad 0 6), .int (nI gs.length), .int (nI m), .int a, .retAddr 0, .retAddr 0]) (st' := [.int a, .int (nI m), .ref (ad 0 6)]) (M' := mm M f g) (ps := []) rfl trivial ?_
    refine go_callV rfl rfl rfl (by omega) rfl (by decide) (by decide) (hF.o 6) ?_
    refine s_Mv_keep (by omega) hG0 (by omega) hB1 hf (fun f' hf' => ⟨ne_v, ?_⟩)
    · -- ('v',)
      show Go d 41 0 0 20 [.ref (ad 0 6), .int (nI gs.length), .int (nI m), .int a, .retAddr 0, .retAddr 0] [] (mm M f' g) R
      refine go_vret rfl rfl ?_
      exact hR f' hf'
  | cons b r ih =>
    intro pre hgs d f fr m a acc B R hd hm hB1 hf hR
    have hlen : gs.length = pre.length + (r.length + 1) := by rw [hgs, List.length_append, List.length_cons]
    rw [List.length_cons] at hd hm
    have hbm : b ∈ gs := by rw [hgs]; exact List.mem_append_right _ List.mem_cons_self
    have hbn := gnb b hbm
    have hgi : gs.getD pre.length 0 = b := by rw [hgs]; exact gtD_app
    have hgr : mR M (ad 0 13) pre.length = some (ad 2 b) := by rw [gg pre.length (by omega), hgi]
    have hgs1 : gs = (pre ++ [b]) ++ r := by rw [hgs, List.append_assoc]; rfl
    have hpl : (pre ++ [b]).length = pre.length + 1 := by rw [List.length_append]; rfl
    have gnd1 : (pre ++ b :: r).Nodup := hgs ▸ gnd
    have hB2 : ∀ n, n ≤ nc → ∀ x, fldN (fun c B => if fr c = true ∧ ok c b = true then mvS ok ds nc r (va_up fr c false) (m + 1) (a + ds c b) (va_up acc b (nI c)) B else B) n B = some x → x.1 ≤ 60 := by
      intro n hn x hx
      have key : ∀ n, n ≤ nc → ∀ x, fldN (fun c B => if fr c = true ∧ ok c b = true then mvS ok ds nc r (va_up fr c false) (m + 1) (a + ds c b) (va_up acc b (nI c)) B else B) n B = some x → x.1 ≤ 60 := by
        intro n
        induction n with
        | zero => intro _ x hx; exact hB1 x hx
        | succ n ihn =>
          intro hn x hx
          rw [fldN] at hx
          by_cases c : fr n = true ∧ ok n b = true
          · rw [if_pos c] at hx
            rcases mvS_gd gnc _ _ _ _ _ _ _ (List.nodup_cons.mp (List.nodup_append.mp gnd1).2.1).2 hx with q | q
            · exact ihn (by omega) x q
            · have := q.1; omega
          · rw [if_neg c] at hx; exact ihn (by omega) x hx
      exact key n hn x hx
    rw [mvS] at hR
    obtain ⟨i, hpi⟩ : ∃ i, pre.length = i := ⟨_, rfl⟩
    rw [hpi] at hgr hlen hgi
    have hi7 : i < 7 := by omega
    have loop : ∀ c, c ≤ nc → ∀ f, MC ad F f gs nc pre.length fr acc (fldN (fun c B => if fr c = true ∧ ok c b = true then mvS ok ds nc r (va_up fr c false) (m + 1) (a + ds c b) (va_up acc b (nI c)) B else B) c B) → Go d 41 0 0 32 [.ref (ad 0 6), .int (nI i), .int (nI m), .int a, .ref (ad 2 b), .int (nI c)] [] (mm M f g) R := by
      refine up_ind (P := fun c => ∀ f, MC ad F f gs nc pre.length fr acc (fldN (fun c B => if fr c = true ∧ ok c b = true then mvS ok ds nc r (va_up fr c false) (m + 1) (a + ds c b) (va_up acc b (nI c)) B else B) c B) → Go d 41 0 0 32 [.ref (ad 0 6), .int (nI i), .int (nI m), .int a, .ref (ad 2 b), .int (nI c)] [] (mm M f g) R) nc (fun f hf => ?_) (fun c hc ihc f hf => ?_)
      ·
        show Go d 41 0 0 32 [.ref (ad 0 6), .int (nI i), .int (nI m), .int a, .ref (ad 2 b), .int (nI nc)] [] (mm M f g) R
        refine go_blk 3 [some (.int (nI nc))] (pc' := 38) (vs' := [.ref (ad 0 6), .int (nI i), .int (nI m), .int a, .ref (ad 2 b), .int (nI nc)]) (st' := [.int (nI nc), .int (nI nc)]) (M' := mm M f g) (ps := [ob (mm M f g) (ad 0 6) 5, (Value.int (f (ad 0 6) 2)) = .int (nI nc)]) rfl ⟨(hF.o 6), congrArg Value.int ((hf.1 _ _ (fun z => absurd z.2 (by decide)) (fun z => absurd (hi _ _ _ _ z).2 (by decide)) (fun z => absurd (hi _ _ _ _ z).2 (by decide)) (fun z => absurd (hi _ _ _ _ z).2 (by decide))).trans g2), trivial⟩ ?_
        refine go_icmp rfl (fun _ => ?_) (fun (z : ¬ (nI nc ≤ (nI nc))) => absurd (show nI nc ≤ (nI nc) from Int32.le_refl _) z)
        refine go_blk 11 [some (.ref (ad 0 14))] (pc' := 148) (vs' := [.ref (ad 0 6), .int (nI i), .int (nI m), .int a, .ref (ad 2 b), .int (nI nc)]) (st' := [.int a, .int (nI m), .int ((nI i) + 1), .ref (ad 0 6)]) (M' := mm M (up2 f (ad 0 14) ((nI i).toNatClampNeg) (-1)) g) (ps := [ob (mm M f g) (ad 0 6) 5, mR (mm M f g) (ad 0 6) 5 = some (ad 0 14), va_rf (some (ad 0 14)) = .ref (ad 0 14), ob (mm M f g) (ad 0 14) 15, vp_in (nI i) (mN (mm M f g) (ad 0 14))]) rfl ⟨(hF.o 6), (hF.r 6 5 14), rfl, (hF.o 14), (vpi (hF.n 14) (show i < 7 by omega)), trivial⟩ ?_
        rw [nI_clamp (n := i) (by omega)]
        have hq := MC.skip hi gnd1 (hgs ▸ hf)
        rw [← hgs, hpi] at hq
        rw [show nI i + 1 = nI (i + 1) from nI_add i 1]
        refine go_callV rfl rfl rfl (by omega) rfl (by decide) (by decide) (hF.o 6) ?_
        have hz := ih (pre ++ [b]) hgs1 (d - 1) _ fr m a (va_up acc b (-1)) _ (fun v M' => v ≠ some (.retAddr 7) ∧ Go d 41 0 0 151 [.ref (ad 0 6), .int (nI i), .int (nI m), .int a, .ref (ad 2 b), .int (nI nc)] (v.toList ++ []) M' R) (by omega) (by omega) (hB2 nc (Nat.le_refl _)) (by rw [hpl, hpi]; exact hq) (fun f' hf' => ⟨ne_v, ?_⟩)
        · rw [hpl, hpi] at hz; exact hz
        · show Go d 41 0 0 151 [.ref (ad 0 6), .int (nI i), .int (nI m), .int a, .ref (ad 2 b), .int (nI nc)] [] (mm M f' g) R
          refine go_vret rfl rfl ?_
          refine hR f' ?_
          rw [hpl] at hf'
          rw [hgs] at hf' ⊢
          exact MC.less gnd1 hf'
      · have e2 : f (ad 2 b) 2 = F (ad 2 b) 2 := MC.cell hi hf 2 b 2 (by decide)
        have e3 : f (ad 2 b) 3 = F (ad 2 b) 3 := MC.cell hi hf 2 b 3 (by decide)
        have e5 : f (ad 2 b) 5 = F (ad 2 b) 5 := MC.cell hi hf 2 b 5 (by decide)
        have c0 : f (ad 1 c) 0 = F (ad 1 c) 0 := MC.cell hi hf 1 c 0 (by decide)
        have c1 : f (ad 1 c) 1 = F (ad 1 c) 1 := MC.cell hi hf 1 c 1 (by decide)
        have c3 : f (ad 1 c) 3 = F (ad 1 c) 3 := MC.cell hi hf 1 c 3 (by decide)
        have hokc := hok c b hc hbm
        have hdsc := hds c b hc hbm
        rw [← e2, ← e3, ← c0, ← c1] at hokc
        rw [← c3, ← e5] at hdsc
        rw [fldN] at ihc
        by_cases hfc : fr c = true
        ·
          show Go d 41 0 0 32 [.ref (ad 0 6), .int (nI i), .int (nI m), .int a, .ref (ad 2 b), .int (nI c)] [] (mm M f g) R
          refine go_blk 3 [some (.int (nI nc))] (pc' := 38) (vs' := [.ref (ad 0 6), .int (nI i), .int (nI m), .int a, .ref (ad 2 b), .int (nI c)]) (st' := [.int (nI nc), .int (nI c)]) (M' := mm M f g) (ps := [ob (mm M f g) (ad 0 6) 5, (Value.int (f (ad 0 6) 2)) = .int (nI nc)]) rfl ⟨(hF.o 6), congrArg Value.int ((hf.1 _ _ (fun z => absurd z.2 (by decide)) (fun z => absurd (hi _ _ _ _ z).2 (by decide)) (fun z => absurd (hi _ _ _ _ z).2 (by decide)) (fun z => absurd (hi _ _ _ _ z).2 (by decide))).trans g2), trivial⟩ ?_
          refine go_icmp rfl (fun (z : nI nc ≤ (nI c)) => absurd z (show ¬ (nI nc ≤ (nI c)) from (Int32.not_le.mpr ((nI_lts (a := c) (b := nc) (by omega) (by omega)).mpr hc)))) (fun _ => ?_)
          refine go_blk 4 [some (.ref (ad 0 12)), some (.int 1)] (pc' := 48) (vs' := [.ref (ad 0 6), .int (nI i), .int (nI m), .int a, .ref (ad 2 b), .int (nI c)]) (st' := [.int 1]) (M' := mm M f g) (ps := [ob (mm M f g) (ad 0 6) 5, mR (mm M f g) (ad 0 6) 1 = some (ad 0 12), va_rf (some (ad 0 12)) = .ref (ad 0 12), ob (mm M f g) (ad 0 12) 13, 13 = 13 ∨ 13 = 14, vp_in (nI c) (mN (mm M f g) (ad 0 12)), (Value.int (f (ad 0 12) ((nI c).toNatClampNeg))) = .int 1]) rfl ⟨(hF.o 6), (hF.r 6 1 12), rfl, (hF.o 12), (by decide), (vpi (hF.n 12) (show c < 7 by omega)), congrArg Value.int ((congrArg (fun z => f (ad 0 12) z) (nI_clamp (by omega))).trans ((hf.2.1 c hc).trans (if_pos hfc))), trivial⟩ ?_
          refine go_if rfl (fun (z : (1 : Int32) = 0) => absurd z (show ¬ ((1 : Int32) = 0) from (by decide))) (fun _ => ?_)
          refine go_blk 8 [some (.ref (ad 0 11)), some (.ref (ad 1 c))] (pc' := 68) (vs' := [.ref (ad 0 6), .int (nI i), .int (nI m), .int a, .ref (ad 2 b), .int (nI c)]) (st' := [.int (f (ad 2 b) 3), .int (f (ad 2 b) 2), .ref (ad 1 c)]) (M' := mm M f g) (ps := [ob (mm M f g) (ad 0 6) 5, mR (mm M f g) (ad 0 6) 0 = some (ad 0 11), va_rf (some (ad 0 11)) = .ref (ad 0 11), ob (mm M f g) (ad 0 11) 18, 17 ≤ 18 ∧ 18 < 22, vp_in (nI c) (mN (mm M f g) (ad 0 11)), mR (mm M f g) (ad 0 11) ((nI c).toNatClampNeg) = some (ad 1 c), va_rf (some (ad 1 c)) = .ref (ad 1 c), ob (mm M f g) (ad 2 b) 0, ob (mm M f g) (ad 2 b) 0]) rfl ⟨(hF.o 6), (hF.r 6 0 11), rfl, (hF.o 11), (by decide), (vpi (hF.n 11) (show c < 7 by omega)), (cl_rf rfl (by omega) (gh c hc)), rfl, (hB b hbn).2, (hB b hbn).2, trivial⟩ ?_
          refine go_callV rfl rfl rfl (by omega) rfl (by decide) (by decide) (hC c hc).2 ?_
          refine s_Co_takes hC hc (fun ht1 => ⟨ne_i, ?_⟩) (fun ht1 => ⟨ne_i, ?_⟩)
          · -- ('i', '1')
            have hoc : ok c b = true := hokc.mp ht1
            show Go d 41 0 0 71 [.ref (ad 0 6), .int (nI i), .int (nI m), .int a, .ref (ad 2 b), .int (nI c)] [.int 1] (mm M f g) R
            refine go_if rfl (fun (z : (1 : Int32) = 0) => absurd z (show ¬ ((1 : Int32) = 0) from (by decide))) (fun _ => ?_)
            refine go_blk 26 [some (.ref (ad 0 12)), some (.ref (ad 0 14)), some (.ref (ad 0 11)), some (.ref (ad 1 c)), some (.int (f (ad 1 c) 3)), some (.int (f (ad 2 b) 5))] (pc' := 114) (vs' := [.ref (ad 0 6), .int (nI i), .int (nI m), .int a, .ref (ad 2 b), .int (nI c)]) (st' := [.int ((f (ad 1 c) 3) - (f (ad 2 b) 5)), .int a, .int ((nI m) + 1), .int ((nI i) + 1), .ref (ad 0 6)]) (M' := mm M (up2 (up2 f (ad 0 12) ((nI c).toNatClampNeg) 0) (ad 0 14) ((nI i).toNatClampNeg) (nI c)) g) (ps := [ob (mm M f g) (ad 0 6) 5, mR (mm M f g) (ad 0 6) 1 = some (ad 0 12), va_rf (some (ad 0 12)) = .ref (ad 0 12), ob (mm M f g) (ad 0 12) 13, vp_in (nI c) (mN (mm M f g) (ad 0 12)), ob (mm M (up2 f (ad 0 12) ((nI c).toNatClampNeg) 0) g) (ad 0 6) 5, mR (mm M (up2 f (ad 0 12) ((nI c).toNatClampNeg) 0) g) (ad 0 6) 5 = some (ad 0 14), va_rf (some (ad 0 14)) = .ref (ad 0 14), ob (mm M (up2 f (ad 0 12) ((nI c).toNatClampNeg) 0) g) (ad 0 14) 15, vp_in (nI i) (mN (mm M (up2 f (ad 0 12) ((nI c).toNatClampNeg) 0) g) (ad 0 14)), ob (mm M (up2 (up2 f (ad 0 12) ((nI c).toNatClampNeg) 0) (ad 0 14) ((nI i).toNatClampNeg) (nI c)) g) (ad 0 6) 5, mR (mm M (up2 (up2 f (ad 0 12) ((nI c).toNatClampNeg) 0) (ad 0 14) ((nI i).toNatClampNeg) (nI c)) g) (ad 0 6) 0 = some (ad 0 11), va_rf (some (ad 0 11)) = .ref (ad 0 11), ob (mm M (up2 (up2 f (ad 0 12) ((nI c).toNatClampNeg) 0) (ad 0 14) ((nI i).toNatClampNeg) (nI c)) g) (ad 0 11) 18, 17 ≤ 18 ∧ 18 < 22, vp_in (nI c) (mN (mm M (up2 (up2 f (ad 0 12) ((nI c).toNatClampNeg) 0) (ad 0 14) ((nI i).toNatClampNeg) (nI c)) g) (ad 0 11)), mR (mm M (up2 (up2 f (ad 0 12) ((nI c).toNatClampNeg) 0) (ad 0 14) ((nI i).toNatClampNeg) (nI c)) g) (ad 0 11) ((nI c).toNatClampNeg) = some (ad 1 c), va_rf (some (ad 1 c)) = .ref (ad 1 c), ob (mm M (up2 (up2 f (ad 0 12) ((nI c).toNatClampNeg) 0) (ad 0 14) ((nI i).toNatClampNeg) (nI c)) g) (ad 1 c) 2, (Value.int ((up2 (up2 f (ad 0 12) ((nI c).toNatClampNeg) 0) (ad 0 14) ((nI i).toNatClampNeg) (nI c)) (ad 1 c) 3)) = .int (f (ad 1 c) 3), ob (mm M (up2 (up2 f (ad 0 12) ((nI c).toNatClampNeg) 0) (ad 0 14) ((nI i).toNatClampNeg) (nI c)) g) (ad 2 b) 0, (Value.int ((up2 (up2 f (ad 0 12) ((nI c).toNatClampNeg) 0) (ad 0 14) ((nI i).toNatClampNeg) (nI c)) (ad 2 b) 5)) = .int (f (ad 2 b) 5)]) rfl ⟨(hF.o 6), (hF.r 6 1 12), rfl, (hF.o 12), (vpi (hF.n 12) (show c < 7 by omega)), (hF.o 6), (hF.r 6 5 14), rfl, (hF.o 14), (vpi (hF.n 14) (show i < 7 by omega)), (hF.o 6), (hF.r 6 0 11), rfl, (hF.o 11), (by decide), (vpi (hF.n 11) (show c < 7 by omega)), (cl_rf rfl (by omega) (gh c hc)), rfl, (hC c hc).2, congrArg Value.int ((up2_n _ _ (fun z => absurd (hi _ _ _ _ z.1).1 (by decide))).trans ((up2_n _ _ (fun z => absurd (hi _ _ _ _ z.1).1 (by decide))).trans (rfl))), (hB b hbn).2, congrArg Value.int ((up2_n _ _ (fun z => absurd (hi _ _ _ _ z.1).1 (by decide))).trans ((up2_n _ _ (fun z => absurd (hi _ _ _ _ z.1).1 (by decide))).trans (rfl))), trivial⟩ ?_
            rw [nI_clamp (n := c) (by omega)]
            rw [nI_clamp (n := i) (by omega)]
            refine go_callS rfl (by decide) rfl rfl (by omega) rfl (by decide) (by decide) ?_
            refine s_JM_abs (by omega) ⟨ne_i, ?_⟩
            show Go d 41 0 0 117 [.ref (ad 0 6), .int (nI i), .int (nI m), .int a, .ref (ad 2 b), .int (nI c)] [.int (if 0 ≤ (f (ad 1 c) 3) - (f (ad 2 b) 5) then (f (ad 1 c) 3) - (f (ad 2 b) 5) else -((f (ad 1 c) 3) - (f (ad 2 b) 5))), .int a, .int ((nI m) + 1), .int ((nI i) + 1), .ref (ad 0 6)] (mm M (up2 (up2 f (ad 0 12) (c) 0) (ad 0 14) (i) (nI c)) g) R
            refine go_blk 1 [] (pc' := 118) (vs' := [.ref (ad 0 6), .int (nI i), .int (nI m), .int a, .ref (ad 2 b), .int (nI c)]) (st' := [.int (a + (if 0 ≤ (f (ad 1 c) 3) - (f (ad 2 b) 5) then (f (ad 1 c) 3) - (f (ad 2 b) 5) else -((f (ad 1 c) 3) - (f (ad 2 b) 5)))), .int ((nI m) + 1), .int ((nI i) + 1), .ref (ad 0 6)]) (M' := mm M (up2 (up2 f (ad 0 12) (c) 0) (ad 0 14) (i) (nI c)) g) (ps := []) rfl trivial ?_
            rw [if_pos ⟨hfc, hoc⟩] at ihc
            have hq := MC.put (c := c) hi gnd1 (hgs ▸ hf)
            rw [← hgs, hpi] at hq
            have ed : (if 0 ≤ (f (ad 1 c) 3) - (f (ad 2 b) 5) then (f (ad 1 c) 3) - (f (ad 2 b) 5) else -((f (ad 1 c) 3) - (f (ad 2 b) 5))) = ds c b := by first | exact hdsc | (simpa [up2_ad hi] using hdsc)
            rw [ed, show nI i + 1 = nI (i + 1) from nI_add i 1, show nI m + 1 = nI (m + 1) from nI_add m 1]
            refine go_callV rfl rfl rfl (by omega) rfl (by decide) (by decide) (hF.o 6) ?_
            have hz := ih (pre ++ [b]) hgs1 (d - 1) _ (va_up fr c false) (m + 1) (a + ds c b) (va_up acc b (nI c)) _ (fun v M' => v ≠ some (.retAddr 7) ∧ Go d 41 0 0 121 [.ref (ad 0 6), .int (nI i), .int (nI m), .int a, .ref (ad 2 b), .int (nI c)] (v.toList ++ []) M' R) (by omega) (by omega) (hB2 c (by omega)) (by rw [hpl, hpi]; exact hq) (fun f' hf' => ⟨ne_v, ?_⟩)
            · rw [hpl, hpi] at hz; exact hz
            have hb2 := MC.back hi gnd1 hfc (by rw [hpl] at hf'; rw [hgs] at hf'; exact hf')
            rw [← hgs] at hb2
            show Go d 41 0 0 121 [.ref (ad 0 6), .int (nI i), .int (nI m), .int a, .ref (ad 2 b), .int (nI c)] [] (mm M f' g) R
            refine go_blk 7 [some (.ref (ad 0 12))] (pc' := 32) (vs' := [.ref (ad 0 6), .int (nI i), .int (nI m), .int a, .ref (ad 2 b), .int ((nI c) + 1)]) (st' := []) (M' := mm M (up2 f' (ad 0 12) ((nI c).toNatClampNeg) 1) g) (ps := [ob (mm M f' g) (ad 0 6) 5, mR (mm M f' g) (ad 0 6) 1 = some (ad 0 12), va_rf (some (ad 0 12)) = .ref (ad 0 12), ob (mm M f' g) (ad 0 12) 13, vp_in (nI c) (mN (mm M f' g) (ad 0 12))]) rfl ⟨(hF.o 6), (hF.r 6 1 12), rfl, (hF.o 12), (vpi (hF.n 12) (show c < 7 by omega)), trivial⟩ ?_
            rw [nI_clamp (n := c) (by omega)]
            rw [show nI c + 1 = nI (c + 1) from nI_add c 1]
            exact ihc _ hb2
          · -- ('i', '0')
            have hoc : ¬ ok c b = true := fun z => ht1 (hokc.mpr z)
            show Go d 41 0 0 71 [.ref (ad 0 6), .int (nI i), .int (nI m), .int a, .ref (ad 2 b), .int (nI c)] [.int 0] (mm M f g) R
            refine go_if rfl (fun _ => ?_) (fun (z : ¬ ((0 : Int32) = 0)) => absurd (show (0 : Int32) = 0 from (by decide)) z)
            refine go_blk 2 [] (pc' := 32) (vs' := [.ref (ad 0 6), .int (nI i), .int (nI m), .int a, .ref (ad 2 b), .int ((nI c) + 1)]) (st' := []) (M' := mm M f g) (ps := []) rfl trivial ?_
            rw [show nI c + 1 = nI (c + 1) from nI_add c 1]
            rw [if_neg (fun z => hoc z.2)] at ihc
            exact ihc f hf
        ·
          show Go d 41 0 0 32 [.ref (ad 0 6), .int (nI i), .int (nI m), .int a, .ref (ad 2 b), .int (nI c)] [] (mm M f g) R
          refine go_blk 3 [some (.int (nI nc))] (pc' := 38) (vs' := [.ref (ad 0 6), .int (nI i), .int (nI m), .int a, .ref (ad 2 b), .int (nI c)]) (st' := [.int (nI nc), .int (nI c)]) (M' := mm M f g) (ps := [ob (mm M f g) (ad 0 6) 5, (Value.int (f (ad 0 6) 2)) = .int (nI nc)]) rfl ⟨(hF.o 6), congrArg Value.int ((hf.1 _ _ (fun z => absurd z.2 (by decide)) (fun z => absurd (hi _ _ _ _ z).2 (by decide)) (fun z => absurd (hi _ _ _ _ z).2 (by decide)) (fun z => absurd (hi _ _ _ _ z).2 (by decide))).trans g2), trivial⟩ ?_
          refine go_icmp rfl (fun (z : nI nc ≤ (nI c)) => absurd z (show ¬ (nI nc ≤ (nI c)) from (Int32.not_le.mpr ((nI_lts (a := c) (b := nc) (by omega) (by omega)).mpr hc)))) (fun _ => ?_)
          refine go_blk 4 [some (.ref (ad 0 12)), some (.int 0)] (pc' := 48) (vs' := [.ref (ad 0 6), .int (nI i), .int (nI m), .int a, .ref (ad 2 b), .int (nI c)]) (st' := [.int 0]) (M' := mm M f g) (ps := [ob (mm M f g) (ad 0 6) 5, mR (mm M f g) (ad 0 6) 1 = some (ad 0 12), va_rf (some (ad 0 12)) = .ref (ad 0 12), ob (mm M f g) (ad 0 12) 13, 13 = 13 ∨ 13 = 14, vp_in (nI c) (mN (mm M f g) (ad 0 12)), (Value.int (f (ad 0 12) ((nI c).toNatClampNeg))) = .int 0]) rfl ⟨(hF.o 6), (hF.r 6 1 12), rfl, (hF.o 12), (by decide), (vpi (hF.n 12) (show c < 7 by omega)), congrArg Value.int ((congrArg (fun z => f (ad 0 12) z) (nI_clamp (by omega))).trans ((hf.2.1 c hc).trans (if_neg hfc))), trivial⟩ ?_
          refine go_if rfl (fun _ => ?_) (fun (z : ¬ ((0 : Int32) = 0)) => absurd (show (0 : Int32) = 0 from (by decide)) z)
          refine go_blk 2 [] (pc' := 32) (vs' := [.ref (ad 0 6), .int (nI i), .int (nI m), .int a, .ref (ad 2 b), .int ((nI c) + 1)]) (st' := []) (M' := mm M f g) (ps := []) rfl trivial ?_
          rw [show nI c + 1 = nI (c + 1) from nI_add c 1]
          rw [if_neg (fun z => hfc z.1)] at ihc
          exact ihc f hf
    rw [hpi]
    show Go d 41 0 0 0 [.ref (ad 0 6), .int (nI i), .int (nI m), .int a, .retAddr 0, .retAddr 0] [] (mm M f g) R
    refine go_blk 3 [some (.int (nI gs.length))] (pc' := 5) (vs' := [.ref (ad 0 6), .int (nI i), .int (nI m), .int a, .retAddr 0, .retAddr 0]) (st' := [.int (nI gs.length), .int (nI i)]) (M' := mm M f g) (ps := [ob (mm M f g) (ad 0 6) 5, (Value.int (f (ad 0 6) 4)) = .int (nI gs.length)]) rfl ⟨(hF.o 6), congrArg Value.int ((hf.1 _ _ (fun z => absurd z.2 (by decide)) (fun z => absurd (hi _ _ _ _ z).2 (by decide)) (fun z => absurd (hi _ _ _ _ z).2 (by decide)) (fun z => absurd (hi _ _ _ _ z).2 (by decide))).trans g4), trivial⟩ ?_
    refine go_icmp rfl (fun (z : nI gs.length ≤ (nI i)) => absurd z (show ¬ (nI gs.length ≤ (nI i)) from (Int32.not_le.mpr ((nI_lts (a := i) (b := gs.length) (by omega) (by omega)).mpr (by omega))))) (fun _ => ?_)
    refine go_blk 2 [] (pc' := 11) (vs' := [.ref (ad 0 6), .int (nI i), .int (nI m), .int a, .retAddr 0, .retAddr 0]) (st' := [.int 7, .int (nI i)]) (M' := mm M f g) (ps := []) rfl trivial ?_
    refine go_icmp rfl (fun _ => ?_) (fun (z : ¬ ((nI i) < 7)) => absurd (show (nI i) < 7 from ((nI_lts (a := i) (b := 7) (by omega) (by decide)).mpr hi7)) z)
    refine go_blk 7 [some (.ref (ad 0 13)), some (.ref (ad 2 b))] (pc' := 32) (vs' := [.ref (ad 0 6), .int (nI i), .int (nI m), .int a, .ref (ad 2 b), .int 0]) (st' := []) (M' := mm M f g) (ps := [ob (mm M f g) (ad 0 6) 5, mR (mm M f g) (ad 0 6) 3 = some (ad 0 13), va_rf (some (ad 0 13)) = .ref (ad 0 13), ob (mm M f g) (ad 0 13) 17, 17 ≤ 17 ∧ 17 < 22, vp_in (nI i) (mN (mm M f g) (ad 0 13)), mR (mm M f g) (ad 0 13) ((nI i).toNatClampNeg) = some (ad 2 b), va_rf (some (ad 2 b)) = .ref (ad 2 b)]) rfl ⟨(hF.o 6), (hF.r 6 3 13), rfl, (hF.o 13), (by decide), (vpi (hF.n 13) (show i < 7 by omega)), (cl_rf rfl (by omega) hgr), rfl, trivial⟩ ?_
    exact loop 0 (Nat.zero_le _) f hf

