/-! the class's planner: find -/
theorem s_JM_min1N {d : Nat} {M : Mem} {f : Nat → Nat → Int32} {g : Nat → Nat → Int64} {R : Option Value → Mem → Prop} {a b : Nat} (ha : a < 2 ^ 63) (hb : b < 2 ^ 63) (hR : R (some (.long (lN (min a b)))) (mm M f g)) : Call d 4 [.long (lN a), .long (lN b)] (mm M f g) R := by
  show Go d 4 0 0 0 [.long (lN a), .retAddr 1, .long (lN b), .retAddr 1] [] (mm M f g) R
  refine go_blk 3 [] (pc' := 3) (vs' := [.long (lN a), .retAddr 1, .long (lN b), .retAddr 1]) (st' := [.int (lg_cmp (lN a) (lN b))]) (M' := mm M f g) (ps := []) rfl trivial ?_
  refine go_if rfl (fun (c21 : 0 < (lg_cmp (lN a) (lN b))) => ?_) (fun (c21 : ¬ (0 < (lg_cmp (lN a) (lN b)))) => ?_)
  · -- 0 < (lg_cmp (lN a) (lN b))
    refine go_blk 1 [] (pc' := 11) (vs' := [.long (lN a), .retAddr 1, .long (lN b), .retAddr 1]) (st' := [.long (lN b)]) (M' := mm M f g) (ps := []) rfl trivial ?_
    refine go_lret rfl rfl ?_
    have e : min a b = b := by
      have := (lgG ha hb).mp c21
      omega
    rw [e] at hR
    exact hR
  · -- ¬ (0 < (lg_cmp (lN a) (lN b)))
    refine go_blk 2 [] (pc' := 11) (vs' := [.long (lN a), .retAddr 1, .long (lN b), .retAddr 1]) (st' := [.long (lN a)]) (M' := mm M f g) (ps := []) rfl trivial ?_
    refine go_lret rfl rfl ?_
    have e : min a b = a := by
      have : ¬ b < a := fun z => c21 ((lgG ha hb).mpr z)
      omega
    rw [e] at hR
    exact hR
def fnF (ad : Nat → Nat → Nat) (f : Nat → Nat → Int32) (g : Nat → Nat → Int64) (f' : Nat → Nat → Int32) (g' : Nat → Nat → Int64) : Prop := (∀ a i k, ¬ (a = 0 ∧ 20 ≤ i ∧ i ≤ 30) → ¬ (a = 0 ∧ i = 7 ∧ k = 19) → f' (ad a i) k = f (ad a i) k) ∧ ∀ a i k, ¬ (a = 0 ∧ (i = 19 ∨ i = 25 ∨ i = 28)) → ¬ (a = 0 ∧ i = 7 ∧ (k = 16 ∨ k = 17)) → g' (ad a i) k = g (ad a i) k
theorem nI_all (x : Int32) : nI x.toBitVec.toNat = x := by
  apply i32_bv
  rw [nI_bv]
  simp
theorem CVd.at0 {rc : List Nat → Nat} {ceil T c q : Nat} {C Q : Nat → Nat} (h : CVd rc ceil (Rw T) C Q) : CVd rc ceil (Rw T) (upN C 0 c) (upN Q 0 q) := by
  refine ⟨fun m hm => ?_, fun x hx hc => ?_⟩
  · rw [upN_n (by omega), upN_n (by omega)]; exact h.1 m hm
  · have := mkN_pos hx.1
    rw [upN_n (by omega), upN_n (by omega)]; exact h.2 x hx hc
theorem VE_all {T : Nat} (x : List Nat) : Rw T x ↔ VE T (fun _ => False) [] x := by
  constructor
  · exact fun h => Or.inr ⟨h, List.nil_prefix, h.1⟩
  · rintro (h | h)
    · exact h.elim
    · exact h.1
/-- the tables while team t is next -/
def TBt (p : Nat → Nat → Int32) (nt nc wk nw ceil t : Nat) (C Q : Nat → Nat → Nat) : Prop :=
  (∀ t', t' < t → CVd (rcK p nt nc wk nw t') ceil (Rw (tdL p nc wk).length) (C t') (Q t')) ∧ (∀ t', t' < 3 → C t' 0 = 0 ∧ Q t' 0 = octD 7 []) ∧ ∀ t', t ≤ t' → t' < 3 → ∀ m, 0 < m → C t' m = 2 ^ 60
def up3C (C : Nat → Nat → Nat) (t : Nat) (v : Nat → Nat) : Nat → Nat → Nat := fun t' => if t' = t then v else C t'
theorem find_team {p : Nat → Nat → Int32} {nt nc wk nw ceil t K : Nat} {ad : Nat → Nat → Nat} {C Q : Nat → Nat → Nat} {C' Q' : Nat → Nat} {f f' : Nat → Nat → Int32} {g g' : Nat → Nat → Int64} (ht : t < 3) (tb : TBm ad C Q f g) (tt : TBt p nt nc wk nw ceil t C Q) (hL : LFr ad t 0 f g f' g') (hI : LI p nt nc wk nw ad t ceil (VE (tdL p nc wk).length (fun _ => False) []) [] C' Q' K f' g') : TBm ad (up3C C t (upN C' 0 0)) (up3C Q t (upN Q' 0 (octD 7 []))) f' g' ∧ TBt p nt nc wk nw ceil (t + 1) (up3C C t (upN C' 0 0)) (up3C Q t (upN Q' 0 (octD 7 []))) := by
  obtain ⟨a1, a2, a3, a4, a5, a6⟩ := hL
  obtain ⟨t1, t2, t3⟩ := tt
  refine ⟨fun t' m ht' hm => ?_, fun t' ht' => ?_, fun t' ht' => ?_, fun t' h1 h2 m hm => ?_⟩
  · by_cases e : t' = t
    · subst e
      have u1 : up3C C t' (upN C' 0 0) t' = upN C' 0 0 := if_pos rfl
      have u2 : up3C Q t' (upN Q' 0 (octD 7 [])) t' = upN Q' 0 (octD 7 []) := if_pos rfl
      rw [u1, u2]
      by_cases z : m = 0
      · subst z
        have b := tb t' 0 ht' (by omega)
        rw [upN_s, upN_s, a6 _ (by omega), a3 _ (by omega)]
        rw [(t2 t' ht').1, (t2 t' ht').2] at b
        exact ⟨b.1, b.2.1, by omega⟩
      · rw [upN_n z, upN_n z]
        exact hI.1 m hm
    · have u1 : up3C C t (upN C' 0 0) t' = C t' := if_neg e
      have u2 : up3C Q t (upN Q' 0 (octD 7 [])) t' = Q t' := if_neg e
      rw [u1, u2, a6 _ (by omega), a3 _ (by omega)]
      exact tb t' m ht' hm
  · by_cases e : t' = t
    · subst e
      have u1 : up3C C t' (upN C' 0 0) t' = upN C' 0 0 := if_pos rfl
      have u2 : up3C Q t' (upN Q' 0 (octD 7 [])) t' = upN Q' 0 (octD 7 []) := if_pos rfl
      rw [u1, u2]
      exact (hI.2.1.congr VE_all).at0
    · have u1 : up3C C t (upN C' 0 0) t' = C t' := if_neg e
      have u2 : up3C Q t (upN Q' 0 (octD 7 [])) t' = Q t' := if_neg e
      rw [u1, u2]
      exact t1 t' (by omega)
  · by_cases e : t' = t
    · subst e
      have u1 : up3C C t' (upN C' 0 0) t' = upN C' 0 0 := if_pos rfl
      have u2 : up3C Q t' (upN Q' 0 (octD 7 [])) t' = upN Q' 0 (octD 7 []) := if_pos rfl
      rw [u1, u2, upN_s, upN_s]
      exact ⟨rfl, rfl⟩
    · have u1 : up3C C t (upN C' 0 0) t' = C t' := if_neg e
      have u2 : up3C Q t (upN Q' 0 (octD 7 [])) t' = Q t' := if_neg e
      rw [u1, u2]
      exact t2 t' ht'
  · have u1 : up3C C t (upN C' 0 0) t' = C t' := if_neg (by omega)
    rw [u1]
    exact t3 t' (by omega) h2 m hm
theorem find_ceil {p : Nat → Nat → Int32} {nt nc wk nw V1 V2 : Nat} (h1 : CeV p nt nc wk nw V1) (h2 : V2 < 2 ^ 50) (h3 : (tdL p nc wk = [] ∨ 0 < nt) → ∃ ξ, PK nt (tdL p nc wk).length ξ ∧ tcK p nt nc wk nw ξ nt = V2) : min V1 V2 < 2 ^ 50 ∧ ((tdL p nc wk = [] ∨ 0 < nt) → ∃ ξ, PK nt (tdL p nc wk).length ξ ∧ tcK p nt nc wk nw ξ nt ≤ min V1 V2) := by
  refine ⟨by omega, fun z => ?_⟩
  rcases Nat.lt_or_ge V1 V2 with y | y
  · rcases h1 with q | ⟨q1, ξ, q2, q3⟩
    · omega
    · exact ⟨ξ, q2, by omega⟩
  · obtain ⟨ξ, q2, q3⟩ := h3 z
    exact ⟨ξ, q2, by omega⟩

set_option maxHeartbeats 4000000 in
set_option maxRecDepth 100000 in
theorem s_Pl_find {d : Nat} {M : Mem} {f : Nat → Nat → Int32} {g : Nat → Nat → Int64} {ad : Nat → Nat → Nat} {R : Option Value → Mem → Prop} {p : Nat → Nat → Int32} {nt nc wk nw : Nat} {bk : Nat → Nat} (hd : 20 ≤ d) (hi : Inj ad) (hF : Fx M ad) (hT : Ts M ad nt) (nt3 : nt ≤ 3) (hP : PW p nt nc wk nw) (ce : CPl p nt nc wk M ad bk f) (hnw : nw ≤ 1440) (hw : ∀ t, t < nt → TW p wk t) (hrw : RWd p nt nc wk) (hR : ∀ B y f' g', fnF ad f g f' g' → f' (ad 0 7) 19 = 1 → g' (ad 0 7) 17 = lN B → (f' (ad 0 30) 0 = y.1 ∧ f' (ad 0 30) 1 = y.2.1 ∧ f' (ad 0 30) 2 = y.2.2) → ((tdL p nc wk = [] ∨ 0 < nt) → ∃ ξ, PK nt (tdL p nc wk).length ξ ∧ (∀ t, nt ≤ t → ξ t = []) ∧ (∀ t, (ξ t).length ≤ 7 ∧ ∀ k ∈ ξ t, k < (tdL p nc wk).length) ∧ B = tcK p nt nc wk nw ξ nt ∧ y = n3 (o3 ξ) ∧ isBest p nt nc wk nw (fun t => (ξ t).map (tdK p nc wk))) → R none (mm M f' g')) : Call d 54 [.ref (ad 0 7), .ref (ad 0 5), .ref (ad 0 3), .int (nI nw)] (mm M f g) R := by
  have T7 := td_le (p := p) (nc := nc) (wk := wk)
  have nc7 := hP.2.2.2
  obtain ⟨q, hq⟩ : ∃ q, (tdL p nc wk).length = q := ⟨_, rfl⟩
  have c2 : f (ad 0 7) 2 = nI q := by rw [← hq]; exact ce.2.2.2.2.2.1
  have c4 : f (ad 0 7) 4 = nI nt := ce.2.2.2.2.2.2.1
  obtain ⟨A, hA⟩ : ∃ A, 2 ^ q = A + 1 := ⟨2 ^ q - 1, by have := Nat.two_pow_pos q; omega⟩
  have o7 : (2097151 : Int32) = nI (octD 7 []) := by rw [octD_nil]; rfl
  have n0 : ∀ i j, ¬ i = j → ¬ ad 0 i = ad 0 j := fun i j z y => z (hi _ _ _ _ y).2
  have teams : ∀ ceil, ceil < 2 ^ 50 → ((tdL p nc wk = [] ∨ 0 < nt) → ∃ ξ, PK nt (tdL p nc wk).length ξ ∧ tcK p nt nc wk nw ξ nt ≤ ceil) → ∀ t, t ≤ nt → ∀ (f' : Nat → Nat → Int32) (g' : Nat → Nat → Int64) (C Q : Nat → Nat → Nat), ((∀ a i k, ¬ (a = 0 ∧ 20 ≤ i ∧ i ≤ 30) → f' (ad a i) k = f (ad a i) k) ∧ (∀ a i k, ¬ (a = 0 ∧ (i = 19 ∨ i = 25 ∨ i = 28)) → ¬ (a = 0 ∧ i = 7 ∧ k = 16) → g' (ad a i) k = g (ad a i) k)) → g' (ad 0 7) 16 = lN ceil → TBm ad C Q f' g' → TBt p nt nc wk nw ceil t C Q → Go d 54 0 0 74 [.ref (ad 0 7), .ref (ad 0 5), .ref (ad 0 3), .int (nI nw), .int (nI t)] [] (mm M f' g') R := by
    intro ceil hc5 hcx
    refine up_ind (P := fun t => ∀ (f' : Nat → Nat → Int32) (g' : Nat → Nat → Int64) (C Q : Nat → Nat → Nat), ((∀ a i k, ¬ (a = 0 ∧ 20 ≤ i ∧ i ≤ 30) → f' (ad a i) k = f (ad a i) k) ∧ (∀ a i k, ¬ (a = 0 ∧ (i = 19 ∨ i = 25 ∨ i = 28)) → ¬ (a = 0 ∧ i = 7 ∧ k = 16) → g' (ad a i) k = g (ad a i) k)) → g' (ad 0 7) 16 = lN ceil → TBm ad C Q f' g' → TBt p nt nc wk nw ceil t C Q → Go d 54 0 0 74 [.ref (ad 0 7), .ref (ad 0 5), .ref (ad 0 3), .int (nI nw), .int (nI t)] [] (mm M f' g') R) nt (fun f' g' C Q k1 k2 k3 k4 => ?_) (fun t ht ih f' g' C Q k1 k2 k3 k4 => ?_)
    · have tbl : TBL p nt nc wk nw ceil C Q := k4
      show Go d 54 0 0 74 [.ref (ad 0 7), .ref (ad 0 5), .ref (ad 0 3), .int (nI nw), .int (nI nt)] [] (mm M f' g') R
      refine go_blk 3 [some (.int (nI nt))] (pc' := 80) (vs' := [.ref (ad 0 7), .ref (ad 0 5), .ref (ad 0 3), .int (nI nw), .int (nI nt)]) (st' := [.int (nI nt), .int (nI nt)]) (M' := mm M f' g') (ps := [ob (mm M f' g') (ad 0 7) 6, (Value.int (f' (ad 0 7) 4)) = .int (nI nt)]) rfl ⟨(hF.o 7), congrArg Value.int ((k1.1 0 7 4 (by omega)).trans c4), trivial⟩ ?_
      refine go_icmp rfl (fun _ => ?_) (fun (z : ¬ (nI nt ≤ (nI nt))) => absurd (show nI nt ≤ (nI nt) from Int32.le_refl _) z)
      refine go_blk 1 [] (pc' := 127) (vs' := [.ref (ad 0 7), .ref (ad 0 5), .ref (ad 0 3), .int (nI nw), .int (nI nt)]) (st' := [.ref (ad 0 7)]) (M' := mm M f' g') (ps := []) rfl trivial ?_
      refine go_callV rfl rfl rfl (by omega) rfl (by decide) (by decide) (hF.o 7) ?_
      refine s_Pl_share (C := C) (Q := Q) (ceil := ceil) (T := q) (A := A) (by omega) hi hF (by omega) k3 (tbl.hQ hP (by omega)) (by omega) hA ((k1.1 0 7 2 (by omega)).trans c2) k2 (fun B2 y2 hV => ⟨ne_v, ?_⟩)
      · -- ('v',)
        show Go d 54 0 0 130 [.ref (ad 0 7), .ref (ad 0 5), .ref (ad 0 3), .int (nI nw), .int (nI nt)] [] (mm M (brF ad f' y2) (up2 g' (ad 0 7) 17 (lN B2))) R
        refine go_blk 3 [] (pc' := 135) (vs' := [.ref (ad 0 7), .ref (ad 0 5), .ref (ad 0 3), .int (nI nw), .int (nI nt)]) (st' := []) (M' := mm M (up2 (brF ad f' y2) (ad 0 7) 19 1) (up2 g' (ad 0 7) 17 (lN B2))) (ps := [ob (mm M (brF ad f' y2) (up2 g' (ad 0 7) 17 (lN B2))) (ad 0 7) 6, 1 = 0 ∨ 1 = 1]) rfl ⟨(hF.o 7), (Or.inr rfl), trivial⟩ ?_
        refine go_vret rfl rfl ?_
        refine hR B2 y2 _ _ ⟨fun a i k z1 z2 => ?_, fun a i k z1 z2 => ?_⟩ (up2_s _ _ _ _) (up2_s _ _ _ _) ?_ (fun z => class_best hP nt3 (by rw [hq]; exact hA) (by omega) tbl (hcx z) hV)
        · rw [up2_n _ _ (fun y => z2 ⟨(hi _ _ _ _ y.1).1, (hi _ _ _ _ y.1).2, y.2⟩), brF_n hi (by omega)]; exact k1.1 a i k z1
        · rw [up2_n _ _ (fun y => z2 ⟨(hi _ _ _ _ y.1).1, (hi _ _ _ _ y.1).2, Or.inr y.2⟩)]; exact k1.2 a i k z1 (by omega)
        · rw [up2_n _ _ (fun y => n0 30 7 (by decide) y.1), up2_n _ _ (fun y => n0 30 7 (by decide) y.1), up2_n _ _ (fun y => n0 30 7 (by decide) y.1)]; exact brF_0
    · have pf1 : plF ad f (fil (ad 0 29) 896 0 f') := fun a i k z => by
        rw [fil_n (fun y => z (by have := hi _ _ _ _ y.1; omega))]; exact k1.1 a i k z
      have ce1 := ce.tr pf1
      obtain ⟨f1, hf1⟩ : ∃ f1, up2 (pbF ad (fil (ad 0 29) 896 0 f') 0 (s0N p wk nw t)) (ad 0 24) 0 2097151 = f1 := ⟨_, rfl⟩
      obtain ⟨g1, hg1⟩ : ∃ g1, up2 g' (ad 0 25) 0 (lN 0) = g1 := ⟨_, rfl⟩
      have n1 : ∀ a i k, ¬ (a = 0 ∧ ((21 ≤ i ∧ i ≤ 24) ∨ i = 29)) → f1 (ad a i) k = f' (ad a i) k := fun a i k z => by
        rw [← hf1, up2_n _ _ (fun y => z (by have := hi _ _ _ _ y.1; omega))]
        unfold pbF
        rw [up2_n _ _ (fun y => z (by have := hi _ _ _ _ y.1; omega)), up2_n _ _ (fun y => z (by have := hi _ _ _ _ y.1; omega)), up2_n _ _ (fun y => z (by have := hi _ _ _ _ y.1; omega)), fil_n (fun y => z (by have := hi _ _ _ _ y.1; omega))]
      have m1 : ∀ a i k, ¬ (a = 0 ∧ i = 25) → g1 (ad a i) k = g' (ad a i) k := fun a i k z => by rw [← hg1, up2_n _ _ (fun y => z (hi _ _ _ _ y.1))]
      have A1 : SA ad f1 g1 0 (s0N p wk nw t) 0 := by
        obtain ⟨x1, x2, x3, x4⟩ := SA.pb (ad := ad) (f := fil (ad 0 29) 896 0 f') (g := g') (i := 0) (C := 0) (s := s0N p wk nw t) hi
        rw [← hf1, ← hg1]
        exact ⟨by rw [up2_n _ _ (fun y => n0 21 24 (by decide) y.1)]; exact x1, by rw [up2_n _ _ (fun y => n0 22 24 (by decide) y.1)]; exact x2, by rw [up2_n _ _ (fun y => n0 23 24 (by decide) y.1)]; exact x3, x4⟩
      have P1 : f1 (ad 0 24) 0 = nI (octD 7 []) := by rw [← hf1, up2_s]; exact o7
      have TB1 : TBm ad C Q f1 g1 := fun t' m h1 h2 => by rw [m1 0 19 _ (by omega), n1 0 20 _ (by omega)]; exact k3 t' m h1 h2
      have LB : ∀ J, J < 896 → f1 (ad 0 29) J = nI 0 := fun J hJ => by
        rw [← hf1, up2_n _ _ (fun y => n0 29 24 (by decide) y.1)]
        unfold pbF
        rw [up2_n _ _ (fun y => n0 29 23 (by decide) y.1), up2_n _ _ (fun y => n0 29 22 (by decide) y.1), up2_n _ _ (fun y => n0 29 21 (by decide) y.1), fil_at hJ]; rfl
      have LI1 : LI p nt nc wk nw ad t ceil (fun _ => False) [] (C t) (Q t) 0 f1 g1 := ⟨fun m hm => TB1 t m (by omega) hm, ⟨fun m hm => Or.inl (k4.2.2 t (Nat.le_refl _) (by omega) m hm), fun x hx => hx.elim⟩, fun J hJ => ⟨0, Nat.le_refl _, LB J hJ, fun i hi0 => absurd hi0 (by omega)⟩⟩
      have ce2 := ce.tr (show plF ad f f1 from fun a i k z => (n1 a i k (by omega)).trans (k1.1 a i k z))
      have g16 : g1 (ad 0 7) 16 = lN ceil := (m1 0 7 16 (by omega)).trans k2
      show Go d 54 0 0 74 [.ref (ad 0 7), .ref (ad 0 5), .ref (ad 0 3), .int (nI nw), .int (nI t)] [] (mm M f' g') R
      refine go_blk 3 [some (.int (nI nt))] (pc' := 80) (vs' := [.ref (ad 0 7), .ref (ad 0 5), .ref (ad 0 3), .int (nI nw), .int (nI t)]) (st' := [.int (nI nt), .int (nI t)]) (M' := mm M f' g') (ps := [ob (mm M f' g') (ad 0 7) 6, (Value.int (f' (ad 0 7) 4)) = .int (nI nt)]) rfl ⟨(hF.o 7), congrArg Value.int ((k1.1 0 7 4 (by omega)).trans c4), trivial⟩ ?_
      refine go_icmp rfl (fun (z : nI nt ≤ (nI t)) => absurd z (show ¬ (nI nt ≤ (nI t)) from (Int32.not_le.mpr ((nI_lts (a := t) (b := nt) (by omega) (by omega)).mpr ht)))) (fun _ => ?_)
      refine go_blk 3 [some (.ref (ad 0 29))] (pc' := 88) (vs' := [.ref (ad 0 7), .ref (ad 0 5), .ref (ad 0 3), .int (nI nw), .int (nI t)]) (st' := [.int 0, .ref (ad 0 29)]) (M' := mm M f' g') (ps := [ob (mm M f' g') (ad 0 7) 6, mR (mm M f' g') (ad 0 7) 15 = some (ad 0 29), va_rf (some (ad 0 29)) = .ref (ad 0 29)]) rfl ⟨(hF.o 7), (hF.r 7 15 29), rfl, trivial⟩ ?_
      refine go_callS rfl (by decide) rfl rfl (by omega) rfl (by decide) (by decide) ?_
      refine s_JA_fill0 (ad := ad) (N := 896) (by omega) (hF.o 29) (hF.n 29) (by decide) ⟨ne_v, ?_⟩
      show Go d 54 0 0 91 [.ref (ad 0 7), .ref (ad 0 5), .ref (ad 0 3), .int (nI nw), .int (nI t)] [] (mm M (fil (ad 0 29) 896 0 f') g') R
      refine go_blk 7 [some (.ref (ad 3 t))] (pc' := 99) (vs' := [.ref (ad 0 7), .ref (ad 0 5), .ref (ad 0 3), .int (nI nw), .int (nI t)]) (st' := [.int (nI nw), .ref (ad 0 5), .int 0, .ref (ad 3 t), .ref (ad 0 7)]) (M' := mm M (fil (ad 0 29) 896 0 f') g') (ps := [ob (mm M (fil (ad 0 29) 896 0 f') g') (ad 0 3) 20, 17 ≤ 20 ∧ 20 < 22, vp_in (nI t) (mN (mm M (fil (ad 0 29) 896 0 f') g') (ad 0 3)), mR (mm M (fil (ad 0 29) 896 0 f') g') (ad 0 3) ((nI t).toNatClampNeg) = some (ad 3 t), va_rf (some (ad 3 t)) = .ref (ad 3 t)]) rfl ⟨(hF.o 3), (by decide), (vpi (hF.n 3) (show _ < 3 by omega)), (cl_rf rfl (by omega) (hT t (by assumption)).1), rfl, trivial⟩ ?_
      refine go_callV rfl rfl rfl (by omega) rfl (by decide) (by decide) (hF.o 7) ?_
      refine s_Pl_start (t := t) (aa := 0) (by omega) hi hF hT nt3 hP ce1 ht (by omega) hnw (hw t ht) ⟨ne_v, ?_⟩
      show Go d 54 0 0 102 [.ref (ad 0 7), .ref (ad 0 5), .ref (ad 0 3), .int (nI nw), .int (nI t)] [] (mm M (pbF ad (fil (ad 0 29) 896 0 f') 0 (s0N p wk nw t)) (up2 g' (ad 0 25) 0 (lN 0))) R
      refine go_blk 11 [some (.ref (ad 0 24)), some (.ref (ad 3 t))] (pc' := 117) (vs' := [.ref (ad 0 7), .ref (ad 0 5), .ref (ad 0 3), .int (nI nw), .int (nI t)]) (st' := [.int 0, .int 0, .ref (ad 3 t), .ref (ad 0 7)]) (M' := mm M (up2 (pbF ad (fil (ad 0 29) 896 0 f') 0 (s0N p wk nw t)) (ad 0 24) ((0 : Int32).toNatClampNeg) 2097151) (up2 g' (ad 0 25) 0 (lN 0))) (ps := [ob (mm M (pbF ad (fil (ad 0 29) 896 0 f') 0 (s0N p wk nw t)) (up2 g' (ad 0 25) 0 (lN 0))) (ad 0 7) 6, mR (mm M (pbF ad (fil (ad 0 29) 896 0 f') 0 (s0N p wk nw t)) (up2 g' (ad 0 25) 0 (lN 0))) (ad 0 7) 10 = some (ad 0 24), va_rf (some (ad 0 24)) = .ref (ad 0 24), ob (mm M (pbF ad (fil (ad 0 29) 896 0 f') 0 (s0N p wk nw t)) (up2 g' (ad 0 25) 0 (lN 0))) (ad 0 24) 15, vp_in 0 (mN (mm M (pbF ad (fil (ad 0 29) 896 0 f') 0 (s0N p wk nw t)) (up2 g' (ad 0 25) 0 (lN 0))) (ad 0 24)), ob (mm M (up2 (pbF ad (fil (ad 0 29) 896 0 f') 0 (s0N p wk nw t)) (ad 0 24) ((0 : Int32).toNatClampNeg) 2097151) (up2 g' (ad 0 25) 0 (lN 0))) (ad 0 3) 20, 17 ≤ 20 ∧ 20 < 22, vp_in (nI t) (mN (mm M (up2 (pbF ad (fil (ad 0 29) 896 0 f') 0 (s0N p wk nw t)) (ad 0 24) ((0 : Int32).toNatClampNeg) 2097151) (up2 g' (ad 0 25) 0 (lN 0))) (ad 0 3)), mR (mm M (up2 (pbF ad (fil (ad 0 29) 896 0 f') 0 (s0N p wk nw t)) (ad 0 24) ((0 : Int32).toNatClampNeg) 2097151) (up2 g' (ad 0 25) 0 (lN 0))) (ad 0 3) ((nI t).toNatClampNeg) = some (ad 3 t), va_rf (some (ad 3 t)) = .ref (ad 3 t)]) rfl ⟨(hF.o 7), (hF.r 7 10 24), rfl, (hF.o 24), (vp_eq (show (0 : Int32) = nI 0 from rfl) (vpi (hF.n 24) (show _ < 8 by omega))), (hF.o 3), (by decide), (vpi (hF.n 3) (show _ < 3 by omega)), (cl_rf rfl (by omega) (hT t (by assumption)).1), rfl, trivial⟩ ?_
      rw [cl_of (x := 0) (show (0 : Int32) = nI 0 from rfl) (by omega)]
      rw [hf1, hg1]
      refine go_callV rfl rfl rfl (by omega) rfl (by decide) (by decide) (hF.o 7) ?_
      refine s_Pl_lengthen (ceil := ceil) hi hF hT nt3 hP ht (by omega) 8 (d - 1) [] (fun _ => False) (C t) (Q t) 0 f1 g1 _ (by decide) (by omega) List.Pairwise.nil (fun k hk => (by cases hk)) ce2 A1 P1 g16 LI1 (fun x hx => hx.elim) (fun x hx => hx.elim) (by decide) (fun f2 g2 C2 Q2 e1 e2 => ⟨ne_v, ?_⟩)
      · -- ('v',)
        show Go d 54 0 0 120 [.ref (ad 0 7), .ref (ad 0 5), .ref (ad 0 3), .int (nI nw), .int (nI t)] [] (mm M f2 g2) R
        refine go_blk 2 [] (pc' := 74) (vs' := [.ref (ad 0 7), .ref (ad 0 5), .ref (ad 0 3), .int (nI nw), .int ((nI t) + 1)]) (st' := []) (M' := mm M f2 g2) (ps := []) rfl trivial ?_
        obtain ⟨tb2, tt2⟩ := find_team (by omega) TB1 k4 e1 e2
        rw [show nI t + 1 = nI (t + 1) from nI_add t 1]
        refine ih f2 g2 _ _ ⟨fun a i k z => ?_, fun a i k z1 z2 => ?_⟩ ((e1.2.2.2.1 0 7 16 (by omega)).trans g16) tb2 tt2
        · rw [e1.1 a i k (by omega), n1 a i k (by omega)]; exact k1.1 a i k z
        · rw [e1.2.2.2.1 a i k (by omega), m1 a i k (by omega)]; exact k1.2 a i k z1 z2
  have init : ∀ t, t ≤ 3 → ∀ (f' : Nat → Nat → Int32) (g' : Nat → Nat → Int64), (∀ a i k, ¬ (a = 0 ∧ i = 20) → f' (ad a i) k = f (ad a i) k) → (∀ t', t' < t → f' (ad 0 20) (128 * t') = nI (octD 7 [])) → (∀ a i k, ¬ (a = 0 ∧ i = 19) → g' (ad a i) k = g (ad a i) k) → (∀ k, k < 384 → (∀ t', t' < t → ¬ k = 128 * t') → g' (ad 0 19) k = lN (2 ^ 60)) → (∀ t', t' < t → g' (ad 0 19) (128 * t') = lN 0) → Go d 54 0 0 13 [.ref (ad 0 7), .ref (ad 0 5), .ref (ad 0 3), .int (nI nw), .int (nI t)] [] (mm M f' g') R := by
    refine up_ind (P := fun t => ∀ (f' : Nat → Nat → Int32) (g' : Nat → Nat → Int64), (∀ a i k, ¬ (a = 0 ∧ i = 20) → f' (ad a i) k = f (ad a i) k) → (∀ t', t' < t → f' (ad 0 20) (128 * t') = nI (octD 7 [])) → (∀ a i k, ¬ (a = 0 ∧ i = 19) → g' (ad a i) k = g (ad a i) k) → (∀ k, k < 384 → (∀ t', t' < t → ¬ k = 128 * t') → g' (ad 0 19) k = lN (2 ^ 60)) → (∀ t', t' < t → g' (ad 0 19) (128 * t') = lN 0) → Go d 54 0 0 13 [.ref (ad 0 7), .ref (ad 0 5), .ref (ad 0 3), .int (nI nw), .int (nI t)] [] (mm M f' g') R) 3 (fun f' g' k1 k2 k3 k4 k5 => ?_) (fun t hlt ih f' g' k1 k2 k3 k4 k5 => ?_)
    · have ce1 := ce.tr (show plF ad f f' from fun a i k z => k1 a i k (by omega))
      show Go d 54 0 0 13 [.ref (ad 0 7), .ref (ad 0 5), .ref (ad 0 3), .int (nI nw), .int (nI 3)] [] (mm M f' g') R
      refine go_blk 2 [] (pc' := 16) (vs' := [.ref (ad 0 7), .ref (ad 0 5), .ref (ad 0 3), .int (nI nw), .int (nI 3)]) (st' := [.int 3, .int (nI 3)]) (M' := mm M f' g') (ps := []) rfl trivial ?_
      refine go_icmp rfl (fun _ => ?_) (fun (z : ¬ (3 ≤ (nI 3))) => absurd (show 3 ≤ (nI 3) from (by decide)) z)
      refine go_blk 5 [] (pc' := 55) (vs' := [.ref (ad 0 7), .ref (ad 0 5), .ref (ad 0 3), .int (nI nw), .int (nI 3)]) (st' := [.int (nI nw), .ref (ad 0 3), .ref (ad 0 5), .ref (ad 0 7), .ref (ad 0 7)]) (M' := mm M f' g') (ps := []) rfl trivial ?_
      refine go_callV rfl rfl rfl (by omega) rfl (by decide) (by decide) (hF.o 7) ?_
      refine s_Pl_costAtHand (by omega) hi hF hT nt3 hP ce1 hnw hw hrw (fun V1 f1 g1 a1 a2 => ⟨ne_l, ?_⟩)
      · -- ('j', 'lN V1')
        have ce2 := ce1.tr a1.plF
        show Go d 54 0 0 58 [.ref (ad 0 7), .ref (ad 0 5), .ref (ad 0 3), .int (nI nw), .int (nI 3)] [.long (lN V1), .ref (ad 0 7)] (mm M f1 g1) R
        refine go_blk 4 [] (pc' := 62) (vs' := [.ref (ad 0 7), .ref (ad 0 5), .ref (ad 0 3), .int (nI nw), .int (nI 3)]) (st' := [.int (nI nw), .ref (ad 0 3), .ref (ad 0 5), .ref (ad 0 7), .long (lN V1), .ref (ad 0 7)]) (M' := mm M f1 g1) (ps := []) rfl trivial ?_
        refine go_callV rfl rfl rfl (by omega) rfl (by decide) (by decide) (hF.o 7) ?_
        refine s_Pl_costInHaste (by omega) hi hF hT nt3 hP ce2 hnw hw (fun V2 f2 g2 b1 b2 b3 => ⟨ne_l, ?_⟩)
        · -- ('j', 'lN V2')
          obtain ⟨cl1, cl2⟩ := find_ceil a2 b2 b3
          have V1b : V1 < 2 ^ 63 := by
            rcases a2 with z | z
            · omega
            · have := z.1; omega
          have F2 : hsF ad f' g' f2 g2 := a1.trans b1
          show Go d 54 0 0 65 [.ref (ad 0 7), .ref (ad 0 5), .ref (ad 0 3), .int (nI nw), .int (nI 3)] [.long (lN V2), .long (lN V1), .ref (ad 0 7)] (mm M f2 g2) R
          refine go_callS rfl (by decide) rfl rfl (by omega) rfl (by decide) (by decide) ?_
          refine s_JM_min1N V1b (by omega) ⟨ne_l, ?_⟩
          show Go d 54 0 0 68 [.ref (ad 0 7), .ref (ad 0 5), .ref (ad 0 3), .int (nI nw), .int (nI 3)] [.long (lN (min V1 V2)), .ref (ad 0 7)] (mm M f2 g2) R
          refine go_blk 3 [] (pc' := 74) (vs' := [.ref (ad 0 7), .ref (ad 0 5), .ref (ad 0 3), .int (nI nw), .int 0]) (st' := []) (M' := mm M f2 (up2 g2 (ad 0 7) 16 (lN (min V1 V2)))) (ps := [ob (mm M f2 g2) (ad 0 7) 6]) rfl ⟨(hF.o 7), trivial⟩ ?_
          refine teams (min V1 V2) cl1 cl2 0 (Nat.zero_le _) _ _ (fun t m => if m = 0 then 0 else 2 ^ 60) (fun t m => if m = 0 then octD 7 [] else (f2 (ad 0 20) (128 * t + m)).toBitVec.toNat) ⟨fun a i k z => (F2.1 a i k (by omega)).trans (k1 a i k (by omega)), fun a i k z1 z2 => ?_⟩ (up2_s _ _ _ _) (fun t m h1 h2 => ⟨?_, ?_, ?_⟩) ⟨fun t' ht' => absurd ht' (by omega), fun t' ht' => ⟨if_pos rfl, if_pos rfl⟩, fun t' _ _ m hm => if_neg (by omega)⟩
          · rw [up2_n _ _ (fun y => z2 ⟨(hi _ _ _ _ y.1).1, (hi _ _ _ _ y.1).2, y.2⟩), F2.2 a i k (by omega)]; exact k3 a i k (by omega)
          · rw [up2_n _ _ (fun y => n0 19 7 (by decide) y.1), F2.2 0 19 _ (by omega)]
            show g' (ad 0 19) (128 * t + m) = lN (if m = 0 then 0 else 2 ^ 60)
            by_cases e : m = 0
            · rw [e, if_pos rfl]; exact k5 t h1
            · rw [if_neg e]; exact k4 _ (by omega) (fun t' ht' => by omega)
          · show f2 (ad 0 20) (128 * t + m) = nI (if m = 0 then octD 7 [] else (f2 (ad 0 20) (128 * t + m)).toBitVec.toNat)
            by_cases e : m = 0
            · rw [e, if_pos rfl, F2.1 0 20 _ (by omega)]; exact k2 t h1
            · rw [if_neg e, nI_all]
          · show (if m = 0 then 0 else 2 ^ 60) ≤ 2 ^ 60
            by_cases e : m = 0
            · rw [if_pos e]; exact Nat.zero_le _
            · rw [if_neg e]; exact Nat.le_refl _
    ·
      show Go d 54 0 0 13 [.ref (ad 0 7), .ref (ad 0 5), .ref (ad 0 3), .int (nI nw), .int (nI t)] [] (mm M f' g') R
      refine go_blk 2 [] (pc' := 16) (vs' := [.ref (ad 0 7), .ref (ad 0 5), .ref (ad 0 3), .int (nI nw), .int (nI t)]) (st' := [.int 3, .int (nI t)]) (M' := mm M f' g') (ps := []) rfl trivial ?_
      refine go_icmp rfl (fun (z : 3 ≤ (nI t)) => absurd z (show ¬ (3 ≤ (nI t)) from (Int32.not_le.mpr ((nI_lts (a := t) (b := 3) (by omega) (by decide)).mpr hlt)))) (fun _ => ?_)
      refine go_blk 16 [some (.ref (ad 0 19)), some (.ref (ad 0 20))] (pc' := 13) (vs' := [.ref (ad 0 7), .ref (ad 0 5), .ref (ad 0 3), .int (nI nw), .int ((nI t) + 1)]) (st' := []) (M' := mm M (up2 f' (ad 0 20) (((nI t) * 128).toNatClampNeg) 2097151) (up2 g' (ad 0 19) (((nI t) * 128).toNatClampNeg) 0)) (ps := [ob (mm M f' g') (ad 0 7) 6, mR (mm M f' g') (ad 0 7) 5 = some (ad 0 19), va_rf (some (ad 0 19)) = .ref (ad 0 19), ob (mm M f' g') (ad 0 19) 16, vp_in ((nI t) * 128) (mN (mm M f' g') (ad 0 19)), ob (mm M f' (up2 g' (ad 0 19) (((nI t) * 128).toNatClampNeg) 0)) (ad 0 7) 6, mR (mm M f' (up2 g' (ad 0 19) (((nI t) * 128).toNatClampNeg) 0)) (ad 0 7) 6 = some (ad 0 20), va_rf (some (ad 0 20)) = .ref (ad 0 20), ob (mm M f' (up2 g' (ad 0 19) (((nI t) * 128).toNatClampNeg) 0)) (ad 0 20) 15, vp_in ((nI t) * 128) (mN (mm M f' (up2 g' (ad 0 19) (((nI t) * 128).toNatClampNeg) 0)) (ad 0 20))]) rfl ⟨(hF.o 7), (hF.r 7 5 19), rfl, (hF.o 19), (vp_eq (eq_mul rfl (show (128 : Int32) = nI 128 from rfl)) (vpi (hF.n 19) (show _ < 384 by omega))), (hF.o 7), (hF.r 7 6 20), rfl, (hF.o 20), (vp_eq (eq_mul rfl (show (128 : Int32) = nI 128 from rfl)) (vpi (hF.n 20) (show _ < 384 by omega))), trivial⟩ ?_
      rw [cl_of (x := (t * 128)) (eq_mul rfl (show (128 : Int32) = nI 128 from rfl)) (by omega)]
      rw [show nI t + 1 = nI (t + 1) from nI_add t 1, o7]
      refine ih _ _ (fun a i k z => ?_) (fun t' ht' => ?_) (fun a i k z => ?_) (fun k hk hz => ?_) (fun t' ht' => ?_)
      · rw [up2_n _ _ (fun y => z (hi _ _ _ _ y.1))]; exact k1 a i k z
      · by_cases e : t' = t
        · rw [e, show t * 128 = 128 * t by omega, up2_s]
        · rw [up2_n _ _ (fun y => e (by have := y.2; omega))]; exact k2 t' (by omega)
      · rw [up2_n _ _ (fun y => z (hi _ _ _ _ y.1))]; exact k3 a i k z
      · rw [up2_n _ _ (fun y => hz t (by omega) (by have := y.2; omega))]; exact k4 k hk (fun t' ht' => hz t' (by omega))
      · by_cases e : t' = t
        · rw [e, show t * 128 = 128 * t by omega, up2_s]; rfl
        · rw [up2_n _ _ (fun y => e (by have := y.2; omega))]; exact k5 t' (by omega)
  show Go d 54 0 0 0 [.ref (ad 0 7), .ref (ad 0 5), .ref (ad 0 3), .int (nI nw), .retAddr 0] [] (mm M f g) R
  refine go_blk 3 [some (.ref (ad 0 19))] (pc' := 7) (vs' := [.ref (ad 0 7), .ref (ad 0 5), .ref (ad 0 3), .int (nI nw), .retAddr 0]) (st' := [.long 1152921504606846976, .ref (ad 0 19)]) (M' := mm M f g) (ps := [ob (mm M f g) (ad 0 7) 6, mR (mm M f g) (ad 0 7) 5 = some (ad 0 19), va_rf (some (ad 0 19)) = .ref (ad 0 19)]) rfl ⟨(hF.o 7), (hF.r 7 5 19), rfl, trivial⟩ ?_
  refine go_callS rfl (by decide) rfl rfl (by omega) rfl (by decide) (by decide) ?_
  refine s_JA_fill1 (ad := ad) (N := 384) (by omega) (hF.o 19) (hF.n 19) (by decide) ⟨ne_v, ?_⟩
  show Go d 54 0 0 10 [.ref (ad 0 7), .ref (ad 0 5), .ref (ad 0 3), .int (nI nw), .retAddr 0] [] (mm M f (fil (ad 0 19) 384 1152921504606846976 g)) R
  refine go_blk 2 [] (pc' := 13) (vs' := [.ref (ad 0 7), .ref (ad 0 5), .ref (ad 0 3), .int (nI nw), .int 0]) (st' := []) (M' := mm M f (fil (ad 0 19) 384 1152921504606846976 g)) (ps := []) rfl trivial ?_
  exact init 0 (Nat.zero_le _) f _ (fun _ _ _ _ => rfl) (fun t' ht' => absurd ht' (by omega)) (fun a i k z => fil_n (fun y => z (hi _ _ _ _ y.1))) (fun k hk _ => fil_at hk) (fun t' ht' => absurd ht' (by omega))

