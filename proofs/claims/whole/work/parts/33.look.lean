/-! lookups: weeks to come, stays, jobs -/
theorem cl_rf {M : Mem} {q x : Nat} {a : Int32} {r : Option Nat} (h : a = nI x) (hx : x < 2 ^ 31) (hr : mR M q x = r) : mR M q a.toNatClampNeg = r := by rw [cl_of h hx]; exact hr
theorem wk_in {x : Int32} : (0 ≤ x ∧ x ≤ 51) ↔ ∃ w, w < 52 ∧ x = nI w := in_lt (n := 52) (by decide)
theorem nI_b1 {x : Int32} {w : Nat} (hw : w < 52) (h : x - 1 = nI w) : x = nI (w + 1) := by
  have h2 : x = nI w + 1 := by rw [← h]; exact (Int32.sub_add_cancel x 1).symm
  rw [h2]
  exact nI_add w 1
theorem nI_s1 {w : Nat} : nI (w + 1) - 1 = nI w := nI_pred w

theorem s_CY_isWeekK {d : Nat} {M : Mem} {f : Nat → Nat → Int32} {g : Nat → Nat → Int64} {R : Option Value → Mem → Prop} {x : Int32} (hd : 1 ≤ d) (h1 : ∀ k, k < 52 → x = nI k → R (some (.int 1)) (mm M f g)) (h0 : ¬ (∃ k, k < 52 ∧ x = nI k) → R (some (.int 0)) (mm M f g)) : Call d 160 [.int x] (mm M f g) R :=
  s_CY_isWeek hd (fun c => by obtain ⟨w, hw, hx⟩ := wk_in.mp c; exact h1 w hw hx) (fun c => h0 (fun hq => c (wk_in.mpr hq)))
theorem s_CY_isToComeK {d : Nat} {M : Mem} {f : Nat → Nat → Int32} {g : Nat → Nat → Int64} {ad : Nat → Nat → Nat} {R : Option Value → Mem → Prop} {x : Int32} {wk lo : Nat} (hd : 2 ≤ d) (hF : Fx M ad) (hw : f (ad 0 0) 7 = nI wk) (hwk : wk ≤ 52) (ho : (f (ad 0 0) 8 = 0 ∧ lo = wk) ∨ (f (ad 0 0) 8 = 1 ∧ lo = wk + 1)) (h1 : ∀ k, lo ≤ k → k ≤ 51 → x = nI k → R (some (.int 1)) (mm M f g)) (h0 : ¬ (∃ k, lo ≤ k ∧ k ≤ 51 ∧ x = nI k) → R (some (.int 0)) (mm M f g)) : Call d 161 [.ref (ad 0 0), .int x] (mm M f g) R := by
  have k51 : (51 : Int32) = nI 51 := rfl
  have k0 : (0 : Int32) = nI 0 := rfl
  have key : ((0 ≤ x ∧ x ≤ 51) ∧ (¬ f (ad 0 0) 8 = 0 → f (ad 0 0) 7 < x) ∧ (f (ad 0 0) 8 = 0 → f (ad 0 0) 7 ≤ x)) ↔ ∃ k, lo ≤ k ∧ k ≤ 51 ∧ x = nI k := by
    rw [wk_in, hw]
    constructor
    · rintro ⟨⟨k, hk, rfl⟩, q1, q2⟩
      refine ⟨k, ?_, by omega, rfl⟩
      rcases ho with ⟨o1, rfl⟩ | ⟨o1, rfl⟩
      · exact (nI_les (by omega) (by omega)).mp (q2 o1)
      · exact (nI_lts (by omega) (by omega)).mp (q1 (by rw [o1]; decide))
    · rintro ⟨k, k1, k2, rfl⟩
      refine ⟨⟨k, by omega, rfl⟩, fun q => ?_, fun q => ?_⟩
      · rcases ho with ⟨o1, rfl⟩ | ⟨o1, rfl⟩
        · exact absurd o1 q
        · exact (nI_lts (by omega) (by omega)).mpr (by omega)
      · rcases ho with ⟨o1, rfl⟩ | ⟨o1, rfl⟩
        · exact (nI_les (by omega) (by omega)).mpr k1
        · rw [o1] at q; exact absurd q (by decide)
  exact s_CY_isToCome hd hF (fun c => by obtain ⟨k, k1, k2, k3⟩ := key.mp c; exact h1 k k1 k2 k3) (fun c => h0 (fun hq => c (key.mpr hq)))
theorem s_Mo_isAheadK {d : Nat} {M : Mem} {f : Nat → Nat → Int32} {g : Nat → Nat → Int64} {ad : Nat → Nat → Nat} {R : Option Value → Mem → Prop} {x : Int32} {wk lo : Nat} (hd : 1 ≤ d) (hM : Mx M ad) (hw : f (ad 10 0) 19 = nI wk) (hwk : wk ≤ 52) (ho : (f (ad 10 0) 21 = 0 ∧ lo = wk) ∨ (f (ad 10 0) 21 = 1 ∧ lo = wk + 1)) (h1 : ∀ k, lo ≤ k → k ≤ 51 → x = nI k → R (some (.int 1)) (mm M f g)) (h0 : ¬ (∃ k, lo ≤ k ∧ k ≤ 51 ∧ x = nI k) → R (some (.int 0)) (mm M f g)) : Call d 190 [.ref (ad 10 0), .int x] (mm M f g) R := by
  have key : ((if f (ad 10 0) 21 = 0 then f (ad 10 0) 19 else f (ad 10 0) 19 + 1) ≤ x ∧ x ≤ 51) ↔ ∃ k, lo ≤ k ∧ k ≤ 51 ∧ x = nI k := by
    have e : (if f (ad 10 0) 21 = 0 then f (ad 10 0) 19 else f (ad 10 0) 19 + 1) = nI lo := by
      rcases ho with ⟨o1, rfl⟩ | ⟨o1, rfl⟩
      · rw [if_pos o1, hw]
      · rw [if_neg (by rw [o1]; decide), hw]; exact nI_add wk 1
    rw [e]
    have k51 : (51 : Int32) = nI 51 := rfl
    rw [k51]
    have hlo : lo ≤ 53 := by omega
    constructor
    · rintro ⟨q1, q2⟩
      obtain ⟨k, k1, k2, k3⟩ := rg_of q1 q2 (by decide) (by omega)
      exact ⟨k, k1, k2, k3⟩
    · rintro ⟨k, k1, k2, rfl⟩
      exact ⟨(nI_les (by omega) (by omega)).mpr k1, (nI_les (by omega) (by omega)).mpr k2⟩
  exact s_Mo_isAhead hd hM (fun c => by obtain ⟨k, k1, k2, k3⟩ := key.mp c; exact h1 k k1 k2 k3) (fun c => h0 (fun hq => c (key.mpr hq)))
set_option maxRecDepth 100000 in
theorem s_CY_stayOf {d : Nat} {M : Mem} {f : Nat → Nat → Int32} {g : Nat → Nat → Int64} {ad : Nat → Nat → Nat} {R : Option Value → Mem → Prop} {x y : Int32} {nc nb : Nat} {φ : VI} (hd : 2 ≤ d) (hF : Fx M ad) (hC : Cs M ad nc) (nc1 : f (ad 0 0) 1 = nI nc) (nc3 : nc ≤ 7) (hS : ∀ w c, w < 52 → c < 7 → (∃ b, b < nb ∧ φ 9 16 b = 1 ∧ φ 9 6 b = nI c ∧ φ 9 7 b = nI w ∧ mR M (ad 0 4) (7 * w + c) = some (ad 2 b)) ∨ (mR M (ad 0 4) (7 * w + c) = none ∧ ∀ b, b < nb → φ 9 16 b = 1 → φ 9 6 b = nI c → φ 9 7 b = nI w → False)) (h1 : ∀ w c b, w < 52 → c < nc → b < nb → φ 9 16 b = 1 → φ 9 6 b = nI c → φ 9 7 b = nI w → x = nI w → y = nI c → R (some (.ref (ad 2 b))) (mm M f g)) (h0 : ¬ (∃ w c b, w < 52 ∧ c < nc ∧ b < nb ∧ φ 9 16 b = 1 ∧ φ 9 6 b = nI c ∧ φ 9 7 b = nI w ∧ x = nI w ∧ y = nI c) → R (some .null) (mm M f g)) : Call d 166 [.ref (ad 0 0), .int x, .int y] (mm M f g) R := by
  by_cases hx : ∃ w c, w < 52 ∧ c < nc ∧ x = nI w ∧ y = nI c
  · obtain ⟨w, c, hw, hc, rfl, rfl⟩ := hx
    show Go d 166 0 0 0 [.ref (ad 0 0), .int (nI w), .int (nI c)] [] (mm M f g) R
    refine go_blk 1 [] (pc' := 1) (vs' := [.ref (ad 0 0), .int (nI w), .int (nI c)]) (st' := [.int (nI w)]) (M' := mm M f g) (ps := []) rfl trivial ?_
    refine go_callS rfl (by decide) rfl rfl (by omega) rfl (by decide) (by decide) ?_
    refine s_CY_isWeekK (by omega) (fun j1 hj1 hx1 => ⟨ne_i, ?_⟩) (fun c1 => ⟨ne_i, ?_⟩)
    · -- 1
      show Go d 166 0 0 4 [.ref (ad 0 0), .int (nI w), .int (nI c)] [.int 1] (mm M f g) R
      refine go_if rfl (fun (z : (1 : Int32) = 0) => absurd z (show ¬ ((1 : Int32) = 0) from (by decide))) (fun _ => ?_)
      refine go_blk 2 [] (pc' := 9) (vs' := [.ref (ad 0 0), .int (nI w), .int (nI c)]) (st' := [.int (nI c), .ref (ad 0 0)]) (M' := mm M f g) (ps := []) rfl trivial ?_
      refine go_callV rfl rfl rfl (by omega) rfl (by decide) (by decide) (hF.o 0) ?_
      refine s_CY_cottageAt (by omega) hF hC nc1 nc3 (fun j2 hj2 hx2 => ⟨ne_a, ?_⟩) (fun c2 => ⟨ne_0, ?_⟩)
      · -- ('r', 'ad 1 j2')
        obtain rfl : c = j2 := (nI_eqs (by omega) (by omega)).mp hx2
        show Go d 166 0 0 12 [.ref (ad 0 0), .int (nI w), .int (nI c)] [.ref (ad 1 c)] (mm M f g) R
        refine go_ifnull1 rfl ?_
        refine go_blk 7 [some (.ref (ad 0 4))] (pc' := 25) (vs' := [.ref (ad 0 0), .int (nI w), .int (nI c)]) (st' := [.int (((nI w) * 7) + (nI c)), .ref (ad 0 4)]) (M' := mm M f g) (ps := [ob (mm M f g) (ad 0 0) 11, mR (mm M f g) (ad 0 0) 10 = some (ad 0 4), va_rf (some (ad 0 4)) = .ref (ad 0 4)]) rfl ⟨(hF.o 0), (hF.r 0 10 4), rfl, trivial⟩ ?_
        rcases hS w c (by omega) (by omega) with ⟨b3, hb3, g3, gc3, gw3, hr3⟩ | ⟨hr3, hn3⟩
        · -- ad 2 b#
          show Go d 166 0 0 25 [.ref (ad 0 0), .int (nI w), .int (nI c)] [.int (((nI w) * 7) + (nI c)), .ref (ad 0 4)] (mm M f g) R
          refine go_blk 2 [some (.ref (ad 2 b3))] (pc' := 30) (vs' := [.ref (ad 0 0), .int (nI w), .int (nI c)]) (st' := [.ref (ad 2 b3)]) (M' := mm M f g) (ps := [ob (mm M f g) (ad 0 4) 17, 17 ≤ 17 ∧ 17 < 22, vp_in (((nI w) * 7) + (nI c)) (mN (mm M f g) (ad 0 4)), mR (mm M f g) (ad 0 4) ((((nI w) * 7) + (nI c)).toNatClampNeg) = some (ad 2 b3), va_rf (some (ad 2 b3)) = .ref (ad 2 b3)]) rfl ⟨(hF.o 4), (by decide), (vp_eq (eq_add (eq_mul rfl (show (7 : Int32) = nI 7 from rfl)) rfl) (vpi (hF.n 4) (show _ < 364 by omega))), (cl_rf (eq_add (eq_mul rfl (show (7 : Int32) = nI 7 from rfl)) rfl) (by omega) ((congrArg _ (show w * 7 + c = 7 * w + c by omega)).trans hr3)), rfl, trivial⟩ ?_
          refine go_aret (q := some (ad 2 b3)) rfl ⟨_, rfl⟩ ?_
          exact h1 w c _ hw hc (by assumption) (by assumption) (by assumption) (by assumption) rfl rfl
        · -- None
          show Go d 166 0 0 25 [.ref (ad 0 0), .int (nI w), .int (nI c)] [.int (((nI w) * 7) + (nI c)), .ref (ad 0 4)] (mm M f g) R
          refine go_blk 2 [some .null] (pc' := 30) (vs' := [.ref (ad 0 0), .int (nI w), .int (nI c)]) (st' := [.null]) (M' := mm M f g) (ps := [ob (mm M f g) (ad 0 4) 17, 17 ≤ 17 ∧ 17 < 22, vp_in (((nI w) * 7) + (nI c)) (mN (mm M f g) (ad 0 4)), mR (mm M f g) (ad 0 4) ((((nI w) * 7) + (nI c)).toNatClampNeg) = none, va_rf none = .null]) rfl ⟨(hF.o 4), (by decide), (vp_eq (eq_add (eq_mul rfl (show (7 : Int32) = nI 7 from rfl)) rfl) (vpi (hF.n 4) (show _ < 364 by omega))), (cl_rf (eq_add (eq_mul rfl (show (7 : Int32) = nI 7 from rfl)) rfl) (by omega) ((congrArg _ (show w * 7 + c = 7 * w + c by omega)).trans hr3)), rfl, trivial⟩ ?_
          refine go_aret (q := none) rfl ⟨_, rfl⟩ ?_
          refine h0 ?_
          rintro ⟨w0, c0, b0, q1, q2, q3, q4, q5, q6, q7, q8⟩
          obtain rfl := (nI_eqs (by omega) (by omega)).mp q7
          obtain rfl := (nI_eqs (by omega) (by omega)).mp q8
          exact hn3 b0 q3 q4 q5 q6
      · exact absurd ⟨c, hc, rfl⟩ c2
    · exact absurd ⟨w, hw, rfl⟩ c1
  ·
    show Go d 166 0 0 0 [.ref (ad 0 0), .int x, .int y] [] (mm M f g) R
    refine go_blk 1 [] (pc' := 1) (vs' := [.ref (ad 0 0), .int x, .int y]) (st' := [.int x]) (M' := mm M f g) (ps := []) rfl trivial ?_
    refine go_callS rfl (by decide) rfl rfl (by omega) rfl (by decide) (by decide) ?_
    refine s_CY_isWeekK (by omega) (fun j1 hj1 hx1 => ⟨ne_i, ?_⟩) (fun c1 => ⟨ne_i, ?_⟩)
    · -- 1
      show Go d 166 0 0 4 [.ref (ad 0 0), .int x, .int y] [.int 1] (mm M f g) R
      refine go_if rfl (fun (z : (1 : Int32) = 0) => absurd z (show ¬ ((1 : Int32) = 0) from (by decide))) (fun _ => ?_)
      refine go_blk 2 [] (pc' := 9) (vs' := [.ref (ad 0 0), .int x, .int y]) (st' := [.int y, .ref (ad 0 0)]) (M' := mm M f g) (ps := []) rfl trivial ?_
      refine go_callV rfl rfl rfl (by omega) rfl (by decide) (by decide) (hF.o 0) ?_
      refine s_CY_cottageAt (by omega) hF hC nc1 nc3 (fun j2 hj2 hx2 => ⟨ne_a, ?_⟩) (fun c2 => ⟨ne_0, ?_⟩)
      · exact absurd ⟨j1, j2, hj1, hj2, hx1, hx2⟩ hx
      · -- ('n',)
        show Go d 166 0 0 12 [.ref (ad 0 0), .int x, .int y] [.null] (mm M f g) R
        refine go_ifnull0 rfl ?_
        refine go_blk 1 [] (pc' := 30) (vs' := [.ref (ad 0 0), .int x, .int y]) (st' := [.null]) (M' := mm M f g) (ps := []) rfl trivial ?_
        refine go_aret (q := none) rfl ⟨_, rfl⟩ ?_
        exact h0 (fun ⟨w0, c0, b0, q1, q2, q3, q4, q5, q6, q7, q8⟩ => hx ⟨w0, c0, q1, q2, q7, q8⟩)
    · -- 0
      show Go d 166 0 0 4 [.ref (ad 0 0), .int x, .int y] [.int 0] (mm M f g) R
      refine go_if rfl (fun _ => ?_) (fun (z : ¬ ((0 : Int32) = 0)) => absurd (show (0 : Int32) = 0 from (by decide)) z)
      refine go_blk 1 [] (pc' := 30) (vs' := [.ref (ad 0 0), .int x, .int y]) (st' := [.null]) (M' := mm M f g) (ps := []) rfl trivial ?_
      refine go_aret (q := none) rfl ⟨_, rfl⟩ ?_
      exact h0 (fun ⟨w0, c0, b0, q1, q2, q3, q4, q5, q6, q7, q8⟩ => hx ⟨w0, c0, q1, q2, q7, q8⟩)

theorem stay_uni {φ : VI} {nb nc wk : Nat} {op : Bool} (h : IBk φ nb nc wk op) {a b : Nat} (ha : a < nb) (hb : b < nb) (h1 : φ 9 16 a = 1) (h2 : φ 9 16 b = 1) (h3 : φ 9 6 a = φ 9 6 b) (h4 : φ 9 7 a = φ 9 7 b) : a = b := by
  obtain ⟨w, -, -, q⟩ := (h.1 a ha).2.2.1
  obtain ⟨w', -, -, q'⟩ := (h.1 b hb).2.2.1
  exact h.2 a b ha hb (q h1).1 (q' h2).1 h3 h4
/-- the job of a place: the booking that left it -/
theorem job_of {φ : VI} {nb nt wk : Nat} {op : Bool} (h : IJo φ nb nt wk op) {j : Nat} (hj : j < 364) (h1 : φ 9 32 j = 1) : ∃ b, b < nb ∧ hJ φ wk op b ∧ jAt φ b j := by
  rcases h.2 j hj with q | q
  · exact q
  · rw [q.1] at h1; exact absurd h1 (by decide)
theorem job_01 {φ : VI} {nb nt wk : Nat} {op : Bool} (h : IJo φ nb nt wk op) {j : Nat} (hj : j < 364) : φ 9 32 j = 0 ∨ φ 9 32 j = 1 := by
  rcases h.2 j hj with ⟨b, hb, q1, q2⟩ | q
  · exact Or.inr (h.1 b hb q1 j q2).2.1.2.2
  · exact Or.inl q.1
theorem jAt_wc {φ : VI} {b w c w' c' : Nat} (hw : w < 52) (hc : c < 7) (h1 : φ 9 6 b = nI c') (h2 : φ 9 7 b = nI w') (hw' : w' < 52) (hc' : c' < 7) (h : jAt φ b (7 * w + c)) : w = w' + 1 ∧ c = c' := by
  obtain ⟨c0, w0, q1, q2, q3, q4, q5⟩ := h
  rw [h1] at q3
  rw [h2] at q4
  have e1 := (nI_eqs (by omega) (by omega)).mp q3
  have e2 := (nI_eqs (by omega) (by omega)).mp q4
  omega
set_option maxRecDepth 100000 in
theorem s_CY_jobOf {d : Nat} {M : Mem} {f : Nat → Nat → Int32} {g : Nat → Nat → Int64} {ad : Nat → Nat → Nat} {R : Option Value → Mem → Prop} {x y : Int32} {nc nb nt wk : Nat} {op : Bool} {φ : VI} (hd : 3 ≤ d) (hF : Fx M ad) (hB : Bs M ad nb) (hC : Cs M ad nc) (nc1 : f (ad 0 0) 1 = nI nc) (nc3 : nc ≤ 7) (iB : IBk φ nb nc wk op) (jO : IJo φ nb nt wk op) (jR : IJr M ad φ nb nc wk op) (h1 : ∀ w c b, w < 52 → c < nc → b < nb → hJ φ wk op b → jAt φ b (7 * w + c) → x = nI w → y = nI c → R (some (.ref (ad 6 b))) (mm M f g)) (h0 : ¬ (∃ w c, w < 52 ∧ c < nc ∧ x = nI w ∧ y = nI c ∧ φ 9 32 (7 * w + c) = 1) → R (some .null) (mm M f g)) : Call d 167 [.ref (ad 0 0), .int x, .int y] (mm M f g) R := by
  by_cases hx : ∃ w c, w < 52 ∧ c < nc ∧ x = nI w ∧ y = nI c
  · obtain ⟨w, c, hw, hc, rfl, rfl⟩ := hx
    rcases job_01 jO (j := 7 * w + c) (by omega) with h32 | h32
    · have hz : ¬ (∃ w0 c0, w0 < 52 ∧ c0 < nc ∧ nI w = nI w0 ∧ nI c = nI c0 ∧ φ 9 32 (7 * w0 + c0) = 1) := by
        rintro ⟨w0, c0, q1, q2, q3, q4, q5⟩
        obtain rfl := (nI_eqs (by omega) (by omega)).mp q3
        obtain rfl := (nI_eqs (by omega) (by omega)).mp q4
        rw [h32] at q5; exact absurd q5 (by decide)
      show Go d 167 0 0 0 [.ref (ad 0 0), .int (nI w), .int (nI c), .retAddr 0] [] (mm M f g) R
      refine go_blk 1 [] (pc' := 1) (vs' := [.ref (ad 0 0), .int (nI w), .int (nI c), .retAddr 0]) (st' := [.int (nI w)]) (M' := mm M f g) (ps := []) rfl trivial ?_
      refine go_callS rfl (by decide) rfl rfl (by omega) rfl (by decide) (by decide) ?_
      refine s_CY_isWeekK (by omega) (fun j1 hj1 hx1 => ⟨ne_i, ?_⟩) (fun c1 => ⟨ne_i, ?_⟩)
      · -- 1
        show Go d 167 0 0 4 [.ref (ad 0 0), .int (nI w), .int (nI c), .retAddr 0] [.int 1] (mm M f g) R
        refine go_if rfl (fun (z : (1 : Int32) = 0) => absurd z (show ¬ ((1 : Int32) = 0) from (by decide))) (fun _ => ?_)
        refine go_blk 5 [] (pc' := 12) (vs' := [.ref (ad 0 0), .int (nI w), .int (nI c), .retAddr 0]) (st' := [.int (nI c), .int ((nI w) - 1), .ref (ad 0 0)]) (M' := mm M f g) (ps := []) rfl trivial ?_
        refine go_callV rfl rfl rfl (by omega) rfl (by decide) (by decide) (hF.o 0) ?_
        refine s_CY_stayOf (by omega) hF hC nc1 nc3 jR.2.1 (fun w2 c2 b2 hw2 hc2 hb2 g2 gc2 gw2 hx2 hy2 => ⟨ne_a, ?_⟩) (fun hn2 => ⟨ne_0, ?_⟩)
        · -- ('r', 'ad 2 b#')
          have e1 : c2 = c := ((nI_eqs (by omega) (by omega)).mp hy2).symm
          have e2 : w = w2 + 1 := (nI_eqs (by omega) (by omega)).mp (nI_b1 (by omega) hx2)
          have hnj : ¬ hJ φ wk op b2 := fun q => by have := (jO.1 b2 (by assumption) q (7 * w + c) ⟨c, w2, by omega, by omega, by rw [gc2, e1], by assumption, by omega⟩).2.1.2.2; rw [h32] at this; exact absurd this (by decide)
          show Go d 167 0 0 15 [.ref (ad 0 0), .int (nI w), .int (nI c), .retAddr 0] [.ref (ad 2 b2)] (mm M f g) R
          refine go_blk 3 [] (pc' := 21) (vs' := [.ref (ad 0 0), .int (nI w), .int (nI c), .ref (ad 2 b2)]) (st' := [.ref (ad 2 b2)]) (M' := mm M f g) (ps := []) rfl trivial ?_
          refine go_ifnon1 rfl ?_
          refine go_blk 2 [some .null] (pc' := 32) (vs' := [.ref (ad 0 0), .int (nI w), .int (nI c), .ref (ad 2 b2)]) (st' := [.null]) (M' := mm M f g) (ps := [ob (mm M f g) (ad 2 b2) 0, mR (mm M f g) (ad 2 b2) 12 = none, va_rf none = .null]) rfl ⟨(hB b2 (by assumption)).2, ((jR.1 b2 (by assumption)).2 hnj), rfl, trivial⟩ ?_
          refine go_aret (q := none) rfl ⟨_, rfl⟩ ?_
          exact h0 hz
        · -- ('n',)
          show Go d 167 0 0 15 [.ref (ad 0 0), .int (nI w), .int (nI c), .retAddr 0] [.null] (mm M f g) R
          refine go_blk 3 [] (pc' := 21) (vs' := [.ref (ad 0 0), .int (nI w), .int (nI c), .null]) (st' := [.null]) (M' := mm M f g) (ps := []) rfl trivial ?_
          refine go_ifnon0 rfl ?_
          refine go_blk 2 [] (pc' := 32) (vs' := [.ref (ad 0 0), .int (nI w), .int (nI c), .null]) (st' := [.null]) (M' := mm M f g) (ps := []) rfl trivial ?_
          refine go_aret (q := none) rfl ⟨_, rfl⟩ ?_
          exact h0 hz
      · exact absurd ⟨w, hw, rfl⟩ c1
    · obtain ⟨b, hb, hJb, hA⟩ := job_of jO (by omega) h32
      show Go d 167 0 0 0 [.ref (ad 0 0), .int (nI w), .int (nI c), .retAddr 0] [] (mm M f g) R
      refine go_blk 1 [] (pc' := 1) (vs' := [.ref (ad 0 0), .int (nI w), .int (nI c), .retAddr 0]) (st' := [.int (nI w)]) (M' := mm M f g) (ps := []) rfl trivial ?_
      refine go_callS rfl (by decide) rfl rfl (by omega) rfl (by decide) (by decide) ?_
      refine s_CY_isWeekK (by omega) (fun j1 hj1 hx1 => ⟨ne_i, ?_⟩) (fun c1 => ⟨ne_i, ?_⟩)
      · -- 1
        show Go d 167 0 0 4 [.ref (ad 0 0), .int (nI w), .int (nI c), .retAddr 0] [.int 1] (mm M f g) R
        refine go_if rfl (fun (z : (1 : Int32) = 0) => absurd z (show ¬ ((1 : Int32) = 0) from (by decide))) (fun _ => ?_)
        refine go_blk 5 [] (pc' := 12) (vs' := [.ref (ad 0 0), .int (nI w), .int (nI c), .retAddr 0]) (st' := [.int (nI c), .int ((nI w) - 1), .ref (ad 0 0)]) (M' := mm M f g) (ps := []) rfl trivial ?_
        refine go_callV rfl rfl rfl (by omega) rfl (by decide) (by decide) (hF.o 0) ?_
        refine s_CY_stayOf (by omega) hF hC nc1 nc3 jR.2.1 (fun w2 c2 b2 hw2 hc2 hb2 g2 gc2 gw2 hx2 hy2 => ⟨ne_a, ?_⟩) (fun hn2 => ⟨ne_0, ?_⟩)
        · -- ('r', 'ad 2 b#')
          obtain ⟨c0, w0, z1, z2, z3, z4, z5⟩ := id hA
          have e1 : c2 = c := ((nI_eqs (by omega) (by omega)).mp hy2).symm
          have e2 : w = w2 + 1 := (nI_eqs (by omega) (by omega)).mp (nI_b1 (by omega) hx2)
          have hbb : b2 = b := stay_uni iB (by assumption) hb (by assumption) hJb.1 (by rw [gc2, z3]; exact congrArg nI (by omega)) (by rw [gw2, z4]; exact congrArg nI (by omega))
          subst hbb
          show Go d 167 0 0 15 [.ref (ad 0 0), .int (nI w), .int (nI c), .retAddr 0] [.ref (ad 2 b2)] (mm M f g) R
          refine go_blk 3 [] (pc' := 21) (vs' := [.ref (ad 0 0), .int (nI w), .int (nI c), .ref (ad 2 b2)]) (st' := [.ref (ad 2 b2)]) (M' := mm M f g) (ps := []) rfl trivial ?_
          refine go_ifnon1 rfl ?_
          refine go_blk 2 [some (.ref (ad 6 b2))] (pc' := 32) (vs' := [.ref (ad 0 0), .int (nI w), .int (nI c), .ref (ad 2 b2)]) (st' := [.ref (ad 6 b2)]) (M' := mm M f g) (ps := [ob (mm M f g) (ad 2 b2) 0, mR (mm M f g) (ad 2 b2) 12 = some (ad 6 b2), va_rf (some (ad 6 b2)) = .ref (ad 6 b2)]) rfl ⟨(hB b2 (by assumption)).2, ((jR.1 b2 (by assumption)).1 hJb).1, rfl, trivial⟩ ?_
          refine go_aret (q := some (ad 6 b2)) rfl ⟨_, rfl⟩ ?_
          exact h1 w c _ hw hc (by assumption) hJb hA rfl rfl
        · -- ('n',)
          exfalso; obtain ⟨c0, w0, z1, z2, z3, z4, z5⟩ := id hA; exact hn2 ⟨w0, c, b, by omega, hc, hb, hJb.1, by rw [z3]; exact congrArg nI (by omega), z4, by rw [show w = w0 + 1 by omega]; exact nI_s1, rfl⟩
      · exact absurd ⟨w, hw, rfl⟩ c1
  · have hz : ¬ (∃ w0 c0, w0 < 52 ∧ c0 < nc ∧ x = nI w0 ∧ y = nI c0 ∧ φ 9 32 (7 * w0 + c0) = 1) := fun ⟨w0, c0, q1, q2, q3, q4, q5⟩ => hx ⟨w0, c0, q1, q2, q3, q4⟩
    show Go d 167 0 0 0 [.ref (ad 0 0), .int x, .int y, .retAddr 0] [] (mm M f g) R
    refine go_blk 1 [] (pc' := 1) (vs' := [.ref (ad 0 0), .int x, .int y, .retAddr 0]) (st' := [.int x]) (M' := mm M f g) (ps := []) rfl trivial ?_
    refine go_callS rfl (by decide) rfl rfl (by omega) rfl (by decide) (by decide) ?_
    refine s_CY_isWeekK (by omega) (fun j1 hj1 hx1 => ⟨ne_i, ?_⟩) (fun c1 => ⟨ne_i, ?_⟩)
    · -- 1
      show Go d 167 0 0 4 [.ref (ad 0 0), .int x, .int y, .retAddr 0] [.int 1] (mm M f g) R
      refine go_if rfl (fun (z : (1 : Int32) = 0) => absurd z (show ¬ ((1 : Int32) = 0) from (by decide))) (fun _ => ?_)
      refine go_blk 5 [] (pc' := 12) (vs' := [.ref (ad 0 0), .int x, .int y, .retAddr 0]) (st' := [.int y, .int (x - 1), .ref (ad 0 0)]) (M' := mm M f g) (ps := []) rfl trivial ?_
      refine go_callV rfl rfl rfl (by omega) rfl (by decide) (by decide) (hF.o 0) ?_
      refine s_CY_stayOf (by omega) hF hC nc1 nc3 jR.2.1 (fun w2 c2 b2 hw2 hc2 hb2 g2 gc2 gw2 hx2 hy2 => ⟨ne_a, ?_⟩) (fun hn2 => ⟨ne_0, ?_⟩)
      · -- ('r', 'ad 2 b#')
        exact absurd ⟨j1, c2, hj1, hc2, hx1, hy2⟩ hx
      · -- ('n',)
        show Go d 167 0 0 15 [.ref (ad 0 0), .int x, .int y, .retAddr 0] [.null] (mm M f g) R
        refine go_blk 3 [] (pc' := 21) (vs' := [.ref (ad 0 0), .int x, .int y, .null]) (st' := [.null]) (M' := mm M f g) (ps := []) rfl trivial ?_
        refine go_ifnon0 rfl ?_
        refine go_blk 2 [] (pc' := 32) (vs' := [.ref (ad 0 0), .int x, .int y, .null]) (st' := [.null]) (M' := mm M f g) (ps := []) rfl trivial ?_
        refine go_aret (q := none) rfl ⟨_, rfl⟩ ?_
        exact h0 hz
    · -- 0
      show Go d 167 0 0 4 [.ref (ad 0 0), .int x, .int y, .retAddr 0] [.int 0] (mm M f g) R
      refine go_if rfl (fun _ => ?_) (fun (z : ¬ ((0 : Int32) = 0)) => absurd (show (0 : Int32) = 0 from (by decide)) z)
      refine go_blk 3 [] (pc' := 21) (vs' := [.ref (ad 0 0), .int x, .int y, .null]) (st' := [.null]) (M' := mm M f g) (ps := []) rfl trivial ?_
      refine go_ifnon0 rfl ?_
      refine go_blk 2 [] (pc' := 32) (vs' := [.ref (ad 0 0), .int x, .int y, .null]) (st' := [.null]) (M' := mm M f g) (ps := []) rfl trivial ?_
      refine go_aret (q := none) rfl ⟨_, rfl⟩ ?_
      exact h0 hz

set_option maxRecDepth 100000 in
theorem s_CY_jobToBegin {d : Nat} {M : Mem} {f : Nat → Nat → Int32} {g : Nat → Nat → Int64} {ad : Nat → Nat → Nat} {R : Option Value → Mem → Prop} {y : Int32} {nc nb nt wk : Nat} {op : Bool} {φ : VI} (hd : 2 ≤ d) (hF : Fx M ad) (hB : Bs M ad nb) (hC : Cs M ad nc) (nc1 : f (ad 0 0) 1 = nI nc) (nc3 : nc ≤ 7) (iB : IBk φ nb nc wk op) (jO : IJo φ nb nt wk op) (jR : IJr M ad φ nb nc wk op) (ho : op = true) (op1 : f (ad 0 0) 8 = 1) (hwk : wk < 52) (hf7 : ∀ b, f (ad 6 b) 7 = φ 6 b 7) (h1 : ∀ c b, c < nc → b < nb → hJ φ wk op b → jAt φ b (7 * wk + c) → φ 9 37 (7 * wk + c) = -1 → y = nI c → R (some (.ref (ad 6 b))) (mm M f g)) (h0 : ¬ (∃ c, c < nc ∧ y = nI c ∧ φ 9 32 (7 * wk + c) = 1 ∧ φ 9 37 (7 * wk + c) = -1) → R (some .null) (mm M f g)) : Call d 168 [.ref (ad 0 0), .int y] (mm M f g) R := by
  by_cases hx : ∃ c, c < nc ∧ y = nI c
  · obtain ⟨c, hc, rfl⟩ := hx
    show Go d 168 0 0 0 [.ref (ad 0 0), .int (nI c), .retAddr 0] [] (mm M f g) R
    refine go_blk 2 [some (.int 1)] (pc' := 4) (vs' := [.ref (ad 0 0), .int (nI c), .retAddr 0]) (st' := [.int 1]) (M' := mm M f g) (ps := [ob (mm M f g) (ad 0 0) 11, (Value.int (f (ad 0 0) 8)) = .int 1]) rfl ⟨(hF.o 0), congrArg Value.int op1, trivial⟩ ?_
    refine go_if rfl (fun (z : (1 : Int32) = 0) => absurd z (show ¬ ((1 : Int32) = 0) from (by decide))) (fun _ => ?_)
    refine go_blk 2 [] (pc' := 9) (vs' := [.ref (ad 0 0), .int (nI c), .retAddr 0]) (st' := [.int (nI c), .ref (ad 0 0)]) (M' := mm M f g) (ps := []) rfl trivial ?_
    refine go_callV rfl rfl rfl (by omega) rfl (by decide) (by decide) (hF.o 0) ?_
    refine s_CY_cottageAt (by omega) hF hC nc1 nc3 (fun j1 hj1 hx1 => ⟨ne_a, ?_⟩) (fun c1 => ⟨ne_0, ?_⟩)
    · -- ('r', 'ad 1 j1')
      obtain rfl : c = j1 := (nI_eqs (by omega) (by omega)).mp hx1
      show Go d 168 0 0 12 [.ref (ad 0 0), .int (nI c), .retAddr 0] [.ref (ad 1 c)] (mm M f g) R
      refine go_ifnon1 rfl ?_
      refine go_blk 3 [some (.ref (ad 0 5))] (pc' := 22) (vs' := [.ref (ad 0 0), .int (nI c), .retAddr 0]) (st' := [.int (nI c), .ref (ad 0 5)]) (M' := mm M f g) (ps := [ob (mm M f g) (ad 0 0) 11, mR (mm M f g) (ad 0 0) 11 = some (ad 0 5), va_rf (some (ad 0 5)) = .ref (ad 0 5)]) rfl ⟨(hF.o 0), (hF.r 0 11 5), rfl, trivial⟩ ?_
      rcases jR.2.2 ho c hc with ⟨b2, hb2, hJ2, hA2, hr2⟩ | ⟨hr2, hn2⟩
      · -- ad 6 b#
        show Go d 168 0 0 22 [.ref (ad 0 0), .int (nI c), .retAddr 0] [.int (nI c), .ref (ad 0 5)] (mm M f g) R
        refine go_blk 3 [some (.ref (ad 6 b2))] (pc' := 25) (vs' := [.ref (ad 0 0), .int (nI c), .ref (ad 6 b2)]) (st' := [.ref (ad 6 b2)]) (M' := mm M f g) (ps := [ob (mm M f g) (ad 0 5) 19, 17 ≤ 19 ∧ 19 < 22, vp_in (nI c) (mN (mm M f g) (ad 0 5)), mR (mm M f g) (ad 0 5) ((nI c).toNatClampNeg) = some (ad 6 b2), va_rf (some (ad 6 b2)) = .ref (ad 6 b2)]) rfl ⟨(hF.o 5), (by decide), (vpi (hF.n 5) (show _ < 7 by omega)), (cl_rf rfl (by omega) hr2), rfl, trivial⟩ ?_
        refine go_ifnull1 rfl ?_
        refine go_blk 3 [some (.int (φ 9 37 (7 * wk + c)))] (pc' := 33) (vs' := [.ref (ad 0 0), .int (nI c), .ref (ad 6 b2)]) (st' := [.int (-1), .int (φ 9 37 (7 * wk + c))]) (M' := mm M f g) (ps := [ob (mm M f g) (ad 6 b2) 3, (Value.int (f (ad 6 b2) 7)) = .int (φ 9 37 (7 * wk + c))]) rfl ⟨((jR.1 b2 (by assumption)).1 (by assumption)).2.1, congrArg Value.int ((hf7 b2).trans (jO.1 b2 (by assumption) (by assumption) _ (by assumption)).1.2.2.2.2.2.2.1), trivial⟩ ?_
        refine go_icmp rfl (fun (c3 : ¬ (φ 9 37 (7 * wk + c)) = (-1)) => ?_) (fun (c3 : ¬ (¬ (φ 9 37 (7 * wk + c)) = (-1))) => ?_)
        · -- ¬ (φ 9 37 (7 * wk + c)) = (-1)
          refine go_blk 1 [] (pc' := 41) (vs' := [.ref (ad 0 0), .int (nI c), .ref (ad 6 b2)]) (st' := [.null]) (M' := mm M f g) (ps := []) rfl trivial ?_
          refine go_aret (q := none) rfl ⟨_, rfl⟩ ?_
          refine h0 ?_
          rintro ⟨c0, q1, q2, q3, q4⟩
          obtain rfl := (nI_eqs (by omega) (by omega)).mp q2
          exact absurd q4 (by assumption)
        · -- ¬ (¬ (φ 9 37 (7 * wk + c)) = (-1))
          refine go_blk 2 [] (pc' := 41) (vs' := [.ref (ad 0 0), .int (nI c), .ref (ad 6 b2)]) (st' := [.ref (ad 6 b2)]) (M' := mm M f g) (ps := []) rfl trivial ?_
          refine go_aret (q := some (ad 6 b2)) rfl ⟨_, rfl⟩ ?_
          exact h1 c _ hc (by assumption) (by assumption) (by assumption) (by first | assumption | exact Classical.not_not.mp (by assumption)) rfl
      · -- None
        show Go d 168 0 0 22 [.ref (ad 0 0), .int (nI c), .retAddr 0] [.int (nI c), .ref (ad 0 5)] (mm M f g) R
        refine go_blk 3 [some .null] (pc' := 25) (vs' := [.ref (ad 0 0), .int (nI c), .null]) (st' := [.null]) (M' := mm M f g) (ps := [ob (mm M f g) (ad 0 5) 19, 17 ≤ 19 ∧ 19 < 22, vp_in (nI c) (mN (mm M f g) (ad 0 5)), mR (mm M f g) (ad 0 5) ((nI c).toNatClampNeg) = none, va_rf none = .null]) rfl ⟨(hF.o 5), (by decide), (vpi (hF.n 5) (show _ < 7 by omega)), (cl_rf rfl (by omega) hr2), rfl, trivial⟩ ?_
        refine go_ifnull0 rfl ?_
        refine go_blk 1 [] (pc' := 41) (vs' := [.ref (ad 0 0), .int (nI c), .null]) (st' := [.null]) (M' := mm M f g) (ps := []) rfl trivial ?_
        refine go_aret (q := none) rfl ⟨_, rfl⟩ ?_
        refine h0 ?_
        rintro ⟨c0, q1, q2, q3, q4⟩
        obtain rfl := (nI_eqs (by omega) (by omega)).mp q2
        rw [hn2] at q3; exact absurd q3 (by decide)
    · exact absurd ⟨c, hc, rfl⟩ c1
  ·
    show Go d 168 0 0 0 [.ref (ad 0 0), .int y, .retAddr 0] [] (mm M f g) R
    refine go_blk 2 [some (.int 1)] (pc' := 4) (vs' := [.ref (ad 0 0), .int y, .retAddr 0]) (st' := [.int 1]) (M' := mm M f g) (ps := [ob (mm M f g) (ad 0 0) 11, (Value.int (f (ad 0 0) 8)) = .int 1]) rfl ⟨(hF.o 0), congrArg Value.int op1, trivial⟩ ?_
    refine go_if rfl (fun (z : (1 : Int32) = 0) => absurd z (show ¬ ((1 : Int32) = 0) from (by decide))) (fun _ => ?_)
    refine go_blk 2 [] (pc' := 9) (vs' := [.ref (ad 0 0), .int y, .retAddr 0]) (st' := [.int y, .ref (ad 0 0)]) (M' := mm M f g) (ps := []) rfl trivial ?_
    refine go_callV rfl rfl rfl (by omega) rfl (by decide) (by decide) (hF.o 0) ?_
    refine s_CY_cottageAt (by omega) hF hC nc1 nc3 (fun j1 hj1 hx1 => ⟨ne_a, ?_⟩) (fun c1 => ⟨ne_0, ?_⟩)
    · exact absurd ⟨j1, hj1, hx1⟩ hx
    · -- ('n',)
      show Go d 168 0 0 12 [.ref (ad 0 0), .int y, .retAddr 0] [.null] (mm M f g) R
      refine go_ifnon0 rfl ?_
      refine go_blk 1 [] (pc' := 16) (vs' := [.ref (ad 0 0), .int y, .retAddr 0]) (st' := [.null]) (M' := mm M f g) (ps := []) rfl trivial ?_
      refine go_aret (q := none) rfl ⟨_, rfl⟩ ?_
      exact h0 (fun ⟨c0, q1, q2, q3, q4⟩ => hx ⟨c0, q1, q2⟩)

