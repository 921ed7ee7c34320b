/-! call: draw -/
theorem b_or (x y : Int32) (i : Nat) : bt (x ||| y) i = (bt x i || bt y i) := by unfold bt; rw [Int32.toBitVec_or, BitVec.getLsbD_or]
theorem b_xor (x y : Int32) (i : Nat) : bt (x ^^^ y) i = (bt x i ^^ bt y i) := by unfold bt; rw [Int32.toBitVec_xor, BitVec.getLsbD_xor]
theorem b_m1 : ∀ i, i < 32 → bt (-1) i = true := by decide +kernel
theorem b_0 (i : Nat) : bt 0 i = false := BitVec.getLsbD_zero
theorem b_shl (n : Nat) (hn : n < 32) (x : Int32) {i : Nat} (hi : i < 32) : bt (x <<< (nI n &&& 31)) i = (decide (n ≤ i) && bt x (i - n)) := by
  unfold bt
  rw [Int32.toBitVec_shiftLeft]
  show (x.toBitVec <<< ((nI n &&& 31).toBitVec.smod 32).toNat).getLsbD i = _
  rw [s_l n hn, BitVec.getLsbD_shiftLeft]
  rcases Nat.lt_or_ge i n with h | h
  · simp [h, Nat.not_le.mpr h]
  · simp [hi, h, Nat.not_lt.mpr h]
theorem wb_tb (n : Nat) : (lN n).toBitVec = BitVec.ofNat 64 n := rfl
theorem wb_inj {a b : Int64} (h : a.toBitVec = b.toBitVec) : a = b := Int64.toBitVec_inj.mp h
theorem wb_tn {n : Nat} (h : n < 2 ^ 64) : (lN n).toBitVec.toNat = n := by rw [wb_tb, BitVec.toNat_ofNat, Nat.mod_eq_of_lt h]
theorem wb_of (x : Int64) : ∃ n, n < 2 ^ 64 ∧ x = lN n := ⟨x.toBitVec.toNat, x.toBitVec.isLt, wb_inj (by rw [wb_tb]; simp)⟩
theorem wb_c : ∀ k, k < 64 → ((nI k).toInt64 &&& 63) = lN k := by decide +kernel
theorem wb_cu : ∀ k, k < 64 → ((nI k).toInt64.toUInt64 &&& Int64.toUInt64 63) = UInt64.ofNat k := by decide +kernel
theorem wb_pw {a b : Nat} (h : a ≤ b) : 2 ^ b = 2 ^ a * 2 ^ (b - a) := by rw [← Nat.pow_add]; congr 1; omega
theorem wb_lt2 {a b : Nat} (h : a < b) : 2 ^ a < 2 ^ b := Nat.pow_lt_pow_right (by decide) h
theorem wb_mod (n : Nat) : lN n = lN (n % 2 ^ 64) := wb_inj (by rw [wb_tb, wb_tb]; apply BitVec.eq_of_toNat_eq; rw [BitVec.toNat_ofNat, BitVec.toNat_ofNat, Nat.mod_mod])
theorem wb_shr {n k : Nat} (hn : n < 2 ^ 64) (hk : k < 64) : ((lN n).toUInt64 >>> ((nI k).toInt64.toUInt64 &&& Int64.toUInt64 63)).toInt64 = lN (n / 2 ^ k) := by
  rw [wb_cu k hk]
  apply wb_inj
  apply BitVec.eq_of_toNat_eq
  show ((lN n).toUInt64 >>> UInt64.ofNat k).toNat = (BitVec.ofNat 64 _).toNat
  have h1 : (UInt64.ofNat k).toNat = k := by
    show (BitVec.ofNat 64 k).toNat = k
    rw [BitVec.toNat_ofNat, Nat.mod_eq_of_lt (by omega)]
  have h2 : (lN n).toUInt64.toNat = n := wb_tn hn
  rw [UInt64.toNat_shiftRight, h1, h2, Nat.mod_eq_of_lt hk, Nat.shiftRight_eq_div_pow, BitVec.toNat_ofNat, Nat.mod_eq_of_lt (Nat.lt_of_le_of_lt (Nat.div_le_self _ _) hn)]

theorem b_one (i : Nat) : bt 1 i = decide (i = 0) := by
  rcases Nat.lt_or_ge i 32 with h | h
  · exact (by decide +kernel : ∀ i, i < 32 → bt 1 i = decide (i = 0)) i h
  · rw [b_big h, decide_eq_false (by omega)]
theorem bit_u (X : Int32) {c : Nat} (hc : c < 7) : (X.toUInt32 >>> ((nI c).toUInt32 &&& Int32.toUInt32 31)).toInt32 &&& 1 = if bt X c = true then 1 else 0 := by
  apply b_ext
  intro i hi
  rw [b_and, b_ushr c (by omega), b_one]
  by_cases h : i = 0
  · subst h
    rw [Nat.add_zero]
    cases bt X c <;> rfl
  · rw [decide_eq_false h, Bool.and_false]
    split
    · rw [b_one, decide_eq_false h]
    · rw [b_0]
theorem bit_s (X : Int32) {c : Nat} (hc : c < 7) : (X >>> (nI c &&& 31)) &&& 1 = if bt X c = true then 1 else 0 := by
  apply b_ext
  intro i hi
  rw [b_and, b_sshr c (by omega) X hi, b_one]
  by_cases h : i = 0
  · subst h
    rw [Nat.add_zero, if_pos (by omega)]
    cases bt X c <;> rfl
  · rw [decide_eq_false h, Bool.and_false]
    split
    · rw [b_one, decide_eq_false h]
    · rw [b_0]
theorem bt_not (E X : Int32) {c : Nat} (hc : c < 32) : bt (E &&& (X ^^^ (-1))) c = (bt E c && !(bt X c)) := by
  rw [b_and, b_xor, b_m1 c hc]
  cases bt X c <;> rfl
theorem bt_set (X : Int32) {i c : Nat} (hi : i < 32) (hc : c < 32) : bt (X ||| ((1 : Int32) <<< (nI i &&& 31))) c = (bt X c || decide (c = i)) := by
  rw [b_or, b_shl i hi 1 hc, b_one]
  by_cases h : c = i
  · subst h; simp
  · have : (decide (i ≤ c) && decide (c - i = 0)) = decide (c = i) := by
      by_cases q : i ≤ c
      · simp [q, show ¬ c - i = 0 by omega, h]
      · simp [q, h]
    rw [this]
/-- sums of numbers -/
def csN (w : Nat → Nat) : Nat → Nat
  | 0 => 0
  | n + 1 => csN w n + w n
theorem csN_m {w : Nat → Nat} {a b : Nat} (h : a ≤ b) : csN w a ≤ csN w b := by
  induction h with
  | refl => exact Nat.le_refl _
  | step _ ih => exact Nat.le_trans ih (Nat.le_add_right _ _)
theorem csN_b {w : Nat → Nat} {B : Nat} (h : ∀ i, w i ≤ B) : ∀ n, csN w n ≤ B * n
  | 0 => Nat.zero_le _
  | n + 1 => by rw [csN, Nat.mul_succ]; have := csN_b h n; have := h n; omega
/-- in whose part a number lies -/
def pkN (w : Nat → Nat) (lot : Nat) : Nat → Nat
  | 0 => 0
  | n + 1 => if lot < csN w n then pkN w lot n else n
theorem pkN_is {w : Nat → Nat} {lot i : Nat} : ∀ {n : Nat}, i < n → csN w i ≤ lot → lot < csN w (i + 1) → pkN w lot n = i
  | 0, h, _, _ => absurd h (Nat.not_lt_zero _)
  | n + 1, h, h1, h2 => by
    rw [pkN]
    by_cases c : i = n
    · subst c; rw [if_neg (by omega)]
    · have := csN_m (w := w) (show i + 1 ≤ n by omega)
      rw [if_pos (by omega)]
      exact pkN_is (by omega) h1 h2
theorem pkN_in {w : Nat → Nat} {lot : Nat} : ∀ {n : Nat}, lot < csN w n → pkN w lot n < n ∧ csN w (pkN w lot n) ≤ lot ∧ lot < csN w (pkN w lot n + 1)
  | 0, h => absurd h (Nat.not_lt_zero _)
  | n + 1, h => by
    rw [pkN]
    by_cases c : lot < csN w n
    · rw [if_pos c]
      obtain ⟨h1, h2⟩ := pkN_in c
      exact ⟨by omega, h2⟩
    · rw [if_neg c]; exact ⟨by omega, by omega, h⟩
/-- what a job weighs that isn't drawn yet -/
def wtN (rd : Nat → Bool) (W : Nat → Nat) (X : Int32) (c : Nat) : Nat := if rd c = true ∧ bt X c = false then W c else 0
def lotN (x : Int64) : Nat := x.toBitVec.toNat / 2 ^ 33
theorem lotN_lt (x : Int64) : lotN x < 2 ^ 31 := by unfold lotN; have := x.toBitVec.isLt; omega
theorem lotN_is (x : Int64) : (x.toUInt64 >>> ((33 : Int32).toInt64.toUInt64 &&& Int64.toUInt64 63)).toInt64 = lN (lotN x) := by
  obtain ⟨n, hn, rfl⟩ := wb_of x
  unfold lotN
  rw [wb_tn hn]
  exact wb_shr (k := 33) hn (by decide)
/-- k draws -/
def drN (rd : Nat → Bool) (W : Nat → Nat) (nc : Nat) : Nat → Int32 × Int64 → Int32 × Int64
  | 0, s => s
  | k + 1, s => ((drN rd W nc k s).1 ||| ((1 : Int32) <<< (nI (pkN (wtN rd W (drN rd W nc k s).1) (lotN ((drN rd W nc k s).2 * 6364136223846793005 + 1442695040888963407) % csN (wtN rd W (drN rd W nc k s).1) nc) nc) &&& 31)), (drN rd W nc k s).2 * 6364136223846793005 + 1442695040888963407)
theorem ctB_le (p : Nat → Bool) : ∀ n, ctB p n ≤ n
  | 0 => Nat.le_refl _
  | n + 1 => by rw [ctB]; have := ctB_le p n; split <;> omega
theorem ctB_mono {p q : Nat → Bool} : ∀ {n : Nat}, (∀ c, c < n → p c = true → q c = true) → ctB p n ≤ ctB q n
  | 0, _ => Nat.le_refl _
  | n + 1, h => by
    rw [ctB, ctB]
    have h1 := ctB_mono (n := n) (fun c hc => h c (by omega))
    have h2 := h n (by omega)
    cases hp : p n
    · cases hq : q n <;> simp <;> omega
    · rw [h2 hp]; simp; exact h1
theorem ctB_add {p q : Nat → Bool} {i : Nat} : ∀ {n : Nat}, i < n → p i = false → (∀ c, c < n → q c = (p c || decide (c = i))) → ctB q n = ctB p n + 1
  | 0, h, _, _ => absurd h (Nat.not_lt_zero _)
  | n + 1, h, h0, hq => by
    rw [ctB, ctB, hq n (by omega)]
    by_cases c : i = n
    · subst c
      have : ctB q i = ctB p i := ctB_congr (fun k hk => by rw [hq k (by omega), decide_eq_false (by omega), Bool.or_false])
      rw [this, h0]; simp
    · rw [ctB_add (by omega) h0 (fun k hk => hq k (by omega)), decide_eq_false (fun z => c z.symm), Bool.or_false]
      omega
theorem ctB_ex {p q : Nat → Bool} {n : Nat} (h : ctB q n < ctB p n) : ∃ c, c < n ∧ p c = true ∧ q c = false := by
  apply Classical.byContradiction
  intro hn
  have := ctB_mono (p := p) (q := q) (n := n) (fun c hc hp => by
    cases hq : q c
    · exact absurd ⟨c, hc, hp, hq⟩ hn
    · rfl)
  omega
theorem csN_pos {w : Nat → Nat} {c : Nat} : ∀ {n : Nat}, c < n → 0 < w c → 0 < csN w n
  | 0, h, _ => absurd h (Nat.not_lt_zero _)
  | n + 1, h, hw => by
    rw [csN]
    by_cases q : c = n
    · subst q; omega
    · have := csN_pos (n := n) (by omega) hw; omega
/-- behind k draws: k of those ready are drawn, the others weigh something -/
theorem drN_ok {rd : Nat → Bool} {W : Nat → Nat} {nc n : Nat} {x : Int64} (hc : nc ≤ 7) (hW : ∀ c, rd c = true → 0 < W c) (hn : n ≤ ctB rd nc) : ∀ k, k ≤ n → ctB (fun c => bt (drN rd W nc k (0, x)).1 c && rd c) nc = k ∧ (k < n → 0 < csN (wtN rd W (drN rd W nc k (0, x)).1) nc)
  | 0, _ => by
    have e : ctB (fun c => bt (drN rd W nc 0 (0, x)).1 c && rd c) nc = 0 := by
      have : ctB (fun c => bt (drN rd W nc 0 (0, x)).1 c && rd c) nc = ctB (fun _ => false) nc := ctB_congr (fun c _ => by show (bt 0 c && rd c) = false; rw [b_0, Bool.false_and])
      rw [this]
      clear this hn
      induction nc with
      | zero => rfl
      | succ m ih => rw [ctB, ih (by omega)]; rfl
    refine ⟨e, fun hk => ?_⟩
    obtain ⟨c, c1, c2, c3⟩ := ctB_ex (p := rd) (q := fun c => bt (drN rd W nc 0 (0, x)).1 c && rd c) (n := nc) (by omega)
    refine csN_pos c1 ?_
    have c4 : bt (drN rd W nc 0 (0, x)).1 c = false := b_0 c
    unfold wtN
    rw [if_pos ⟨c2, c4⟩]
    exact hW c c2
  | k + 1, hk => by
    obtain ⟨h1, h2⟩ := drN_ok hc hW hn k (by omega)
    have h3 := h2 (by omega)
    obtain ⟨p1, p2, p3⟩ := pkN_in (w := wtN rd W (drN rd W nc k (0, x)).1) (lot := lotN ((drN rd W nc k (0, x)).2 * 6364136223846793005 + 1442695040888963407) % csN (wtN rd W (drN rd W nc k (0, x)).1) nc) (n := nc) (Nat.mod_lt _ h3)
    have hwi : rd (pkN (wtN rd W (drN rd W nc k (0, x)).1) (lotN ((drN rd W nc k (0, x)).2 * 6364136223846793005 + 1442695040888963407) % csN (wtN rd W (drN rd W nc k (0, x)).1) nc) nc) = true ∧ bt (drN rd W nc k (0, x)).1 (pkN (wtN rd W (drN rd W nc k (0, x)).1) (lotN ((drN rd W nc k (0, x)).2 * 6364136223846793005 + 1442695040888963407) % csN (wtN rd W (drN rd W nc k (0, x)).1) nc) nc) = false := by
      rw [csN] at p3
      apply Classical.byContradiction
      intro hq
      have : wtN rd W (drN rd W nc k (0, x)).1 (pkN (wtN rd W (drN rd W nc k (0, x)).1) (lotN ((drN rd W nc k (0, x)).2 * 6364136223846793005 + 1442695040888963407) % csN (wtN rd W (drN rd W nc k (0, x)).1) nc) nc) = 0 := by unfold wtN at hq ⊢; rw [if_neg hq]
      omega
    have e : ctB (fun c => bt (drN rd W nc (k + 1) (0, x)).1 c && rd c) nc = k + 1 := by
      refine Eq.trans (ctB_add (p := fun c => bt (drN rd W nc k (0, x)).1 c && rd c) (i := pkN (wtN rd W (drN rd W nc k (0, x)).1) (lotN ((drN rd W nc k (0, x)).2 * 6364136223846793005 + 1442695040888963407) % csN (wtN rd W (drN rd W nc k (0, x)).1) nc) nc) p1 (by rw [hwi.2, Bool.false_and]) (fun c hcn => ?_)) (by rw [h1])
      rw [drN]
      simp only []
      rw [bt_set _ (by omega) (by omega)]
      by_cases q : c = pkN (wtN rd W (drN rd W nc k (0, x)).1) (lotN ((drN rd W nc k (0, x)).2 * 6364136223846793005 + 1442695040888963407) % csN (wtN rd W (drN rd W nc k (0, x)).1) nc) nc
      · rw [← q] at hwi
        rw [hwi.1, hwi.2]; simp [q]
      · simp [q]
    refine ⟨e, fun hk2 => ?_⟩
    obtain ⟨c, c1, c2, c3⟩ := ctB_ex (p := rd) (q := fun c => bt (drN rd W nc (k + 1) (0, x)).1 c && rd c) (n := nc) (by omega)
    refine csN_pos c1 ?_
    have c4 : bt (drN rd W nc (k + 1) (0, x)).1 c = false := by
      have c5 : (bt (drN rd W nc (k + 1) (0, x)).1 c && rd c) = false := c3
      rw [c2, Bool.and_true] at c5
      exact c5
    unfold wtN
    rw [if_pos ⟨c2, c4⟩]
    exact hW c c2
/-- the class's job of the open day -/
def DJ (M : Mem) (f : Nat → Nat → Int32) (ad : Nat → Nat → Nat) (nt : Nat) (rd : Nat → Bool) (W : Nat → Nat) (c : Nat) : Prop :=
  (mR M (ad 0 5) c = none ∧ rd c = false) ∨ (∃ b, mR M (ad 0 5) c = some (ad 6 b) ∧ ob M (ad 6 b) 3 ∧ f (ad 6 b) 8 = -1 ∧ rd c = false) ∨
  ∃ b t w0 w1, mR M (ad 0 5) c = some (ad 6 b) ∧ ob M (ad 6 b) 3 ∧ ¬ f (ad 6 b) 8 = -1 ∧ rd c = true ∧ t < nt ∧ f (ad 6 b) 9 = nI t ∧ f (ad 4 t) 0 = nI w0 ∧ f (ad 4 t) 1 = nI w1 ∧ W c = 1 + w0 + w1

set_option maxRecDepth 100000 in
theorem s_CY_weightOf {d : Nat} {M : Mem} {f : Nat → Nat → Int32} {g : Nat → Nat → Int64} {ad : Nat → Nat → Nat} {R : Option Value → Mem → Prop} {nt c : Nat} {rd : Nat → Bool} {W : Nat → Nat} {X : Int32} (hd : 2 ≤ d) (hF : Fx M ad) (hT : Ts M ad nt) (hn : f (ad 0 0) 5 = nI nt) (hl : nt ≤ 3) (hc : c < 7) (hj : DJ M f ad nt rd W c) (hR : R (some (.int (nI (wtN rd W X c)))) (mm M f g)) : Call d 180 [.ref (ad 0 0), .int (nI c), .int X] (mm M f g) R := by
  rcases hj with ⟨hr, hrd⟩ | ⟨b, hr, ho, h8, hrd⟩ | ⟨b, t, w0, w1, hr, ho, h8, hrd, ht, h9, hw0, hw1, hWc⟩
  ·
    show Go d 180 0 0 0 [.ref (ad 0 0), .int (nI c), .int X, .retAddr 0, .retAddr 0] [] (mm M f g) R
    refine go_blk 6 [some (.ref (ad 0 5)), some .null] (pc' := 8) (vs' := [.ref (ad 0 0), .int (nI c), .int X, .null, .retAddr 0]) (st' := [.null]) (M' := mm M f g) (ps := [ob (mm M f g) (ad 0 0) 11, mR (mm M f g) (ad 0 0) 11 = some (ad 0 5), va_rf (some (ad 0 5)) = .ref (ad 0 5), ob (mm M f g) (ad 0 5) 19, 17 ≤ 19 ∧ 19 < 22, vp_in (nI c) (mN (mm M f g) (ad 0 5)), mR (mm M f g) (ad 0 5) ((nI c).toNatClampNeg) = none, va_rf none = .null]) rfl ⟨(hF.o 0), (hF.r 0 11 5), rfl, (hF.o 5), (by decide), (vpi (hF.n 5) (show c < 7 by omega)), (cl_rf rfl (by omega) hr), rfl, trivial⟩ ?_
    refine go_ifnull0 rfl ?_
    refine go_blk 1 [] (pc' := 27) (vs' := [.ref (ad 0 0), .int (nI c), .int X, .null, .retAddr 0]) (st' := [.int 0]) (M' := mm M f g) (ps := []) rfl trivial ?_
    refine go_iret rfl rfl ?_
    rw [show wtN rd W X c = 0 from if_neg (by rw [hrd]; intro z; exact absurd z.1 (by decide))] at hR; exact hR
  ·
    show Go d 180 0 0 0 [.ref (ad 0 0), .int (nI c), .int X, .retAddr 0, .retAddr 0] [] (mm M f g) R
    refine go_blk 6 [some (.ref (ad 0 5)), some (.ref (ad 6 b))] (pc' := 8) (vs' := [.ref (ad 0 0), .int (nI c), .int X, .ref (ad 6 b), .retAddr 0]) (st' := [.ref (ad 6 b)]) (M' := mm M f g) (ps := [ob (mm M f g) (ad 0 0) 11, mR (mm M f g) (ad 0 0) 11 = some (ad 0 5), va_rf (some (ad 0 5)) = .ref (ad 0 5), ob (mm M f g) (ad 0 5) 19, 17 ≤ 19 ∧ 19 < 22, vp_in (nI c) (mN (mm M f g) (ad 0 5)), mR (mm M f g) (ad 0 5) ((nI c).toNatClampNeg) = some (ad 6 b), va_rf (some (ad 6 b)) = .ref (ad 6 b)]) rfl ⟨(hF.o 0), (hF.r 0 11 5), rfl, (hF.o 5), (by decide), (vpi (hF.n 5) (show c < 7 by omega)), (cl_rf rfl (by omega) hr), rfl, trivial⟩ ?_
    refine go_ifnull1 rfl ?_
    refine go_blk 1 [] (pc' := 12) (vs' := [.ref (ad 0 0), .int (nI c), .int X, .ref (ad 6 b), .retAddr 0]) (st' := [.ref (ad 6 b)]) (M' := mm M f g) (ps := []) rfl trivial ?_
    refine go_callV rfl rfl rfl (by omega) rfl (by decide) (by decide) ho ?_
    show Go (d - 1) 27 0 0 0 [.ref (ad 6 b)] [] (mm M f g) _
    refine go_blk 3 [some (.int (-1))] (pc' := 5) (vs' := [.ref (ad 6 b)]) (st' := [.int (-1), .int (-1)]) (M' := mm M f g) (ps := [ob (mm M f g) (ad 6 b) 3, (Value.int (f (ad 6 b) 8)) = .int (-1)]) rfl ⟨ho, congrArg Value.int h8, trivial⟩ ?_
    refine go_icmp rfl (fun _ => ?_) (fun (z : ¬ (((-1) : Int32) = (-1))) => absurd (show ((-1) : Int32) = (-1) from (by decide)) z)
    refine go_blk 1 [] (pc' := 13) (vs' := [.ref (ad 6 b)]) (st' := [.int 0]) (M' := mm M f g) (ps := []) rfl trivial ?_
    refine go_zret rfl rfl (Or.inl rfl) ?_
    refine ⟨ne_i, ?_⟩
    show Go d 180 0 0 15 [.ref (ad 0 0), .int (nI c), .int X, .ref (ad 6 b), .retAddr 0] [.int 0] (mm M f g) R
    refine go_if rfl (fun _ => ?_) (fun (z : ¬ ((0 : Int32) = 0)) => absurd (show (0 : Int32) = 0 from (by decide)) z)
    refine go_blk 1 [] (pc' := 27) (vs' := [.ref (ad 0 0), .int (nI c), .int X, .ref (ad 6 b), .retAddr 0]) (st' := [.int 0]) (M' := mm M f g) (ps := []) rfl trivial ?_
    refine go_iret rfl rfl ?_
    rw [show wtN rd W X c = 0 from if_neg (by rw [hrd]; intro z; exact absurd z.1 (by decide))] at hR; exact hR
  ·
    show Go d 180 0 0 0 [.ref (ad 0 0), .int (nI c), .int X, .retAddr 0, .retAddr 0] [] (mm M f g) R
    refine go_blk 6 [some (.ref (ad 0 5)), some (.ref (ad 6 b))] (pc' := 8) (vs' := [.ref (ad 0 0), .int (nI c), .int X, .ref (ad 6 b), .retAddr 0]) (st' := [.ref (ad 6 b)]) (M' := mm M f g) (ps := [ob (mm M f g) (ad 0 0) 11, mR (mm M f g) (ad 0 0) 11 = some (ad 0 5), va_rf (some (ad 0 5)) = .ref (ad 0 5), ob (mm M f g) (ad 0 5) 19, 17 ≤ 19 ∧ 19 < 22, vp_in (nI c) (mN (mm M f g) (ad 0 5)), mR (mm M f g) (ad 0 5) ((nI c).toNatClampNeg) = some (ad 6 b), va_rf (some (ad 6 b)) = .ref (ad 6 b)]) rfl ⟨(hF.o 0), (hF.r 0 11 5), rfl, (hF.o 5), (by decide), (vpi (hF.n 5) (show c < 7 by omega)), (cl_rf rfl (by omega) hr), rfl, trivial⟩ ?_
    refine go_ifnull1 rfl ?_
    refine go_blk 1 [] (pc' := 12) (vs' := [.ref (ad 0 0), .int (nI c), .int X, .ref (ad 6 b), .retAddr 0]) (st' := [.ref (ad 6 b)]) (M' := mm M f g) (ps := []) rfl trivial ?_
    refine go_callV rfl rfl rfl (by omega) rfl (by decide) (by decide) ho ?_
    show Go (d - 1) 27 0 0 0 [.ref (ad 6 b)] [] (mm M f g) _
    refine go_blk 3 [] (pc' := 5) (vs' := [.ref (ad 6 b)]) (st' := [.int (-1), .int (f (ad 6 b) 8)]) (M' := mm M f g) (ps := [ob (mm M f g) (ad 6 b) 3]) rfl ⟨ho, trivial⟩ ?_
    refine go_icmp rfl (fun (z : (f (ad 6 b) 8) = (-1)) => absurd z (show ¬ ((f (ad 6 b) 8) = (-1)) from h8)) (fun _ => ?_)
    refine go_blk 2 [] (pc' := 13) (vs' := [.ref (ad 6 b)]) (st' := [.int 1]) (M' := mm M f g) (ps := []) rfl trivial ?_
    refine go_zret rfl rfl (Or.inr rfl) ?_
    refine ⟨ne_i, ?_⟩
    show Go d 180 0 0 15 [.ref (ad 0 0), .int (nI c), .int X, .ref (ad 6 b), .retAddr 0] [.int 1] (mm M f g) R
    refine go_if rfl (fun (z : (1 : Int32) = 0) => absurd z (show ¬ ((1 : Int32) = 0) from (by decide))) (fun _ => ?_)
    refine go_blk 5 [] (pc' := 23) (vs' := [.ref (ad 0 0), .int (nI c), .int X, .ref (ad 6 b), .retAddr 0]) (st' := [.int (((X.toUInt32 >>> ((nI c).toUInt32 &&& Int32.toUInt32 31)).toInt32) &&& 1)]) (M' := mm M f g) (ps := []) rfl trivial ?_
    refine go_if rfl (fun (c1 : (((X.toUInt32 >>> ((nI c).toUInt32 &&& Int32.toUInt32 31)).toInt32) &&& 1) = 0) => ?_) (fun (c1 : ¬ ((((X.toUInt32 >>> ((nI c).toUInt32 &&& Int32.toUInt32 31)).toInt32) &&& 1) = 0)) => ?_)
    · -- (((X.toUInt32 >>> ((nI c).toUInt32 &&& Int32.toUInt32 31)).toInt32) &&& 1) = 0
      refine go_blk 3 [some (.int (nI t))] (pc' := 33) (vs' := [.ref (ad 0 0), .int (nI c), .int X, .ref (ad 6 b), .retAddr 0]) (st' := [.int (nI t), .ref (ad 0 0)]) (M' := mm M f g) (ps := [ob (mm M f g) (ad 6 b) 3, (Value.int (f (ad 6 b) 9)) = .int (nI t)]) rfl ⟨ho, congrArg Value.int h9, trivial⟩ ?_
      refine go_callV rfl rfl rfl (by omega) rfl (by decide) (by decide) (hF.o 0) ?_
      refine s_CY_teamAt (by omega) hF hT hn hl (fun j2 hj2 hx2 => ⟨ne_a, ?_⟩) (fun c2 => ⟨ne_0, ?_⟩)
      · -- ('r', 'ad 3 j2')
        obtain rfl : t = j2 := (nI_eqs (by omega) (by omega)).mp hx2
        show Go d 180 0 0 36 [.ref (ad 0 0), .int (nI c), .int X, .ref (ad 6 b), .retAddr 0] [.ref (ad 3 t)] (mm M f g) R
        refine go_blk 2 [] (pc' := 40) (vs' := [.ref (ad 0 0), .int (nI c), .int X, .ref (ad 6 b), .ref (ad 3 t)]) (st' := [.ref (ad 3 t)]) (M' := mm M f g) (ps := []) rfl trivial ?_
        refine go_ifnon1 rfl ?_
        refine go_blk 11 [some (.ref (ad 4 t)), some (.int (nI w0)), some (.ref (ad 4 t)), some (.int (nI w1))] (pc' := 64) (vs' := [.ref (ad 0 0), .int (nI c), .int X, .ref (ad 6 b), .ref (ad 3 t)]) (st' := [.int ((1 + (nI w0)) + (nI w1))]) (M' := mm M f g) (ps := [ob (mm M f g) (ad 3 t) 8, mR (mm M f g) (ad 3 t) 2 = some (ad 4 t), va_rf (some (ad 4 t)) = .ref (ad 4 t), ob (mm M f g) (ad 4 t) 15, vp_in 0 (mN (mm M f g) (ad 4 t)), (Value.int (f (ad 4 t) ((0 : Int32).toNatClampNeg))) = .int (nI w0), ob (mm M f g) (ad 3 t) 8, mR (mm M f g) (ad 3 t) 2 = some (ad 4 t), va_rf (some (ad 4 t)) = .ref (ad 4 t), ob (mm M f g) (ad 4 t) 15, vp_in 1 (mN (mm M f g) (ad 4 t)), (Value.int (f (ad 4 t) ((1 : Int32).toNatClampNeg))) = .int (nI w1)]) rfl ⟨(hT t (by assumption)).2.1, (hT t (by assumption)).2.2.1.1, rfl, (hT t (by assumption)).2.2.1.2.1, (vpi (i := 0) (hT t (by assumption)).2.2.1.2.2 (by decide)), congrArg Value.int ((congrArg (fun z => f (ad 4 t) z) (cl_of (show (0 : Int32) = nI 0 from rfl) (by omega))).trans hw0), (hT t (by assumption)).2.1, (hT t (by assumption)).2.2.1.1, rfl, (hT t (by assumption)).2.2.1.2.1, (vpi (i := 1) (hT t (by assumption)).2.2.1.2.2 (by decide)), congrArg Value.int ((congrArg (fun z => f (ad 4 t) z) (cl_of (show (1 : Int32) = nI 1 from rfl) (by omega))).trans hw1), trivial⟩ ?_
        refine go_iret rfl rfl ?_
        rw [show wtN rd W X c = 1 + w0 + w1 from (if_pos ⟨hrd, by have cb2 := c1; rw [bit_u X hc] at cb2; cases hb : bt X c; rfl; rw [hb] at cb2; exact absurd cb2 (by decide)⟩).trans hWc, ← nI_add, ← nI_add] at hR; exact hR
      · exact absurd ⟨t, ht, rfl⟩ c2
    · -- ¬ ((((X.toUInt32 >>> ((nI c).toUInt32 &&& Int32.toUInt32 31)).toInt32) &&& 1) = 0)
      refine go_blk 1 [] (pc' := 27) (vs' := [.ref (ad 0 0), .int (nI c), .int X, .ref (ad 6 b), .retAddr 0]) (st' := [.int 0]) (M' := mm M f g) (ps := []) rfl trivial ?_
      refine go_iret rfl rfl ?_
      rw [show wtN rd W X c = 0 from if_neg (by intro z; rw [bit_u X hc, z.2] at c1; exact c1 rfl)] at hR; exact hR

set_option maxRecDepth 100000 in
theorem lp_CY_readyJobs {d : Nat} {M : Mem} {f : Nat → Nat → Int32} {g : Nat → Nat → Int64} {ad : Nat → Nat → Nat} {R : Option Value → Mem → Prop} {nt nc : Nat} {rd : Nat → Bool} {W : Nat → Nat} (hd : 1 ≤ d) (hF : Fx M ad) (hT : Ts M ad nt) (hn : f (ad 0 0) 5 = nI nt) (hl : nt ≤ 3) (nc1 : f (ad 0 0) 1 = nI nc) (nc3 : nc ≤ 7) (hj : ∀ c, c < nc → DJ M f ad nt rd W c) (hx : Go d 179 0 0 42 [.ref (ad 0 0), .int (nI (ctB rd nc)), .int (nI nc)] [] (mm M f g) R) : ∀ c, c ≤ nc → Go d 179 0 0 4 [.ref (ad 0 0), .int (nI (ctB rd c)), .int (nI c)] [] (mm M f g) R := by
  refine up_ind (P := fun c => Go d 179 0 0 4 [.ref (ad 0 0), .int (nI (ctB rd c)), .int (nI c)] [] (mm M f g) R) nc ?_ (fun c hi ih => ?_)
  ·
    show Go d 179 0 0 4 [.ref (ad 0 0), .int (nI (ctB rd nc)), .int (nI nc)] [] (mm M f g) R
    refine go_blk 3 [some (.int (nI nc))] (pc' := 9) (vs' := [.ref (ad 0 0), .int (nI (ctB rd nc)), .int (nI nc)]) (st' := [.int (nI nc), .int (nI nc)]) (M' := mm M f g) (ps := [ob (mm M f g) (ad 0 0) 11, (Value.int (f (ad 0 0) 1)) = .int (nI nc)]) rfl ⟨(hF.o 0), congrArg Value.int nc1, trivial⟩ ?_
    refine go_icmp rfl (fun _ => ?_) (fun (z : ¬ (nI nc ≤ (nI nc))) => absurd (show nI nc ≤ (nI nc) from Int32.le_refl _) z)
    exact hx
  · rcases hj c hi with ⟨hr, hrd⟩ | ⟨b, hr, ho, h8, hrd⟩ | ⟨b, t, w0, w1, hr, ho, h8, hrd, ht, h9, hw0, hw1, hWc⟩
    ·
      show Go d 179 0 0 4 [.ref (ad 0 0), .int (nI (ctB rd c)), .int (nI c)] [] (mm M f g) R
      refine go_blk 3 [some (.int (nI nc))] (pc' := 9) (vs' := [.ref (ad 0 0), .int (nI (ctB rd c)), .int (nI c)]) (st' := [.int (nI nc), .int (nI c)]) (M' := mm M f g) (ps := [ob (mm M f g) (ad 0 0) 11, (Value.int (f (ad 0 0) 1)) = .int (nI nc)]) rfl ⟨(hF.o 0), congrArg Value.int nc1, trivial⟩ ?_
      refine go_icmp rfl (fun (z : nI nc ≤ (nI c)) => absurd z (show ¬ (nI nc ≤ (nI c)) from (Int32.not_le.mpr ((nI_lts (a := c) (b := nc) (by omega) (by omega)).mpr hi)))) (fun _ => ?_)
      refine go_blk 4 [some (.ref (ad 0 5)), some .null] (pc' := 18) (vs' := [.ref (ad 0 0), .int (nI (ctB rd c)), .int (nI c)]) (st' := [.null]) (M' := mm M f g) (ps := [ob (mm M f g) (ad 0 0) 11, mR (mm M f g) (ad 0 0) 11 = some (ad 0 5), va_rf (some (ad 0 5)) = .ref (ad 0 5), ob (mm M f g) (ad 0 5) 19, 17 ≤ 19 ∧ 19 < 22, vp_in (nI c) (mN (mm M f g) (ad 0 5)), mR (mm M f g) (ad 0 5) ((nI c).toNatClampNeg) = none, va_rf none = .null]) rfl ⟨(hF.o 0), (hF.r 0 11 5), rfl, (hF.o 5), (by decide), (vpi (hF.n 5) (show c < 7 by omega)), (cl_rf rfl (by omega) hr), rfl, trivial⟩ ?_
      refine go_ifnull0 rfl ?_
      refine go_blk 2 [] (pc' := 4) (vs' := [.ref (ad 0 0), .int (nI (ctB rd c)), .int ((nI c) + 1)]) (st' := []) (M' := mm M f g) (ps := []) rfl trivial ?_
      have e1 : nI c + 1 = nI (c + 1) := nI_add c 1
      have e2 : nI (ctB rd c) = nI (ctB rd (c + 1)) := by rw [ctB, hrd]; rfl
      rw [e1, e2]
      exact ih
    ·
      show Go d 179 0 0 4 [.ref (ad 0 0), .int (nI (ctB rd c)), .int (nI c)] [] (mm M f g) R
      refine go_blk 3 [some (.int (nI nc))] (pc' := 9) (vs' := [.ref (ad 0 0), .int (nI (ctB rd c)), .int (nI c)]) (st' := [.int (nI nc), .int (nI c)]) (M' := mm M f g) (ps := [ob (mm M f g) (ad 0 0) 11, (Value.int (f (ad 0 0) 1)) = .int (nI nc)]) rfl ⟨(hF.o 0), congrArg Value.int nc1, trivial⟩ ?_
      refine go_icmp rfl (fun (z : nI nc ≤ (nI c)) => absurd z (show ¬ (nI nc ≤ (nI c)) from (Int32.not_le.mpr ((nI_lts (a := c) (b := nc) (by omega) (by omega)).mpr hi)))) (fun _ => ?_)
      refine go_blk 4 [some (.ref (ad 0 5)), some (.ref (ad 6 b))] (pc' := 18) (vs' := [.ref (ad 0 0), .int (nI (ctB rd c)), .int (nI c)]) (st' := [.ref (ad 6 b)]) (M' := mm M f g) (ps := [ob (mm M f g) (ad 0 0) 11, mR (mm M f g) (ad 0 0) 11 = some (ad 0 5), va_rf (some (ad 0 5)) = .ref (ad 0 5), ob (mm M f g) (ad 0 5) 19, 17 ≤ 19 ∧ 19 < 22, vp_in (nI c) (mN (mm M f g) (ad 0 5)), mR (mm M f g) (ad 0 5) ((nI c).toNatClampNeg) = some (ad 6 b), va_rf (some (ad 6 b)) = .ref (ad 6 b)]) rfl ⟨(hF.o 0), (hF.r 0 11 5), rfl, (hF.o 5), (by decide), (vpi (hF.n 5) (show c < 7 by omega)), (cl_rf rfl (by omega) hr), rfl, trivial⟩ ?_
      refine go_ifnull1 rfl ?_
      refine go_blk 4 [some (.ref (ad 0 5)), some (.ref (ad 6 b))] (pc' := 27) (vs' := [.ref (ad 0 0), .int (nI (ctB rd c)), .int (nI c)]) (st' := [.ref (ad 6 b)]) (M' := mm M f g) (ps := [ob (mm M f g) (ad 0 0) 11, mR (mm M f g) (ad 0 0) 11 = some (ad 0 5), va_rf (some (ad 0 5)) = .ref (ad 0 5), ob (mm M f g) (ad 0 5) 19, 17 ≤ 19 ∧ 19 < 22, vp_in (nI c) (mN (mm M f g) (ad 0 5)), mR (mm M f g) (ad 0 5) ((nI c).toNatClampNeg) = some (ad 6 b), va_rf (some (ad 6 b)) = .ref (ad 6 b)]) rfl ⟨(hF.o 0), (hF.r 0 11 5), rfl, (hF.o 5), (by decide), (vpi (hF.n 5) (show c < 7 by omega)), (cl_rf rfl (by omega) hr), rfl, trivial⟩ ?_
      refine go_callV rfl rfl rfl (by omega) rfl (by decide) (by decide) ho ?_
      show Go (d - 1) 27 0 0 0 [.ref (ad 6 b)] [] (mm M f g) _
      refine go_blk 3 [some (.int (-1))] (pc' := 5) (vs' := [.ref (ad 6 b)]) (st' := [.int (-1), .int (-1)]) (M' := mm M f g) (ps := [ob (mm M f g) (ad 6 b) 3, (Value.int (f (ad 6 b) 8)) = .int (-1)]) rfl ⟨ho, congrArg Value.int h8, trivial⟩ ?_
      refine go_icmp rfl (fun _ => ?_) (fun (z : ¬ (((-1) : Int32) = (-1))) => absurd (show ((-1) : Int32) = (-1) from (by decide)) z)
      refine go_blk 1 [] (pc' := 13) (vs' := [.ref (ad 6 b)]) (st' := [.int 0]) (M' := mm M f g) (ps := []) rfl trivial ?_
      refine go_zret rfl rfl (Or.inl rfl) ?_
      refine ⟨ne_i, ?_⟩
      show Go d 179 0 0 30 [.ref (ad 0 0), .int (nI (ctB rd c)), .int (nI c)] [.int 0] (mm M f g) R
      refine go_if rfl (fun _ => ?_) (fun (z : ¬ ((0 : Int32) = 0)) => absurd (show (0 : Int32) = 0 from (by decide)) z)
      refine go_blk 2 [] (pc' := 4) (vs' := [.ref (ad 0 0), .int (nI (ctB rd c)), .int ((nI c) + 1)]) (st' := []) (M' := mm M f g) (ps := []) rfl trivial ?_
      have e1 : nI c + 1 = nI (c + 1) := nI_add c 1
      have e2 : nI (ctB rd c) = nI (ctB rd (c + 1)) := by rw [ctB, hrd]; rfl
      rw [e1, e2]
      exact ih
    ·
      show Go d 179 0 0 4 [.ref (ad 0 0), .int (nI (ctB rd c)), .int (nI c)] [] (mm M f g) R
      refine go_blk 3 [some (.int (nI nc))] (pc' := 9) (vs' := [.ref (ad 0 0), .int (nI (ctB rd c)), .int (nI c)]) (st' := [.int (nI nc), .int (nI c)]) (M' := mm M f g) (ps := [ob (mm M f g) (ad 0 0) 11, (Value.int (f (ad 0 0) 1)) = .int (nI nc)]) rfl ⟨(hF.o 0), congrArg Value.int nc1, trivial⟩ ?_
      refine go_icmp rfl (fun (z : nI nc ≤ (nI c)) => absurd z (show ¬ (nI nc ≤ (nI c)) from (Int32.not_le.mpr ((nI_lts (a := c) (b := nc) (by omega) (by omega)).mpr hi)))) (fun _ => ?_)
      refine go_blk 4 [some (.ref (ad 0 5)), some (.ref (ad 6 b))] (pc' := 18) (vs' := [.ref (ad 0 0), .int (nI (ctB rd c)), .int (nI c)]) (st' := [.ref (ad 6 b)]) (M' := mm M f g) (ps := [ob (mm M f g) (ad 0 0) 11, mR (mm M f g) (ad 0 0) 11 = some (ad 0 5), va_rf (some (ad 0 5)) = .ref (ad 0 5), ob (mm M f g) (ad 0 5) 19, 17 ≤ 19 ∧ 19 < 22, vp_in (nI c) (mN (mm M f g) (ad 0 5)), mR (mm M f g) (ad 0 5) ((nI c).toNatClampNeg) = some (ad 6 b), va_rf (some (ad 6 b)) = .ref (ad 6 b)]) rfl ⟨(hF.o 0), (hF.r 0 11 5), rfl, (hF.o 5), (by decide), (vpi (hF.n 5) (show c < 7 by omega)), (cl_rf rfl (by omega) hr), rfl, trivial⟩ ?_
      refine go_ifnull1 rfl ?_
      refine go_blk 4 [some (.ref (ad 0 5)), some (.ref (ad 6 b))] (pc' := 27) (vs' := [.ref (ad 0 0), .int (nI (ctB rd c)), .int (nI c)]) (st' := [.ref (ad 6 b)]) (M' := mm M f g) (ps := [ob (mm M f g) (ad 0 0) 11, mR (mm M f g) (ad 0 0) 11 = some (ad 0 5), va_rf (some (ad 0 5)) = .ref (ad 0 5), ob (mm M f g) (ad 0 5) 19, 17 ≤ 19 ∧ 19 < 22, vp_in (nI c) (mN (mm M f g) (ad 0 5)), mR (mm M f g) (ad 0 5) ((nI c).toNatClampNeg) = some (ad 6 b), va_rf (some (ad 6 b)) = .ref (ad 6 b)]) rfl ⟨(hF.o 0), (hF.r 0 11 5), rfl, (hF.o 5), (by decide), (vpi (hF.n 5) (show c < 7 by omega)), (cl_rf rfl (by omega) hr), rfl, trivial⟩ ?_
      refine go_callV rfl rfl rfl (by omega) rfl (by decide) (by decide) ho ?_
      show Go (d - 1) 27 0 0 0 [.ref (ad 6 b)] [] (mm M f g) _
      refine go_blk 3 [] (pc' := 5) (vs' := [.ref (ad 6 b)]) (st' := [.int (-1), .int (f (ad 6 b) 8)]) (M' := mm M f g) (ps := [ob (mm M f g) (ad 6 b) 3]) rfl ⟨ho, trivial⟩ ?_
      refine go_icmp rfl (fun (z : (f (ad 6 b) 8) = (-1)) => absurd z (show ¬ ((f (ad 6 b) 8) = (-1)) from h8)) (fun _ => ?_)
      refine go_blk 2 [] (pc' := 13) (vs' := [.ref (ad 6 b)]) (st' := [.int 1]) (M' := mm M f g) (ps := []) rfl trivial ?_
      refine go_zret rfl rfl (Or.inr rfl) ?_
      refine ⟨ne_i, ?_⟩
      show Go d 179 0 0 30 [.ref (ad 0 0), .int (nI (ctB rd c)), .int (nI c)] [.int 1] (mm M f g) R
      refine go_if rfl (fun (z : (1 : Int32) = 0) => absurd z (show ¬ ((1 : Int32) = 0) from (by decide))) (fun _ => ?_)
      refine go_blk 3 [] (pc' := 4) (vs' := [.ref (ad 0 0), .int ((nI (ctB rd c)) + 1), .int ((nI c) + 1)]) (st' := []) (M' := mm M f g) (ps := []) rfl trivial ?_
      have e1 : nI c + 1 = nI (c + 1) := nI_add c 1
      have e2 : nI (ctB rd c) + 1 = nI (ctB rd (c + 1)) := by rw [ctB, hrd]; exact nI_add _ 1
      rw [e1, e2]
      exact ih

set_option maxRecDepth 100000 in
theorem s_CY_readyJobs {d : Nat} {M : Mem} {f : Nat → Nat → Int32} {g : Nat → Nat → Int64} {ad : Nat → Nat → Nat} {R : Option Value → Mem → Prop} {nt nc : Nat} {rd : Nat → Bool} {W : Nat → Nat} (hd : 1 ≤ d) (hF : Fx M ad) (hT : Ts M ad nt) (hn : f (ad 0 0) 5 = nI nt) (hl : nt ≤ 3) (nc1 : f (ad 0 0) 1 = nI nc) (nc3 : nc ≤ 7) (hj : ∀ c, c < nc → DJ M f ad nt rd W c) (hR : R (some (.int (nI (ctB rd nc)))) (mm M f g)) : Call d 179 [.ref (ad 0 0)] (mm M f g) R := by
  show Go d 179 0 0 0 [.ref (ad 0 0), .retAddr 0, .retAddr 0] [] (mm M f g) R
  refine go_blk 4 [] (pc' := 4) (vs' := [.ref (ad 0 0), .int 0, .int 0]) (st' := []) (M' := mm M f g) (ps := []) rfl trivial ?_
  refine lp_CY_readyJobs hd hF hT hn hl nc1 nc3 hj ?_ 0 (Nat.zero_le _)
  show Go d 179 0 0 42 [.ref (ad 0 0), .int (nI (ctB rd nc)), .int (nI nc)] [] (mm M f g) R
  refine go_blk 1 [] (pc' := 43) (vs' := [.ref (ad 0 0), .int (nI (ctB rd nc)), .int (nI nc)]) (st' := [.int (nI (ctB rd nc))]) (M' := mm M f g) (ps := []) rfl trivial ?_
  refine go_iret rfl rfl ?_
  exact hR

set_option maxRecDepth 100000 in
theorem lp_CY_drawOneA {d : Nat} {M : Mem} {f : Nat → Nat → Int32} {g : Nat → Nat → Int64} {ad : Nat → Nat → Nat} {R : Option Value → Mem → Prop} {nt nc : Nat} {rd : Nat → Bool} {W : Nat → Nat} {X : Int32} {m : Nat} (hd : 3 ≤ d) (hF : Fx M ad) (hT : Ts M ad nt) (hn : f (ad 0 0) 5 = nI nt) (hl : nt ≤ 3) (nc1 : f (ad 0 0) 1 = nI nc) (nc3 : nc ≤ 7) (hj : ∀ c, c < nc → DJ M f ad nt rd W c) (hx : Go d 181 0 0 33 [.ref (ad 0 0), .int X, .long (lN m), .retAddr 1, .int (nI (csN (wtN rd W X) nc)), .int (nI nc), .retAddr 0] [] (mm M f g) R) : ∀ c, c ≤ nc → Go d 181 0 0 6 [.ref (ad 0 0), .int X, .long (lN m), .retAddr 1, .int (nI (csN (wtN rd W X) c)), .int (nI c), .retAddr 0] [] (mm M f g) R := by
  refine up_ind (P := fun c => Go d 181 0 0 6 [.ref (ad 0 0), .int X, .long (lN m), .retAddr 1, .int (nI (csN (wtN rd W X) c)), .int (nI c), .retAddr 0] [] (mm M f g) R) nc ?_ (fun c hi ih => ?_)
  ·
    show Go d 181 0 0 6 [.ref (ad 0 0), .int X, .long (lN m), .retAddr 1, .int (nI (csN (wtN rd W X) nc)), .int (nI nc), .retAddr 0] [] (mm M f g) R
    refine go_blk 3 [some (.int (nI nc))] (pc' := 12) (vs' := [.ref (ad 0 0), .int X, .long (lN m), .retAddr 1, .int (nI (csN (wtN rd W X) nc)), .int (nI nc), .retAddr 0]) (st' := [.int (nI nc), .int (nI nc)]) (M' := mm M f g) (ps := [ob (mm M f g) (ad 0 0) 11, (Value.int (f (ad 0 0) 1)) = .int (nI nc)]) rfl ⟨(hF.o 0), congrArg Value.int nc1, trivial⟩ ?_
    refine go_icmp rfl (fun _ => ?_) (fun (z : ¬ (nI nc ≤ (nI nc))) => absurd (show nI nc ≤ (nI nc) from Int32.le_refl _) z)
    exact hx
  ·
    show Go d 181 0 0 6 [.ref (ad 0 0), .int X, .long (lN m), .retAddr 1, .int (nI (csN (wtN rd W X) c)), .int (nI c), .retAddr 0] [] (mm M f g) R
    refine go_blk 3 [some (.int (nI nc))] (pc' := 12) (vs' := [.ref (ad 0 0), .int X, .long (lN m), .retAddr 1, .int (nI (csN (wtN rd W X) c)), .int (nI c), .retAddr 0]) (st' := [.int (nI nc), .int (nI c)]) (M' := mm M f g) (ps := [ob (mm M f g) (ad 0 0) 11, (Value.int (f (ad 0 0) 1)) = .int (nI nc)]) rfl ⟨(hF.o 0), congrArg Value.int nc1, trivial⟩ ?_
    refine go_icmp rfl (fun (z : nI nc ≤ (nI c)) => absurd z (show ¬ (nI nc ≤ (nI c)) from (Int32.not_le.mpr ((nI_lts (a := c) (b := nc) (by omega) (by omega)).mpr hi)))) (fun _ => ?_)
    refine go_blk 4 [] (pc' := 21) (vs' := [.ref (ad 0 0), .int X, .long (lN m), .retAddr 1, .int (nI (csN (wtN rd W X) c)), .int (nI c), .retAddr 0]) (st' := [.int X, .int (nI c), .ref (ad 0 0), .int (nI (csN (wtN rd W X) c))]) (M' := mm M f g) (ps := []) rfl trivial ?_
    refine go_callV rfl rfl rfl (by omega) rfl (by decide) (by decide) (hF.o 0) ?_
    refine s_CY_weightOf (rd := rd) (W := W) (by omega) hF hT hn hl (by omega) (hj c hi) ⟨ne_i, ?_⟩
    show Go d 181 0 0 24 [.ref (ad 0 0), .int X, .long (lN m), .retAddr 1, .int (nI (csN (wtN rd W X) c)), .int (nI c), .retAddr 0] [.int (nI (wtN rd W X c)), .int (nI (csN (wtN rd W X) c))] (mm M f g) R
    refine go_blk 4 [] (pc' := 6) (vs' := [.ref (ad 0 0), .int X, .long (lN m), .retAddr 1, .int ((nI (csN (wtN rd W X) c)) + (nI (wtN rd W X c))), .int ((nI c) + 1), .retAddr 0]) (st' := []) (M' := mm M f g) (ps := []) rfl trivial ?_
    have e1 : nI c + 1 = nI (c + 1) := nI_add c 1
    have e2 : nI (csN (wtN rd W X) c) + nI (wtN rd W X c) = nI (csN (wtN rd W X) (c + 1)) := nI_add _ _
    rw [e1, e2]
    exact ih

set_option maxRecDepth 100000 in
theorem lp_CY_drawOneB {d : Nat} {M : Mem} {f : Nat → Nat → Int32} {g : Nat → Nat → Int64} {ad : Nat → Nat → Nat} {R : Option Value → Mem → Prop} {nt nc : Nat} {rd : Nat → Bool} {W : Nat → Nat} {X y4 : Int32} {m lot : Nat} (hd : 3 ≤ d) (hF : Fx M ad) (hT : Ts M ad nt) (hn : f (ad 0 0) 5 = nI nt) (hl : nt ≤ 3) (nc1 : f (ad 0 0) 1 = nI nc) (nc3 : nc ≤ 7) (hj : ∀ c, c < nc → DJ M f ad nt rd W c) (hB : ∀ c, wtN rd W X c ≤ 200) (hlt : lot < csN (wtN rd W X) nc) (hR : ∀ i, i < nc → csN (wtN rd W X) i ≤ lot → lot < csN (wtN rd W X) (i + 1) → R (some (.int ((1 : Int32) <<< (nI i &&& 31)))) (mm M f g)) : ∀ c, c ≤ nc → csN (wtN rd W X) c ≤ lot → Go d 181 0 0 51 [.ref (ad 0 0), .int X, .long (lN m), .retAddr 1, .int y4, .int (nI (lot - csN (wtN rd W X) c)), .int (nI c)] [] (mm M f g) R := by
  have hcb := csN_b hB nc
  refine up_ind (P := fun c => csN (wtN rd W X) c ≤ lot → Go d 181 0 0 51 [.ref (ad 0 0), .int X, .long (lN m), .retAddr 1, .int y4, .int (nI (lot - csN (wtN rd W X) c)), .int (nI c)] [] (mm M f g) R) nc (fun z => absurd z (by omega)) (fun c hi ih hp => ?_)
  show Go d 181 0 0 51 [.ref (ad 0 0), .int X, .long (lN m), .retAddr 1, .int y4, .int (nI (lot - csN (wtN rd W X) c)), .int (nI c)] [] (mm M f g) R
  refine go_blk 3 [some (.int (nI nc))] (pc' := 57) (vs' := [.ref (ad 0 0), .int X, .long (lN m), .retAddr 1, .int y4, .int (nI (lot - csN (wtN rd W X) c)), .int (nI c)]) (st' := [.int (nI nc), .int (nI c)]) (M' := mm M f g) (ps := [ob (mm M f g) (ad 0 0) 11, (Value.int (f (ad 0 0) 1)) = .int (nI nc)]) rfl ⟨(hF.o 0), congrArg Value.int nc1, trivial⟩ ?_
  refine go_icmp rfl (fun (z : nI nc ≤ (nI c)) => absurd z (show ¬ (nI nc ≤ (nI c)) from (Int32.not_le.mpr ((nI_lts (a := c) (b := nc) (by omega) (by omega)).mpr hi)))) (fun _ => ?_)
  refine go_blk 4 [] (pc' := 66) (vs' := [.ref (ad 0 0), .int X, .long (lN m), .retAddr 1, .int y4, .int (nI (lot - csN (wtN rd W X) c)), .int (nI c)]) (st' := [.int X, .int (nI c), .ref (ad 0 0), .int (nI (lot - csN (wtN rd W X) c))]) (M' := mm M f g) (ps := []) rfl trivial ?_
  refine go_callV rfl rfl rfl (by omega) rfl (by decide) (by decide) (hF.o 0) ?_
  refine s_CY_weightOf (rd := rd) (W := W) (by omega) hF hT hn hl (by omega) (hj c hi) ⟨ne_i, ?_⟩
  show Go d 181 0 0 69 [.ref (ad 0 0), .int X, .long (lN m), .retAddr 1, .int y4, .int (nI (lot - csN (wtN rd W X) c)), .int (nI c)] [.int (nI (wtN rd W X c)), .int (nI (lot - csN (wtN rd W X) c))] (mm M f g) R
  refine go_blk 3 [] (pc' := 74) (vs' := [.ref (ad 0 0), .int X, .long (lN m), .retAddr 1, .int y4, .int ((nI (lot - csN (wtN rd W X) c)) - (nI (wtN rd W X c))), .int (nI c)]) (st' := [.int ((nI (lot - csN (wtN rd W X) c)) - (nI (wtN rd W X c)))]) (M' := mm M f g) (ps := []) rfl trivial ?_
  refine go_if rfl (fun (cb : 0 ≤ ((nI (lot - csN (wtN rd W X) c)) - (nI (wtN rd W X c)))) => ?_) (fun (cb : ¬ (0 ≤ ((nI (lot - csN (wtN rd W X) c)) - (nI (wtN rd W X c))))) => ?_)
  · -- 0 ≤ ((nI (lot - csN (wtN rd W X) c)) - (nI (wtN rd W X c)))
    refine go_blk 2 [] (pc' := 51) (vs' := [.ref (ad 0 0), .int X, .long (lN m), .retAddr 1, .int y4, .int ((nI (lot - csN (wtN rd W X) c)) - (nI (wtN rd W X c))), .int ((nI c) + 1)]) (st' := []) (M' := mm M f g) (ps := []) rfl trivial ?_
    have hz : wtN rd W X c ≤ lot - csN (wtN rd W X) c := by
      apply Classical.byContradiction
      intro hz
      exact absurd (pk_sneg (a := lot - csN (wtN rd W X) c) (b := wtN rd W X c) (by have := hB c; omega) (by omega)) (Int32.not_lt.mpr cb)
    have e1 : nI c + 1 = nI (c + 1) := nI_add c 1
    have e2 : nI (lot - csN (wtN rd W X) c) - nI (wtN rd W X c) = nI (lot - csN (wtN rd W X) (c + 1)) := by rw [pk_sub hz, csN]; congr 1; omega
    rw [e1, e2]
    exact ih (by rw [csN]; omega)
  · -- ¬ (0 ≤ ((nI (lot - csN (wtN rd W X) c)) - (nI (wtN rd W X c))))
    refine go_blk 3 [] (pc' := 81) (vs' := [.ref (ad 0 0), .int X, .long (lN m), .retAddr 1, .int y4, .int ((nI (lot - csN (wtN rd W X) c)) - (nI (wtN rd W X c))), .int (nI c)]) (st' := [.int (1 <<< ((nI c) &&& 31))]) (M' := mm M f g) (ps := []) rfl trivial ?_
    refine go_iret rfl rfl ?_
    refine hR c hi hp ?_
    rw [csN]
    apply Classical.byContradiction
    intro hz
    rw [pk_sub (by omega)] at cb
    exact absurd (nI_ge0 (by omega)) cb

set_option maxRecDepth 100000 in
theorem s_CY_drawOne {d : Nat} {M : Mem} {f : Nat → Nat → Int32} {g : Nat → Nat → Int64} {ad : Nat → Nat → Nat} {R : Option Value → Mem → Prop} {nt nc : Nat} {rd : Nat → Bool} {W : Nat → Nat} {X : Int32} {m : Nat} (hd : 3 ≤ d) (hF : Fx M ad) (hT : Ts M ad nt) (hn : f (ad 0 0) 5 = nI nt) (hl : nt ≤ 3) (nc1 : f (ad 0 0) 1 = nI nc) (nc3 : nc ≤ 7) (hj : ∀ c, c < nc → DJ M f ad nt rd W c) (hB : ∀ c, wtN rd W X c ≤ 200) (hm : m < 2 ^ 31) (h0 : 0 < csN (wtN rd W X) nc) (hR : ∀ i, i < nc → csN (wtN rd W X) i ≤ m % csN (wtN rd W X) nc → m % csN (wtN rd W X) nc < csN (wtN rd W X) (i + 1) → R (some (.int ((1 : Int32) <<< (nI i &&& 31)))) (mm M f g)) : Call d 181 [.ref (ad 0 0), .int X, .long (lN m)] (mm M f g) R := by
  have hcb := csN_b hB nc
  show Go d 181 0 0 0 [.ref (ad 0 0), .int X, .long (lN m), .retAddr 1, .retAddr 0, .retAddr 0, .retAddr 0] [] (mm M f g) R
  refine go_blk 4 [] (pc' := 6) (vs' := [.ref (ad 0 0), .int X, .long (lN m), .retAddr 1, .int 0, .int 0, .retAddr 0]) (st' := []) (M' := mm M f g) (ps := []) rfl trivial ?_
  refine lp_CY_drawOneA hd hF hT hn hl nc1 nc3 hj ?_ 0 (Nat.zero_le _)
  show Go d 181 0 0 33 [.ref (ad 0 0), .int X, .long (lN m), .retAddr 1, .int (nI (csN (wtN rd W X) nc)), .int (nI nc), .retAddr 0] [] (mm M f g) R
  refine go_blk 1 [] (pc' := 35) (vs' := [.ref (ad 0 0), .int X, .long (lN m), .retAddr 1, .int (nI (csN (wtN rd W X) nc)), .int (nI nc), .retAddr 0]) (st' := [.int (nI (csN (wtN rd W X) nc))]) (M' := mm M f g) (ps := []) rfl trivial ?_
  refine go_if rfl (fun _ => ?_) (fun (z : ¬ (0 < (nI (csN (wtN rd W X) nc)))) => absurd (show 0 < (nI (csN (wtN rd W X) nc)) from ((nI_0lt (by omega)).mpr h0)) z)
  refine go_blk 8 [] (pc' := 51) (vs' := [.ref (ad 0 0), .int X, .long (lN m), .retAddr 1, .int (nI (csN (wtN rd W X) nc)), .int (((lN m) - (lN m) / ((nI (csN (wtN rd W X) nc)).toInt64) * ((nI (csN (wtN rd W X) nc)).toInt64)).toInt32), .int 0]) (st' := []) (M' := mm M f g) (ps := [¬ ((nI (csN (wtN rd W X) nc)).toInt64) = 0]) rfl ⟨(fun z => by rw [nI_l (by omega), show (0 : Int64) = lN 0 from rfl, pk_lEQ (by omega) (by omega)] at z; omega), trivial⟩ ?_
  have e3 : (nI (csN (wtN rd W X) nc)).toInt64 = lN (csN (wtN rd W X) nc) := nI_l (by omega)
  rw [e3, pk_lRem (by omega) h0 (by omega), lN_i]
  exact lp_CY_drawOneB (lot := m % csN (wtN rd W X) nc) hd hF hT hn hl nc1 nc3 hj hB (Nat.mod_lt _ h0) hR 0 (Nat.zero_le _) (Nat.zero_le _)

