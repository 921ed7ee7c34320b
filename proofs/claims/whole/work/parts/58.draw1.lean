/-! call: draw, the model -/
theorem lgN {a b : Nat} (ha : a < 2 ^ 63) (hb : b < 2 ^ 63) : lg_cmp (lN a) (lN b) < 0 ↔ a < b := by
  unfold lg_cmp
  by_cases c1 : lN b < lN a
  · have := (pk_lLT hb ha).mp c1
    rw [if_pos c1]
    exact ⟨fun z => absurd z (by decide), fun z => by omega⟩
  · rw [if_neg c1]
    have h1 : ¬ b < a := fun z => c1 ((pk_lLT hb ha).mpr z)
    by_cases c2 : lN a = lN b
    · have := (pk_lEQ ha hb).mp c2
      rw [if_pos c2]
      exact ⟨fun z => absurd z (by decide), fun z => by omega⟩
    · rw [if_neg c2]
      have h2 : ¬ a = b := fun z => c2 ((pk_lEQ ha hb).mpr z)
      exact ⟨fun _ => by omega, fun _ => by decide⟩
def EI (rd : Nat → Bool) : Nat → Int32
  | 0 => 0
  | c + 1 => EI rd c ||| (if rd c = true then (1 : Int32) <<< (nI c &&& 31) else 0)
theorem EI_bt (rd : Nat → Bool) {i : Nat} (hi : i < 32) : ∀ n, n ≤ 7 → bt (EI rd n) i = (decide (i < n) && rd i)
  | 0, _ => by rw [EI, b_0]; simp
  | n + 1, h => by
    rw [EI]
    by_cases c : rd n = true
    · rw [if_pos c, bt_set _ (by omega) hi, EI_bt rd hi n (by omega)]
      by_cases q : i = n
      · subst q; simp [c]
      · by_cases q2 : i < n
        · simp [q2, q, show i < n + 1 by omega]
        · simp [q2, q, show ¬ i < n + 1 by omega]
    · rw [if_neg c, b_or, b_0, Bool.or_false, EI_bt rd hi n (by omega)]
      by_cases q : i = n
      · subst q; simp [c]
      · by_cases q2 : i < n
        · simp [q2, show i < n + 1 by omega]
        · simp [q2, show ¬ i < n + 1 by omega]
theorem EI_congr {p q : Nat → Bool} : ∀ {n : Nat}, (∀ c, c < n → p c = q c) → EI p n = EI q n
  | 0, _ => rfl
  | n + 1, h => by rw [EI, EI, EI_congr (fun c hc => h c (by omega)), h n (by omega)]
theorem or_0 (x : Int32) : x ||| 0 = x := by apply b_ext; intro i _; rw [b_or, b_0, Bool.or_false]
theorem EI_tail {p : Nat → Bool} {n : Nat} : ∀ k, (∀ c, n ≤ c → c < n + k → p c = false) → EI p (n + k) = EI p n ∧ ctB p (n + k) = ctB p n
  | 0, _ => ⟨rfl, rfl⟩
  | k + 1, h => by
    obtain ⟨h1, h2⟩ := EI_tail k (fun c c1 c2 => h c c1 (by omega))
    rw [← Nat.add_assoc, EI, ctB, h (n + k) (by omega) (by omega), h1, h2]
    exact ⟨or_0 _, rfl⟩

def bcV (x : Int32) : Int32 := (((((((x - (((x.toUInt32 >>> ((1 : Int32).toUInt32 &&& Int32.toUInt32 31)).toInt32) &&& 1431655765)) &&& 858993459) + ((((x - (((x.toUInt32 >>> ((1 : Int32).toUInt32 &&& Int32.toUInt32 31)).toInt32) &&& 1431655765)).toUInt32 >>> ((2 : Int32).toUInt32 &&& Int32.toUInt32 31)).toInt32) &&& 858993459)) + (((((x - (((x.toUInt32 >>> ((1 : Int32).toUInt32 &&& Int32.toUInt32 31)).toInt32) &&& 1431655765)) &&& 858993459) + ((((x - (((x.toUInt32 >>> ((1 : Int32).toUInt32 &&& Int32.toUInt32 31)).toInt32) &&& 1431655765)).toUInt32 >>> ((2 : Int32).toUInt32 &&& Int32.toUInt32 31)).toInt32) &&& 858993459)).toUInt32 >>> ((4 : Int32).toUInt32 &&& Int32.toUInt32 31)).toInt32)) &&& 252645135) + (((((((x - (((x.toUInt32 >>> ((1 : Int32).toUInt32 &&& Int32.toUInt32 31)).toInt32) &&& 1431655765)) &&& 858993459) + ((((x - (((x.toUInt32 >>> ((1 : Int32).toUInt32 &&& Int32.toUInt32 31)).toInt32) &&& 1431655765)).toUInt32 >>> ((2 : Int32).toUInt32 &&& Int32.toUInt32 31)).toInt32) &&& 858993459)) + (((((x - (((x.toUInt32 >>> ((1 : Int32).toUInt32 &&& Int32.toUInt32 31)).toInt32) &&& 1431655765)) &&& 858993459) + ((((x - (((x.toUInt32 >>> ((1 : Int32).toUInt32 &&& Int32.toUInt32 31)).toInt32) &&& 1431655765)).toUInt32 >>> ((2 : Int32).toUInt32 &&& Int32.toUInt32 31)).toInt32) &&& 858993459)).toUInt32 >>> ((4 : Int32).toUInt32 &&& Int32.toUInt32 31)).toInt32)) &&& 252645135).toUInt32 >>> ((8 : Int32).toUInt32 &&& Int32.toUInt32 31)).toInt32)) + ((((((((x - (((x.toUInt32 >>> ((1 : Int32).toUInt32 &&& Int32.toUInt32 31)).toInt32) &&& 1431655765)) &&& 858993459) + ((((x - (((x.toUInt32 >>> ((1 : Int32).toUInt32 &&& Int32.toUInt32 31)).toInt32) &&& 1431655765)).toUInt32 >>> ((2 : Int32).toUInt32 &&& Int32.toUInt32 31)).toInt32) &&& 858993459)) + (((((x - (((x.toUInt32 >>> ((1 : Int32).toUInt32 &&& Int32.toUInt32 31)).toInt32) &&& 1431655765)) &&& 858993459) + ((((x - (((x.toUInt32 >>> ((1 : Int32).toUInt32 &&& Int32.toUInt32 31)).toInt32) &&& 1431655765)).toUInt32 >>> ((2 : Int32).toUInt32 &&& Int32.toUInt32 31)).toInt32) &&& 858993459)).toUInt32 >>> ((4 : Int32).toUInt32 &&& Int32.toUInt32 31)).toInt32)) &&& 252645135) + (((((((x - (((x.toUInt32 >>> ((1 : Int32).toUInt32 &&& Int32.toUInt32 31)).toInt32) &&& 1431655765)) &&& 858993459) + ((((x - (((x.toUInt32 >>> ((1 : Int32).toUInt32 &&& Int32.toUInt32 31)).toInt32) &&& 1431655765)).toUInt32 >>> ((2 : Int32).toUInt32 &&& Int32.toUInt32 31)).toInt32) &&& 858993459)) + (((((x - (((x.toUInt32 >>> ((1 : Int32).toUInt32 &&& Int32.toUInt32 31)).toInt32) &&& 1431655765)) &&& 858993459) + ((((x - (((x.toUInt32 >>> ((1 : Int32).toUInt32 &&& Int32.toUInt32 31)).toInt32) &&& 1431655765)).toUInt32 >>> ((2 : Int32).toUInt32 &&& Int32.toUInt32 31)).toInt32) &&& 858993459)).toUInt32 >>> ((4 : Int32).toUInt32 &&& Int32.toUInt32 31)).toInt32)) &&& 252645135).toUInt32 >>> ((8 : Int32).toUInt32 &&& Int32.toUInt32 31)).toInt32)).toUInt32 >>> ((16 : Int32).toUInt32 &&& Int32.toUInt32 31)).toInt32)) &&& 63
set_option maxRecDepth 100000 in
theorem s_JI_bitCount {d : Nat} {M : Mem} {f : Nat → Nat → Int32} {g : Nat → Nat → Int64} {R : Option Value → Mem → Prop} {x : Int32} (hd : 0 ≤ d) (hR : R (some (.int (bcV x))) (mm M f g)) : Call d 5 [.int x] (mm M f g) R := by
  show Go d 5 0 0 0 [.int x] [] (mm M f g) R
  refine go_blk 41 [] (pc' := 52) (vs' := [.int (((((((x - (((x.toUInt32 >>> ((1 : Int32).toUInt32 &&& Int32.toUInt32 31)).toInt32) &&& 1431655765)) &&& 858993459) + ((((x - (((x.toUInt32 >>> ((1 : Int32).toUInt32 &&& Int32.toUInt32 31)).toInt32) &&& 1431655765)).toUInt32 >>> ((2 : Int32).toUInt32 &&& Int32.toUInt32 31)).toInt32) &&& 858993459)) + (((((x - (((x.toUInt32 >>> ((1 : Int32).toUInt32 &&& Int32.toUInt32 31)).toInt32) &&& 1431655765)) &&& 858993459) + ((((x - (((x.toUInt32 >>> ((1 : Int32).toUInt32 &&& Int32.toUInt32 31)).toInt32) &&& 1431655765)).toUInt32 >>> ((2 : Int32).toUInt32 &&& Int32.toUInt32 31)).toInt32) &&& 858993459)).toUInt32 >>> ((4 : Int32).toUInt32 &&& Int32.toUInt32 31)).toInt32)) &&& 252645135) + (((((((x - (((x.toUInt32 >>> ((1 : Int32).toUInt32 &&& Int32.toUInt32 31)).toInt32) &&& 1431655765)) &&& 858993459) + ((((x - (((x.toUInt32 >>> ((1 : Int32).toUInt32 &&& Int32.toUInt32 31)).toInt32) &&& 1431655765)).toUInt32 >>> ((2 : Int32).toUInt32 &&& Int32.toUInt32 31)).toInt32) &&& 858993459)) + (((((x - (((x.toUInt32 >>> ((1 : Int32).toUInt32 &&& Int32.toUInt32 31)).toInt32) &&& 1431655765)) &&& 858993459) + ((((x - (((x.toUInt32 >>> ((1 : Int32).toUInt32 &&& Int32.toUInt32 31)).toInt32) &&& 1431655765)).toUInt32 >>> ((2 : Int32).toUInt32 &&& Int32.toUInt32 31)).toInt32) &&& 858993459)).toUInt32 >>> ((4 : Int32).toUInt32 &&& Int32.toUInt32 31)).toInt32)) &&& 252645135).toUInt32 >>> ((8 : Int32).toUInt32 &&& Int32.toUInt32 31)).toInt32)) + ((((((((x - (((x.toUInt32 >>> ((1 : Int32).toUInt32 &&& Int32.toUInt32 31)).toInt32) &&& 1431655765)) &&& 858993459) + ((((x - (((x.toUInt32 >>> ((1 : Int32).toUInt32 &&& Int32.toUInt32 31)).toInt32) &&& 1431655765)).toUInt32 >>> ((2 : Int32).toUInt32 &&& Int32.toUInt32 31)).toInt32) &&& 858993459)) + (((((x - (((x.toUInt32 >>> ((1 : Int32).toUInt32 &&& Int32.toUInt32 31)).toInt32) &&& 1431655765)) &&& 858993459) + ((((x - (((x.toUInt32 >>> ((1 : Int32).toUInt32 &&& Int32.toUInt32 31)).toInt32) &&& 1431655765)).toUInt32 >>> ((2 : Int32).toUInt32 &&& Int32.toUInt32 31)).toInt32) &&& 858993459)).toUInt32 >>> ((4 : Int32).toUInt32 &&& Int32.toUInt32 31)).toInt32)) &&& 252645135) + (((((((x - (((x.toUInt32 >>> ((1 : Int32).toUInt32 &&& Int32.toUInt32 31)).toInt32) &&& 1431655765)) &&& 858993459) + ((((x - (((x.toUInt32 >>> ((1 : Int32).toUInt32 &&& Int32.toUInt32 31)).toInt32) &&& 1431655765)).toUInt32 >>> ((2 : Int32).toUInt32 &&& Int32.toUInt32 31)).toInt32) &&& 858993459)) + (((((x - (((x.toUInt32 >>> ((1 : Int32).toUInt32 &&& Int32.toUInt32 31)).toInt32) &&& 1431655765)) &&& 858993459) + ((((x - (((x.toUInt32 >>> ((1 : Int32).toUInt32 &&& Int32.toUInt32 31)).toInt32) &&& 1431655765)).toUInt32 >>> ((2 : Int32).toUInt32 &&& Int32.toUInt32 31)).toInt32) &&& 858993459)).toUInt32 >>> ((4 : Int32).toUInt32 &&& Int32.toUInt32 31)).toInt32)) &&& 252645135).toUInt32 >>> ((8 : Int32).toUInt32 &&& Int32.toUInt32 31)).toInt32)).toUInt32 >>> ((16 : Int32).toUInt32 &&& Int32.toUInt32 31)).toInt32))]) (st' := [.int ((((((((x - (((x.toUInt32 >>> ((1 : Int32).toUInt32 &&& Int32.toUInt32 31)).toInt32) &&& 1431655765)) &&& 858993459) + ((((x - (((x.toUInt32 >>> ((1 : Int32).toUInt32 &&& Int32.toUInt32 31)).toInt32) &&& 1431655765)).toUInt32 >>> ((2 : Int32).toUInt32 &&& Int32.toUInt32 31)).toInt32) &&& 858993459)) + (((((x - (((x.toUInt32 >>> ((1 : Int32).toUInt32 &&& Int32.toUInt32 31)).toInt32) &&& 1431655765)) &&& 858993459) + ((((x - (((x.toUInt32 >>> ((1 : Int32).toUInt32 &&& Int32.toUInt32 31)).toInt32) &&& 1431655765)).toUInt32 >>> ((2 : Int32).toUInt32 &&& Int32.toUInt32 31)).toInt32) &&& 858993459)).toUInt32 >>> ((4 : Int32).toUInt32 &&& Int32.toUInt32 31)).toInt32)) &&& 252645135) + (((((((x - (((x.toUInt32 >>> ((1 : Int32).toUInt32 &&& Int32.toUInt32 31)).toInt32) &&& 1431655765)) &&& 858993459) + ((((x - (((x.toUInt32 >>> ((1 : Int32).toUInt32 &&& Int32.toUInt32 31)).toInt32) &&& 1431655765)).toUInt32 >>> ((2 : Int32).toUInt32 &&& Int32.toUInt32 31)).toInt32) &&& 858993459)) + (((((x - (((x.toUInt32 >>> ((1 : Int32).toUInt32 &&& Int32.toUInt32 31)).toInt32) &&& 1431655765)) &&& 858993459) + ((((x - (((x.toUInt32 >>> ((1 : Int32).toUInt32 &&& Int32.toUInt32 31)).toInt32) &&& 1431655765)).toUInt32 >>> ((2 : Int32).toUInt32 &&& Int32.toUInt32 31)).toInt32) &&& 858993459)).toUInt32 >>> ((4 : Int32).toUInt32 &&& Int32.toUInt32 31)).toInt32)) &&& 252645135).toUInt32 >>> ((8 : Int32).toUInt32 &&& Int32.toUInt32 31)).toInt32)) + ((((((((x - (((x.toUInt32 >>> ((1 : Int32).toUInt32 &&& Int32.toUInt32 31)).toInt32) &&& 1431655765)) &&& 858993459) + ((((x - (((x.toUInt32 >>> ((1 : Int32).toUInt32 &&& Int32.toUInt32 31)).toInt32) &&& 1431655765)).toUInt32 >>> ((2 : Int32).toUInt32 &&& Int32.toUInt32 31)).toInt32) &&& 858993459)) + (((((x - (((x.toUInt32 >>> ((1 : Int32).toUInt32 &&& Int32.toUInt32 31)).toInt32) &&& 1431655765)) &&& 858993459) + ((((x - (((x.toUInt32 >>> ((1 : Int32).toUInt32 &&& Int32.toUInt32 31)).toInt32) &&& 1431655765)).toUInt32 >>> ((2 : Int32).toUInt32 &&& Int32.toUInt32 31)).toInt32) &&& 858993459)).toUInt32 >>> ((4 : Int32).toUInt32 &&& Int32.toUInt32 31)).toInt32)) &&& 252645135) + (((((((x - (((x.toUInt32 >>> ((1 : Int32).toUInt32 &&& Int32.toUInt32 31)).toInt32) &&& 1431655765)) &&& 858993459) + ((((x - (((x.toUInt32 >>> ((1 : Int32).toUInt32 &&& Int32.toUInt32 31)).toInt32) &&& 1431655765)).toUInt32 >>> ((2 : Int32).toUInt32 &&& Int32.toUInt32 31)).toInt32) &&& 858993459)) + (((((x - (((x.toUInt32 >>> ((1 : Int32).toUInt32 &&& Int32.toUInt32 31)).toInt32) &&& 1431655765)) &&& 858993459) + ((((x - (((x.toUInt32 >>> ((1 : Int32).toUInt32 &&& Int32.toUInt32 31)).toInt32) &&& 1431655765)).toUInt32 >>> ((2 : Int32).toUInt32 &&& Int32.toUInt32 31)).toInt32) &&& 858993459)).toUInt32 >>> ((4 : Int32).toUInt32 &&& Int32.toUInt32 31)).toInt32)) &&& 252645135).toUInt32 >>> ((8 : Int32).toUInt32 &&& Int32.toUInt32 31)).toInt32)).toUInt32 >>> ((16 : Int32).toUInt32 &&& Int32.toUInt32 31)).toInt32)) &&& 63)]) (M' := mm M f g) (ps := []) rfl trivial ?_
  refine go_iret rfl rfl ?_
  exact hR

def l7 (b0 b1 b2 b3 b4 b5 b6 : Bool) (c : Nat) : Bool := [b0, b1, b2, b3, b4, b5, b6].getD c false
theorem bc7 : ∀ b0 b1 b2 b3 b4 b5 b6 : Bool, bcV (EI (l7 b0 b1 b2 b3 b4 b5 b6) 7) = nI (ctB (l7 b0 b1 b2 b3 b4 b5 b6) 7) := by decide +kernel
theorem bc_is (rd : Nat → Bool) {nc : Nat} (hc : nc ≤ 7) : bcV (EI rd nc) = nI (ctB rd nc) := by
  have h := EI_tail (p := fun c => decide (c < nc) && rd c) (n := nc) (7 - nc) (fun c c1 _ => by simp [show ¬ c < nc by omega])
  rw [show nc + (7 - nc) = 7 by omega] at h
  have e1 : EI (fun c => decide (c < nc) && rd c) nc = EI rd nc := EI_congr (fun c q => by simp [q])
  have e2 : ctB (fun c => decide (c < nc) && rd c) nc = ctB rd nc := ctB_congr (fun c q => by simp [q])
  have g := bc7 (decide (0 < nc) && rd 0) (decide (1 < nc) && rd 1) (decide (2 < nc) && rd 2) (decide (3 < nc) && rd 3) (decide (4 < nc) && rd 4) (decide (5 < nc) && rd 5) (decide (6 < nc) && rd 6)
  have k : ∀ c, c < 7 → l7 (decide (0 < nc) && rd 0) (decide (1 < nc) && rd 1) (decide (2 < nc) && rd 2) (decide (3 < nc) && rd 3) (decide (4 < nc) && rd 4) (decide (5 < nc) && rd 5) (decide (6 < nc) && rd 6) c = (decide (c < nc) && rd c) := by
    intro c q
    rcases (show c = 0 ∨ c = 1 ∨ c = 2 ∨ c = 3 ∨ c = 4 ∨ c = 5 ∨ c = 6 by omega) with rfl | rfl | rfl | rfl | rfl | rfl | rfl <;> rfl
  rw [EI_congr k, ctB_congr k, h.1, h.2, e1, e2] at g
  exact g
/-- the model's job of the open day -/
def MJ (f : Nat → Nat → Int32) (ad : Nat → Nat → Nat) (wk : Nat) (rd : Nat → Bool) (W : Nat → Nat) (c : Nat) : Prop :=
  (rd c = false ∧ (f (ad 9 32) (7 * wk + c) = 0 ∨ f (ad 9 38) (7 * wk + c) = -1)) ∨
  (rd c = true ∧ ¬ f (ad 9 32) (7 * wk + c) = 0 ∧ ¬ f (ad 9 38) (7 * wk + c) = -1 ∧ ∃ t w0 w1, t < 3 ∧ f (ad 9 39) (7 * wk + c) = nI t ∧ f (ad 9 97) (4 * t) = nI w0 ∧ f (ad 9 97) (4 * t + 1) = nI w1 ∧ W c = 1 + w0 + w1)

set_option maxRecDepth 100000 in
theorem lp_CY_draw {d : Nat} {M : Mem} {f : Nat → Nat → Int32} {g : Nat → Nat → Int64} {ad : Nat → Nat → Nat} {R : Option Value → Mem → Prop} {nt nc n : Nat} {rd : Nat → Bool} {W : Nat → Nat} {seed : Int64} (hd : 4 ≤ d) (hF : Fx M ad) (hT : Ts M ad nt) (hn : f (ad 0 0) 5 = nI nt) (hl : nt ≤ 3) (nc1 : f (ad 0 0) 1 = nI nc) (nc3 : nc ≤ 7) (hj : ∀ c, c < nc → DJ M f ad nt rd W c) (hop : f (ad 0 0) 8 = 1) (hW : ∀ c, rd c = true → 0 < W c) (hB : ∀ c, W c ≤ 200) (hnr : n ≤ ctB rd nc) (hx : Go d 155 0 0 78 [.ref (ad 0 0), .int (nI n), .long seed, .retAddr 1, .int ((drN rd W nc n (0, seed)).1), .long ((drN rd W nc n (0, seed)).2), .retAddr 1, .int (nI n)] [] (mm M f g) R) : ∀ k, k ≤ n → Go d 155 0 0 31 [.ref (ad 0 0), .int (nI n), .long seed, .retAddr 1, .int ((drN rd W nc k (0, seed)).1), .long ((drN rd W nc k (0, seed)).2), .retAddr 1, .int (nI k)] [] (mm M f g) R := by
  have hcl := ctB_le rd nc
  have hB2 : ∀ X c, wtN rd W X c ≤ 200 := fun X c => by unfold wtN; have := hB c; split <;> omega
  refine up_ind (P := fun k => Go d 155 0 0 31 [.ref (ad 0 0), .int (nI n), .long seed, .retAddr 1, .int ((drN rd W nc k (0, seed)).1), .long ((drN rd W nc k (0, seed)).2), .retAddr 1, .int (nI k)] [] (mm M f g) R) n ?_ (fun k hi ih => ?_)
  ·
    show Go d 155 0 0 31 [.ref (ad 0 0), .int (nI n), .long seed, .retAddr 1, .int ((drN rd W nc n (0, seed)).1), .long ((drN rd W nc n (0, seed)).2), .retAddr 1, .int (nI n)] [] (mm M f g) R
    refine go_blk 2 [] (pc' := 34) (vs' := [.ref (ad 0 0), .int (nI n), .long seed, .retAddr 1, .int ((drN rd W nc n (0, seed)).1), .long ((drN rd W nc n (0, seed)).2), .retAddr 1, .int (nI n)]) (st' := [.int (nI n), .int (nI n)]) (M' := mm M f g) (ps := []) rfl trivial ?_
    refine go_icmp rfl (fun _ => ?_) (fun (z : ¬ (nI n ≤ (nI n))) => absurd (show nI n ≤ (nI n) from Int32.le_refl _) z)
    exact hx
  ·
    show Go d 155 0 0 31 [.ref (ad 0 0), .int (nI n), .long seed, .retAddr 1, .int ((drN rd W nc k (0, seed)).1), .long ((drN rd W nc k (0, seed)).2), .retAddr 1, .int (nI k)] [] (mm M f g) R
    refine go_blk 2 [] (pc' := 34) (vs' := [.ref (ad 0 0), .int (nI n), .long seed, .retAddr 1, .int ((drN rd W nc k (0, seed)).1), .long ((drN rd W nc k (0, seed)).2), .retAddr 1, .int (nI k)]) (st' := [.int (nI n), .int (nI k)]) (M' := mm M f g) (ps := []) rfl trivial ?_
    refine go_icmp rfl (fun (z : nI n ≤ (nI k)) => absurd z (show ¬ (nI n ≤ (nI k)) from (Int32.not_le.mpr ((nI_lts (a := k) (b := n) (by omega) (by omega)).mpr hi)))) (fun _ => ?_)
    refine go_blk 2 [] (pc' := 41) (vs' := [.ref (ad 0 0), .int (nI n), .long seed, .retAddr 1, .int ((drN rd W nc k (0, seed)).1), .long ((drN rd W nc k (0, seed)).2), .retAddr 1, .int (nI k)]) (st' := [.int 7, .int (nI k)]) (M' := mm M f g) (ps := []) rfl trivial ?_
    refine go_icmp rfl (fun (z : 7 ≤ (nI k)) => absurd z (show ¬ (7 ≤ (nI k)) from (Int32.not_le.mpr ((nI_lts (a := k) (b := 7) (by omega) (by decide)).mpr (by omega))))) (fun _ => ?_)
    refine go_blk 12 [] (pc' := 66) (vs' := [.ref (ad 0 0), .int (nI n), .long seed, .retAddr 1, .int ((drN rd W nc k (0, seed)).1), .long ((((drN rd W nc k (0, seed)).2) * 6364136223846793005) + 1442695040888963407), .retAddr 1, .int (nI k)]) (st' := [.long ((((((drN rd W nc k (0, seed)).2) * 6364136223846793005) + 1442695040888963407).toUInt64 >>> ((33 : Int32).toInt64.toUInt64 &&& Int64.toUInt64 63)).toInt64), .int ((drN rd W nc k (0, seed)).1), .ref (ad 0 0), .int ((drN rd W nc k (0, seed)).1)]) (M' := mm M f g) (ps := []) rfl trivial ?_
    rw [lotN_is]
    refine go_callV rfl rfl rfl (by omega) rfl (by decide) (by decide) (hF.o 0) ?_
    refine s_CY_drawOne (rd := rd) (W := W) (X := ((drN rd W nc k (0, seed)).1)) (m := lotN ((drN rd W nc k (0, seed)).2 * 6364136223846793005 + 1442695040888963407)) (by omega) hF hT hn hl nc1 nc3 hj (hB2 _) (lotN_lt _) ((drN_ok nc3 hW hnr k (by omega)).2 hi) (fun i hic hi1 hi2 => ⟨ne_i, ?_⟩)
    · -- ('i', '1 <<< ((nI i) &&& 31)')
      show Go d 155 0 0 69 [.ref (ad 0 0), .int (nI n), .long seed, .retAddr 1, .int ((drN rd W nc k (0, seed)).1), .long ((((drN rd W nc k (0, seed)).2) * 6364136223846793005) + 1442695040888963407), .retAddr 1, .int (nI k)] [.int (1 <<< ((nI i) &&& 31)), .int ((drN rd W nc k (0, seed)).1)] (mm M f g) R
      refine go_blk 4 [] (pc' := 31) (vs' := [.ref (ad 0 0), .int (nI n), .long seed, .retAddr 1, .int (((drN rd W nc k (0, seed)).1) ||| (1 <<< ((nI i) &&& 31))), .long ((((drN rd W nc k (0, seed)).2) * 6364136223846793005) + 1442695040888963407), .retAddr 1, .int ((nI k) + 1)]) (st' := []) (M' := mm M f g) (ps := []) rfl trivial ?_
      have e1 : nI k + 1 = nI (k + 1) := nI_add k 1
      have e2 := pkN_is hic hi1 hi2
      have e3 : ((drN rd W nc k (0, seed)).1) ||| ((1 : Int32) <<< (nI i &&& 31)) = (drN rd W nc (k + 1) (0, seed)).1 := by rw [drN]; simp only []; rw [e2]
      have e4 : ((drN rd W nc k (0, seed)).2 * 6364136223846793005 + 1442695040888963407) = (drN rd W nc (k + 1) (0, seed)).2 := rfl
      rw [e1, e3, e4]
      exact ih

set_option maxRecDepth 100000 in
theorem s_CY_draw {d : Nat} {M : Mem} {f : Nat → Nat → Int32} {g : Nat → Nat → Int64} {ad : Nat → Nat → Nat} {R : Option Value → Mem → Prop} {nt nc : Nat} {rd : Nat → Bool} {W : Nat → Nat} {a1 : Int32} {seed : Int64} (hd : 4 ≤ d) (hF : Fx M ad) (hT : Ts M ad nt) (hn : f (ad 0 0) 5 = nI nt) (hl : nt ≤ 3) (nc1 : f (ad 0 0) 1 = nI nc) (nc3 : nc ≤ 7) (hj : ∀ c, c < nc → DJ M f ad nt rd W c) (hop : f (ad 0 0) 8 = 1) (hW : ∀ c, rd c = true → 0 < W c) (hB : ∀ c, W c ≤ 200) (h1 : ∀ n, 1 ≤ n → n ≤ ctB rd nc → a1 = nI n → R (some (.int ((drN rd W nc n (0, seed)).1))) (mm M f g)) (h0 : ¬ (∃ n, 1 ≤ n ∧ n ≤ ctB rd nc ∧ a1 = nI n) → R (some (.int (-1))) (mm M f g)) : Call d 155 [.ref (ad 0 0), .int a1, .long seed] (mm M f g) R := by
  have hcl := ctB_le rd nc
  by_cases hA : ∃ n, 1 ≤ n ∧ n ≤ ctB rd nc ∧ a1 = nI n
  · obtain ⟨n, n1, n2, rfl⟩ := hA
    show Go d 155 0 0 0 [.ref (ad 0 0), .int (nI n), .long seed, .retAddr 1, .retAddr 0, .retAddr 0, .retAddr 0, .retAddr 0] [] (mm M f g) R
    refine go_blk 2 [some (.int 1)] (pc' := 4) (vs' := [.ref (ad 0 0), .int (nI n), .long seed, .retAddr 1, .retAddr 0, .retAddr 0, .retAddr 0, .retAddr 0]) (st' := [.int 1]) (M' := mm M f g) (ps := [ob (mm M f g) (ad 0 0) 11, (Value.int (f (ad 0 0) 8)) = .int 1]) rfl ⟨(hF.o 0), congrArg Value.int hop, trivial⟩ ?_
    refine go_if rfl (fun (z : (1 : Int32) = 0) => absurd z (show ¬ ((1 : Int32) = 0) from (by decide))) (fun _ => ?_)
    refine go_blk 2 [] (pc' := 9) (vs' := [.ref (ad 0 0), .int (nI n), .long seed, .retAddr 1, .retAddr 0, .retAddr 0, .retAddr 0, .retAddr 0]) (st' := [.int 1, .int (nI n)]) (M' := mm M f g) (ps := []) rfl trivial ?_
    refine go_icmp rfl (fun (z : (nI n) < 1) => absurd z (show ¬ ((nI n) < 1) from (Int32.not_lt.mpr ((nI_les (a := 1) (b := n) (by omega) (by omega)).mpr n1)))) (fun _ => ?_)
    refine go_blk 2 [] (pc' := 14) (vs' := [.ref (ad 0 0), .int (nI n), .long seed, .retAddr 1, .retAddr 0, .retAddr 0, .retAddr 0, .retAddr 0]) (st' := [.ref (ad 0 0), .int (nI n)]) (M' := mm M f g) (ps := []) rfl trivial ?_
    refine go_callV rfl rfl rfl (by omega) rfl (by decide) (by decide) (hF.o 0) ?_
    refine s_CY_readyJobs (by omega) hF hT hn hl nc1 nc3 hj ⟨ne_i, ?_⟩
    show Go d 155 0 0 17 [.ref (ad 0 0), .int (nI n), .long seed, .retAddr 1, .retAddr 0, .retAddr 0, .retAddr 0, .retAddr 0] [.int (nI (ctB rd nc)), .int (nI n)] (mm M f g) R
    refine go_icmp rfl (fun _ => ?_) (fun (z : ¬ ((nI n) ≤ nI (ctB rd nc))) => absurd (show (nI n) ≤ nI (ctB rd nc) from ((nI_les (a := n) (b := ctB rd nc) (by omega) (by omega)).mpr n2)) z)
    refine go_blk 6 [] (pc' := 31) (vs' := [.ref (ad 0 0), .int (nI n), .long seed, .retAddr 1, .int 0, .long seed, .retAddr 1, .int 0]) (st' := []) (M' := mm M f g) (ps := []) rfl trivial ?_
    refine lp_CY_draw (n := n) (rd := rd) (W := W) (seed := seed) hd hF hT hn hl nc1 nc3 hj hop hW hB n2 ?_ 0 (Nat.zero_le _)
    show Go d 155 0 0 78 [.ref (ad 0 0), .int (nI n), .long seed, .retAddr 1, .int ((drN rd W nc n (0, seed)).1), .long ((drN rd W nc n (0, seed)).2), .retAddr 1, .int (nI n)] [] (mm M f g) R
    refine go_blk 1 [] (pc' := 80) (vs' := [.ref (ad 0 0), .int (nI n), .long seed, .retAddr 1, .int ((drN rd W nc n (0, seed)).1), .long ((drN rd W nc n (0, seed)).2), .retAddr 1, .int (nI n)]) (st' := [.int ((drN rd W nc n (0, seed)).1)]) (M' := mm M f g) (ps := []) rfl trivial ?_
    refine go_iret rfl rfl ?_
    exact h1 n n1 n2 rfl
  ·
    show Go d 155 0 0 0 [.ref (ad 0 0), .int a1, .long seed, .retAddr 1, .retAddr 0, .retAddr 0, .retAddr 0, .retAddr 0] [] (mm M f g) R
    refine go_blk 2 [some (.int 1)] (pc' := 4) (vs' := [.ref (ad 0 0), .int a1, .long seed, .retAddr 1, .retAddr 0, .retAddr 0, .retAddr 0, .retAddr 0]) (st' := [.int 1]) (M' := mm M f g) (ps := [ob (mm M f g) (ad 0 0) 11, (Value.int (f (ad 0 0) 8)) = .int 1]) rfl ⟨(hF.o 0), congrArg Value.int hop, trivial⟩ ?_
    refine go_if rfl (fun (z : (1 : Int32) = 0) => absurd z (show ¬ ((1 : Int32) = 0) from (by decide))) (fun _ => ?_)
    refine go_blk 2 [] (pc' := 9) (vs' := [.ref (ad 0 0), .int a1, .long seed, .retAddr 1, .retAddr 0, .retAddr 0, .retAddr 0, .retAddr 0]) (st' := [.int 1, .int a1]) (M' := mm M f g) (ps := []) rfl trivial ?_
    refine go_icmp rfl (fun (c1 : a1 < 1) => ?_) (fun (c1 : ¬ (a1 < 1)) => ?_)
    · -- a1 < 1
      refine go_blk 1 [] (pc' := 21) (vs' := [.ref (ad 0 0), .int a1, .long seed, .retAddr 1, .retAddr 0, .retAddr 0, .retAddr 0, .retAddr 0]) (st' := [.int (-1)]) (M' := mm M f g) (ps := []) rfl trivial ?_
      refine go_iret rfl rfl ?_
      exact h0 hA
    · -- ¬ (a1 < 1)
      refine go_blk 2 [] (pc' := 14) (vs' := [.ref (ad 0 0), .int a1, .long seed, .retAddr 1, .retAddr 0, .retAddr 0, .retAddr 0, .retAddr 0]) (st' := [.ref (ad 0 0), .int a1]) (M' := mm M f g) (ps := []) rfl trivial ?_
      refine go_callV rfl rfl rfl (by omega) rfl (by decide) (by decide) (hF.o 0) ?_
      refine s_CY_readyJobs (by omega) hF hT hn hl nc1 nc3 hj ⟨ne_i, ?_⟩
      show Go d 155 0 0 17 [.ref (ad 0 0), .int a1, .long seed, .retAddr 1, .retAddr 0, .retAddr 0, .retAddr 0, .retAddr 0] [.int (nI (ctB rd nc)), .int a1] (mm M f g) R
      refine go_icmp rfl (fun (c2 : a1 ≤ nI (ctB rd nc)) => ?_) (fun (c2 : ¬ (a1 ≤ nI (ctB rd nc))) => ?_)
      · -- a1 ≤ nI (ctB rd nc)
        refine go_blk 6 [] (pc' := 31) (vs' := [.ref (ad 0 0), .int a1, .long seed, .retAddr 1, .int 0, .long seed, .retAddr 1, .int 0]) (st' := []) (M' := mm M f g) (ps := []) rfl trivial ?_
        obtain ⟨k, k1, k2, k3⟩ := rg_of (lo := 1) (hi := ctB rd nc) (x := a1) (Int32.not_lt.mp c1) c2 (by omega) (by decide)
        exact absurd ⟨k, k1, k2, k3⟩ hA
      · -- ¬ (a1 ≤ nI (ctB rd nc))
        refine go_blk 1 [] (pc' := 21) (vs' := [.ref (ad 0 0), .int a1, .long seed, .retAddr 1, .retAddr 0, .retAddr 0, .retAddr 0, .retAddr 0]) (st' := [.int (-1)]) (M' := mm M f g) (ps := []) rfl trivial ?_
        refine go_iret rfl rfl ?_
        exact h0 hA

set_option maxRecDepth 100000 in
theorem s_Mo_weight {d : Nat} {M : Mem} {f : Nat → Nat → Int32} {g : Nat → Nat → Int64} {ad : Nat → Nat → Nat} {R : Option Value → Mem → Prop} {wk c : Nat} {rd : Nat → Bool} {W : Nat → Nat} (hd : 1 ≤ d) (hM : Mx M ad) (hk : f (ad 10 0) 19 = nI wk) (hwk : wk < 52) (hc : c < 7) (hr : rd c = true) (hj : MJ f ad wk rd W c) (hR : R (some (.int (nI (W c)))) (mm M f g)) : Call d 270 [.ref (ad 10 0), .int (nI c)] (mm M f g) R := by
  rcases hj with ⟨z, -⟩ | ⟨-, -, -, t, w0, w1, ht, h9, hw0, hw1, hWc⟩
  · rw [hr] at z; cases z
  ·
    show Go d 270 0 0 0 [.ref (ad 10 0), .int (nI c), .retAddr 0] [] (mm M f g) R
    refine go_blk 4 [some (.ref (ad 9 39))] (pc' := 6) (vs' := [.ref (ad 10 0), .int (nI c), .retAddr 0]) (st' := [.int (nI c), .ref (ad 10 0), .ref (ad 9 39)]) (M' := mm M f g) (ps := [ob (mm M f g) (ad 10 0) 12, mR (mm M f g) (ad 10 0) 39 = some (ad 9 39), va_rf (some (ad 9 39)) = .ref (ad 9 39)]) rfl ⟨hM.1, (hM.r 39 15 364), rfl, trivial⟩ ?_
    refine go_callV rfl rfl rfl (by omega) rfl (by decide) (by decide) hM.1 ?_
    show Go (d - 1) 207 0 0 0 [.ref (ad 10 0), .int (nI c)] [] (mm M f g) _
    refine go_blk 6 [some (.int (nI wk))] (pc' := 9) (vs' := [.ref (ad 10 0), .int (nI c)]) (st' := [.int ((7 * (nI wk)) + (nI c))]) (M' := mm M f g) (ps := [ob (mm M f g) (ad 10 0) 12, (Value.int (f (ad 10 0) 19)) = .int (nI wk)]) rfl ⟨hM.1, congrArg Value.int hk, trivial⟩ ?_
    refine go_iret rfl rfl ?_
    refine ⟨ne_i, ?_⟩
    show Go d 270 0 0 9 [.ref (ad 10 0), .int (nI c), .retAddr 0] [.int ((7 * (nI wk)) + (nI c)), .ref (ad 9 39)] (mm M f g) R
    refine go_blk 19 [some (.int (nI t)), some (.ref (ad 9 97)), some (.int (nI w0)), some (.ref (ad 9 97)), some (.int (nI w1))] (pc' := 32) (vs' := [.ref (ad 10 0), .int (nI c), .int (nI t)]) (st' := [.int ((1 + (nI w0)) + (nI w1))]) (M' := mm M f g) (ps := [ob (mm M f g) (ad 9 39) 15, vp_in ((7 * (nI wk)) + (nI c)) (mN (mm M f g) (ad 9 39)), (Value.int (f (ad 9 39) (((7 * (nI wk)) + (nI c)).toNatClampNeg))) = .int (nI t), ob (mm M f g) (ad 10 0) 12, mR (mm M f g) (ad 10 0) 97 = some (ad 9 97), va_rf (some (ad 9 97)) = .ref (ad 9 97), ob (mm M f g) (ad 9 97) 15, vp_in (4 * (nI t)) (mN (mm M f g) (ad 9 97)), (Value.int (f (ad 9 97) ((4 * (nI t)).toNatClampNeg))) = .int (nI w0), ob (mm M f g) (ad 10 0) 12, mR (mm M f g) (ad 10 0) 97 = some (ad 9 97), va_rf (some (ad 9 97)) = .ref (ad 9 97), ob (mm M f g) (ad 9 97) 15, vp_in ((4 * (nI t)) + 1) (mN (mm M f g) (ad 9 97)), (Value.int (f (ad 9 97) (((4 * (nI t)) + 1).toNatClampNeg))) = .int (nI w1)]) rfl ⟨(hM.o 39 15 364), (vp_eq (eq_add (eq_mul (show (7 : Int32) = nI 7 from rfl) rfl) rfl) (vpi (hM.n 39 15 364) (by omega))), congrArg Value.int ((congrArg (fun z => f (ad 9 39) z) (cl_of (eq_add (eq_mul (show (7 : Int32) = nI 7 from rfl) rfl) rfl) (by omega))).trans h9), hM.1, (hM.r 97 15 12), rfl, (hM.o 97 15 12), (vp_eq (eq_mul (show (4 : Int32) = nI 4 from rfl) rfl) (vpi (hM.n 97 15 12) (by omega))), congrArg Value.int ((congrArg (fun z => f (ad 9 97) z) (cl_of (eq_mul (show (4 : Int32) = nI 4 from rfl) rfl) (by omega))).trans hw0), hM.1, (hM.r 97 15 12), rfl, (hM.o 97 15 12), (vp_eq (eq_add (eq_mul (show (4 : Int32) = nI 4 from rfl) rfl) (show (1 : Int32) = nI 1 from rfl)) (vpi (hM.n 97 15 12) (by omega))), congrArg Value.int ((congrArg (fun z => f (ad 9 97) z) (cl_of (eq_add (eq_mul (show (4 : Int32) = nI 4 from rfl) rfl) (show (1 : Int32) = nI 1 from rfl)) (by omega))).trans hw1), trivial⟩ ?_
    refine go_iret rfl rfl ?_
    rw [hWc, ← nI_add, ← nI_add] at hR; exact hR

set_option maxRecDepth 100000 in
theorem lp_Mo_drawA {d : Nat} {M : Mem} {f : Nat → Nat → Int32} {g : Nat → Nat → Int64} {ad : Nat → Nat → Nat} {R : Option Value → Mem → Prop} {wk nc : Nat} {rd : Nat → Bool} {W : Nat → Nat} {a1 : Int32} {seed : Int64} (hd : 2 ≤ d) (hM : Mx M ad) (hk : f (ad 10 0) 19 = nI wk) (hwk : wk < 52) (nc1 : f (ad 10 0) 17 = nI nc) (nc3 : nc ≤ 7) (hj : ∀ c, c < nc → MJ f ad wk rd W c) (hop : f (ad 10 0) 21 = 1) (hx : Go d 271 0 0 75 [.ref (ad 10 0), .int a1, .long seed, .retAddr 1, .int (EI rd nc), .int (nI nc), .retAddr 0, .retAddr 0, .retAddr 0, .retAddr 0, .retAddr 0, .retAddr 0, .retAddr 0, .retAddr 0, .retAddr 0, .retAddr 0] [] (mm M f g) R) : ∀ c, c ≤ nc → Go d 271 0 0 11 [.ref (ad 10 0), .int a1, .long seed, .retAddr 1, .int (EI rd c), .int (nI c), .retAddr 0, .retAddr 0, .retAddr 0, .retAddr 0, .retAddr 0, .retAddr 0, .retAddr 0, .retAddr 0, .retAddr 0, .retAddr 0] [] (mm M f g) R := by
  refine up_ind (P := fun c => Go d 271 0 0 11 [.ref (ad 10 0), .int a1, .long seed, .retAddr 1, .int (EI rd c), .int (nI c), .retAddr 0, .retAddr 0, .retAddr 0, .retAddr 0, .retAddr 0, .retAddr 0, .retAddr 0, .retAddr 0, .retAddr 0, .retAddr 0] [] (mm M f g) R) nc ?_ (fun c hi ih => ?_)
  ·
    show Go d 271 0 0 11 [.ref (ad 10 0), .int a1, .long seed, .retAddr 1, .int (EI rd nc), .int (nI nc), .retAddr 0, .retAddr 0, .retAddr 0, .retAddr 0, .retAddr 0, .retAddr 0, .retAddr 0, .retAddr 0, .retAddr 0, .retAddr 0] [] (mm M f g) R
    refine go_blk 3 [some (.int (nI nc))] (pc' := 17) (vs' := [.ref (ad 10 0), .int a1, .long seed, .retAddr 1, .int (EI rd nc), .int (nI nc), .retAddr 0, .retAddr 0, .retAddr 0, .retAddr 0, .retAddr 0, .retAddr 0, .retAddr 0, .retAddr 0, .retAddr 0, .retAddr 0]) (st' := [.int (nI nc), .int (nI nc)]) (M' := mm M f g) (ps := [ob (mm M f g) (ad 10 0) 12, (Value.int (f (ad 10 0) 17)) = .int (nI nc)]) rfl ⟨hM.1, congrArg Value.int nc1, trivial⟩ ?_
    refine go_icmp rfl (fun _ => ?_) (fun (z : ¬ (nI nc ≤ (nI nc))) => absurd (show nI nc ≤ (nI nc) from Int32.le_refl _) z)
    exact hx
  · rcases hj c hi with ⟨hr, h32 | h38⟩ | ⟨hr, h32, h38, -⟩
    ·
      show Go d 271 0 0 11 [.ref (ad 10 0), .int a1, .long seed, .retAddr 1, .int (EI rd c), .int (nI c), .retAddr 0, .retAddr 0, .retAddr 0, .retAddr 0, .retAddr 0, .retAddr 0, .retAddr 0, .retAddr 0, .retAddr 0, .retAddr 0] [] (mm M f g) R
      refine go_blk 3 [some (.int (nI nc))] (pc' := 17) (vs' := [.ref (ad 10 0), .int a1, .long seed, .retAddr 1, .int (EI rd c), .int (nI c), .retAddr 0, .retAddr 0, .retAddr 0, .retAddr 0, .retAddr 0, .retAddr 0, .retAddr 0, .retAddr 0, .retAddr 0, .retAddr 0]) (st' := [.int (nI nc), .int (nI c)]) (M' := mm M f g) (ps := [ob (mm M f g) (ad 10 0) 12, (Value.int (f (ad 10 0) 17)) = .int (nI nc)]) rfl ⟨hM.1, congrArg Value.int nc1, trivial⟩ ?_
      refine go_icmp rfl (fun (z : nI nc ≤ (nI c)) => absurd z (show ¬ (nI nc ≤ (nI c)) from (Int32.not_le.mpr ((nI_lts (a := c) (b := nc) (by omega) (by omega)).mpr hi)))) (fun _ => ?_)
      refine go_blk 2 [some (.int 1)] (pc' := 24) (vs' := [.ref (ad 10 0), .int a1, .long seed, .retAddr 1, .int (EI rd c), .int (nI c), .retAddr 0, .retAddr 0, .retAddr 0, .retAddr 0, .retAddr 0, .retAddr 0, .retAddr 0, .retAddr 0, .retAddr 0, .retAddr 0]) (st' := [.int 1]) (M' := mm M f g) (ps := [ob (mm M f g) (ad 10 0) 12, (Value.int (f (ad 10 0) 21)) = .int 1]) rfl ⟨hM.1, congrArg Value.int hop, trivial⟩ ?_
      refine go_if rfl (fun (z : (1 : Int32) = 0) => absurd z (show ¬ ((1 : Int32) = 0) from (by decide))) (fun _ => ?_)
      refine go_blk 5 [some (.ref (ad 9 32))] (pc' := 36) (vs' := [.ref (ad 10 0), .int a1, .long seed, .retAddr 1, .int (EI rd c), .int (nI c), .retAddr 0, .retAddr 0, .retAddr 0, .retAddr 0, .retAddr 0, .retAddr 0, .retAddr 0, .retAddr 0, .retAddr 0, .retAddr 0]) (st' := [.int (nI c), .ref (ad 10 0), .ref (ad 9 32), .int (EI rd c)]) (M' := mm M f g) (ps := [ob (mm M f g) (ad 10 0) 12, mR (mm M f g) (ad 10 0) 32 = some (ad 9 32), va_rf (some (ad 9 32)) = .ref (ad 9 32)]) rfl ⟨hM.1, (hM.r 32 13 364), rfl, trivial⟩ ?_
      refine go_callV rfl rfl rfl (by omega) rfl (by decide) (by decide) hM.1 ?_
      show Go (d - 1) 207 0 0 0 [.ref (ad 10 0), .int (nI c)] [] (mm M f g) _
      refine go_blk 6 [some (.int (nI wk))] (pc' := 9) (vs' := [.ref (ad 10 0), .int (nI c)]) (st' := [.int ((7 * (nI wk)) + (nI c))]) (M' := mm M f g) (ps := [ob (mm M f g) (ad 10 0) 12, (Value.int (f (ad 10 0) 19)) = .int (nI wk)]) rfl ⟨hM.1, congrArg Value.int hk, trivial⟩ ?_
      refine go_iret rfl rfl ?_
      refine ⟨ne_i, ?_⟩
      show Go d 271 0 0 39 [.ref (ad 10 0), .int a1, .long seed, .retAddr 1, .int (EI rd c), .int (nI c), .retAddr 0, .retAddr 0, .retAddr 0, .retAddr 0, .retAddr 0, .retAddr 0, .retAddr 0, .retAddr 0, .retAddr 0, .retAddr 0] [.int ((7 * (nI wk)) + (nI c)), .ref (ad 9 32), .int (EI rd c)] (mm M f g) R
      refine go_blk 1 [some (.int 0)] (pc' := 40) (vs' := [.ref (ad 10 0), .int a1, .long seed, .retAddr 1, .int (EI rd c), .int (nI c), .retAddr 0, .retAddr 0, .retAddr 0, .retAddr 0, .retAddr 0, .retAddr 0, .retAddr 0, .retAddr 0, .retAddr 0, .retAddr 0]) (st' := [.int 0, .int (EI rd c)]) (M' := mm M f g) (ps := [ob (mm M f g) (ad 9 32) 13, 13 = 13 ∨ 13 = 14, vp_in ((7 * (nI wk)) + (nI c)) (mN (mm M f g) (ad 9 32)), (Value.int (f (ad 9 32) (((7 * (nI wk)) + (nI c)).toNatClampNeg))) = .int 0]) rfl ⟨(hM.o 32 13 364), (by decide), (vp_eq (eq_add (eq_mul (show (7 : Int32) = nI 7 from rfl) rfl) rfl) (vpi (hM.n 32 13 364) (by omega))), congrArg Value.int ((congrArg (fun z => f (ad 9 32) z) (cl_of (eq_add (eq_mul (show (7 : Int32) = nI 7 from rfl) rfl) rfl) (by omega))).trans h32), trivial⟩ ?_
      refine go_if rfl (fun _ => ?_) (fun (z : ¬ ((0 : Int32) = 0)) => absurd (show (0 : Int32) = 0 from (by decide)) z)
      refine go_blk 5 [] (pc' := 11) (vs' := [.ref (ad 10 0), .int a1, .long seed, .retAddr 1, .int ((EI rd c) ||| 0), .int ((nI c) + 1), .retAddr 0, .retAddr 0, .retAddr 0, .retAddr 0, .retAddr 0, .retAddr 0, .retAddr 0, .retAddr 0, .retAddr 0, .retAddr 0]) (st' := []) (M' := mm M f g) (ps := []) rfl trivial ?_
      have e1 : nI c + 1 = nI (c + 1) := nI_add c 1
      have e2 : EI rd c ||| 0 = EI rd (c + 1) := by rw [EI, hr]; rfl
      rw [e1, e2]
      exact ih
    ·
      show Go d 271 0 0 11 [.ref (ad 10 0), .int a1, .long seed, .retAddr 1, .int (EI rd c), .int (nI c), .retAddr 0, .retAddr 0, .retAddr 0, .retAddr 0, .retAddr 0, .retAddr 0, .retAddr 0, .retAddr 0, .retAddr 0, .retAddr 0] [] (mm M f g) R
      refine go_blk 3 [some (.int (nI nc))] (pc' := 17) (vs' := [.ref (ad 10 0), .int a1, .long seed, .retAddr 1, .int (EI rd c), .int (nI c), .retAddr 0, .retAddr 0, .retAddr 0, .retAddr 0, .retAddr 0, .retAddr 0, .retAddr 0, .retAddr 0, .retAddr 0, .retAddr 0]) (st' := [.int (nI nc), .int (nI c)]) (M' := mm M f g) (ps := [ob (mm M f g) (ad 10 0) 12, (Value.int (f (ad 10 0) 17)) = .int (nI nc)]) rfl ⟨hM.1, congrArg Value.int nc1, trivial⟩ ?_
      refine go_icmp rfl (fun (z : nI nc ≤ (nI c)) => absurd z (show ¬ (nI nc ≤ (nI c)) from (Int32.not_le.mpr ((nI_lts (a := c) (b := nc) (by omega) (by omega)).mpr hi)))) (fun _ => ?_)
      refine go_blk 2 [some (.int 1)] (pc' := 24) (vs' := [.ref (ad 10 0), .int a1, .long seed, .retAddr 1, .int (EI rd c), .int (nI c), .retAddr 0, .retAddr 0, .retAddr 0, .retAddr 0, .retAddr 0, .retAddr 0, .retAddr 0, .retAddr 0, .retAddr 0, .retAddr 0]) (st' := [.int 1]) (M' := mm M f g) (ps := [ob (mm M f g) (ad 10 0) 12, (Value.int (f (ad 10 0) 21)) = .int 1]) rfl ⟨hM.1, congrArg Value.int hop, trivial⟩ ?_
      refine go_if rfl (fun (z : (1 : Int32) = 0) => absurd z (show ¬ ((1 : Int32) = 0) from (by decide))) (fun _ => ?_)
      refine go_blk 5 [some (.ref (ad 9 32))] (pc' := 36) (vs' := [.ref (ad 10 0), .int a1, .long seed, .retAddr 1, .int (EI rd c), .int (nI c), .retAddr 0, .retAddr 0, .retAddr 0, .retAddr 0, .retAddr 0, .retAddr 0, .retAddr 0, .retAddr 0, .retAddr 0, .retAddr 0]) (st' := [.int (nI c), .ref (ad 10 0), .ref (ad 9 32), .int (EI rd c)]) (M' := mm M f g) (ps := [ob (mm M f g) (ad 10 0) 12, mR (mm M f g) (ad 10 0) 32 = some (ad 9 32), va_rf (some (ad 9 32)) = .ref (ad 9 32)]) rfl ⟨hM.1, (hM.r 32 13 364), rfl, trivial⟩ ?_
      refine go_callV rfl rfl rfl (by omega) rfl (by decide) (by decide) hM.1 ?_
      show Go (d - 1) 207 0 0 0 [.ref (ad 10 0), .int (nI c)] [] (mm M f g) _
      refine go_blk 6 [some (.int (nI wk))] (pc' := 9) (vs' := [.ref (ad 10 0), .int (nI c)]) (st' := [.int ((7 * (nI wk)) + (nI c))]) (M' := mm M f g) (ps := [ob (mm M f g) (ad 10 0) 12, (Value.int (f (ad 10 0) 19)) = .int (nI wk)]) rfl ⟨hM.1, congrArg Value.int hk, trivial⟩ ?_
      refine go_iret rfl rfl ?_
      refine ⟨ne_i, ?_⟩
      show Go d 271 0 0 39 [.ref (ad 10 0), .int a1, .long seed, .retAddr 1, .int (EI rd c), .int (nI c), .retAddr 0, .retAddr 0, .retAddr 0, .retAddr 0, .retAddr 0, .retAddr 0, .retAddr 0, .retAddr 0, .retAddr 0, .retAddr 0] [.int ((7 * (nI wk)) + (nI c)), .ref (ad 9 32), .int (EI rd c)] (mm M f g) R
      refine go_blk 1 [some (.int (f (ad 9 32) (7 * wk + c)))] (pc' := 40) (vs' := [.ref (ad 10 0), .int a1, .long seed, .retAddr 1, .int (EI rd c), .int (nI c), .retAddr 0, .retAddr 0, .retAddr 0, .retAddr 0, .retAddr 0, .retAddr 0, .retAddr 0, .retAddr 0, .retAddr 0, .retAddr 0]) (st' := [.int (f (ad 9 32) (7 * wk + c)), .int (EI rd c)]) (M' := mm M f g) (ps := [ob (mm M f g) (ad 9 32) 13, 13 = 13 ∨ 13 = 14, vp_in ((7 * (nI wk)) + (nI c)) (mN (mm M f g) (ad 9 32)), (Value.int (f (ad 9 32) (((7 * (nI wk)) + (nI c)).toNatClampNeg))) = .int (f (ad 9 32) (7 * wk + c))]) rfl ⟨(hM.o 32 13 364), (by decide), (vp_eq (eq_add (eq_mul (show (7 : Int32) = nI 7 from rfl) rfl) rfl) (vpi (hM.n 32 13 364) (by omega))), congrArg Value.int ((congrArg (fun z => f (ad 9 32) z) (cl_of (eq_add (eq_mul (show (7 : Int32) = nI 7 from rfl) rfl) rfl) (by omega)))), trivial⟩ ?_
      refine go_if rfl (fun (c1 : (f (ad 9 32) (7 * wk + c)) = 0) => ?_) (fun (c1 : ¬ ((f (ad 9 32) (7 * wk + c)) = 0)) => ?_)
      · -- (f (ad 9 32) (7 * wk + c)) = 0
        refine go_blk 5 [] (pc' := 11) (vs' := [.ref (ad 10 0), .int a1, .long seed, .retAddr 1, .int ((EI rd c) ||| 0), .int ((nI c) + 1), .retAddr 0, .retAddr 0, .retAddr 0, .retAddr 0, .retAddr 0, .retAddr 0, .retAddr 0, .retAddr 0, .retAddr 0, .retAddr 0]) (st' := []) (M' := mm M f g) (ps := []) rfl trivial ?_
        have e1 : nI c + 1 = nI (c + 1) := nI_add c 1
        have e2 : EI rd c ||| 0 = EI rd (c + 1) := by rw [EI, hr]; rfl
        rw [e1, e2]
        exact ih
      · -- ¬ ((f (ad 9 32) (7 * wk + c)) = 0)
        refine go_blk 4 [some (.ref (ad 9 38))] (pc' := 50) (vs' := [.ref (ad 10 0), .int a1, .long seed, .retAddr 1, .int (EI rd c), .int (nI c), .retAddr 0, .retAddr 0, .retAddr 0, .retAddr 0, .retAddr 0, .retAddr 0, .retAddr 0, .retAddr 0, .retAddr 0, .retAddr 0]) (st' := [.int (nI c), .ref (ad 10 0), .ref (ad 9 38), .int (EI rd c)]) (M' := mm M f g) (ps := [ob (mm M f g) (ad 10 0) 12, mR (mm M f g) (ad 10 0) 38 = some (ad 9 38), va_rf (some (ad 9 38)) = .ref (ad 9 38)]) rfl ⟨hM.1, (hM.r 38 15 364), rfl, trivial⟩ ?_
        refine go_callV rfl rfl rfl (by omega) rfl (by decide) (by decide) hM.1 ?_
        show Go (d - 1) 207 0 0 0 [.ref (ad 10 0), .int (nI c)] [] (mm M f g) _
        refine go_blk 6 [some (.int (nI wk))] (pc' := 9) (vs' := [.ref (ad 10 0), .int (nI c)]) (st' := [.int ((7 * (nI wk)) + (nI c))]) (M' := mm M f g) (ps := [ob (mm M f g) (ad 10 0) 12, (Value.int (f (ad 10 0) 19)) = .int (nI wk)]) rfl ⟨hM.1, congrArg Value.int hk, trivial⟩ ?_
        refine go_iret rfl rfl ?_
        refine ⟨ne_i, ?_⟩
        show Go d 271 0 0 53 [.ref (ad 10 0), .int a1, .long seed, .retAddr 1, .int (EI rd c), .int (nI c), .retAddr 0, .retAddr 0, .retAddr 0, .retAddr 0, .retAddr 0, .retAddr 0, .retAddr 0, .retAddr 0, .retAddr 0, .retAddr 0] [.int ((7 * (nI wk)) + (nI c)), .ref (ad 9 38), .int (EI rd c)] (mm M f g) R
        refine go_blk 2 [some (.int (-1))] (pc' := 55) (vs' := [.ref (ad 10 0), .int a1, .long seed, .retAddr 1, .int (EI rd c), .int (nI c), .retAddr 0, .retAddr 0, .retAddr 0, .retAddr 0, .retAddr 0, .retAddr 0, .retAddr 0, .retAddr 0, .retAddr 0, .retAddr 0]) (st' := [.int (-1), .int (-1), .int (EI rd c)]) (M' := mm M f g) (ps := [ob (mm M f g) (ad 9 38) 15, vp_in ((7 * (nI wk)) + (nI c)) (mN (mm M f g) (ad 9 38)), (Value.int (f (ad 9 38) (((7 * (nI wk)) + (nI c)).toNatClampNeg))) = .int (-1)]) rfl ⟨(hM.o 38 15 364), (vp_eq (eq_add (eq_mul (show (7 : Int32) = nI 7 from rfl) rfl) rfl) (vpi (hM.n 38 15 364) (by omega))), congrArg Value.int ((congrArg (fun z => f (ad 9 38) z) (cl_of (eq_add (eq_mul (show (7 : Int32) = nI 7 from rfl) rfl) rfl) (by omega))).trans h38), trivial⟩ ?_
        refine go_icmp rfl (fun _ => ?_) (fun (z : ¬ (((-1) : Int32) = (-1))) => absurd (show ((-1) : Int32) = (-1) from (by decide)) z)
        refine go_blk 5 [] (pc' := 11) (vs' := [.ref (ad 10 0), .int a1, .long seed, .retAddr 1, .int ((EI rd c) ||| 0), .int ((nI c) + 1), .retAddr 0, .retAddr 0, .retAddr 0, .retAddr 0, .retAddr 0, .retAddr 0, .retAddr 0, .retAddr 0, .retAddr 0, .retAddr 0]) (st' := []) (M' := mm M f g) (ps := []) rfl trivial ?_
        have e1 : nI c + 1 = nI (c + 1) := nI_add c 1
        have e2 : EI rd c ||| 0 = EI rd (c + 1) := by rw [EI, hr]; rfl
        rw [e1, e2]
        exact ih
    ·
      show Go d 271 0 0 11 [.ref (ad 10 0), .int a1, .long seed, .retAddr 1, .int (EI rd c), .int (nI c), .retAddr 0, .retAddr 0, .retAddr 0, .retAddr 0, .retAddr 0, .retAddr 0, .retAddr 0, .retAddr 0, .retAddr 0, .retAddr 0] [] (mm M f g) R
      refine go_blk 3 [some (.int (nI nc))] (pc' := 17) (vs' := [.ref (ad 10 0), .int a1, .long seed, .retAddr 1, .int (EI rd c), .int (nI c), .retAddr 0, .retAddr 0, .retAddr 0, .retAddr 0, .retAddr 0, .retAddr 0, .retAddr 0, .retAddr 0, .retAddr 0, .retAddr 0]) (st' := [.int (nI nc), .int (nI c)]) (M' := mm M f g) (ps := [ob (mm M f g) (ad 10 0) 12, (Value.int (f (ad 10 0) 17)) = .int (nI nc)]) rfl ⟨hM.1, congrArg Value.int nc1, trivial⟩ ?_
      refine go_icmp rfl (fun (z : nI nc ≤ (nI c)) => absurd z (show ¬ (nI nc ≤ (nI c)) from (Int32.not_le.mpr ((nI_lts (a := c) (b := nc) (by omega) (by omega)).mpr hi)))) (fun _ => ?_)
      refine go_blk 2 [some (.int 1)] (pc' := 24) (vs' := [.ref (ad 10 0), .int a1, .long seed, .retAddr 1, .int (EI rd c), .int (nI c), .retAddr 0, .retAddr 0, .retAddr 0, .retAddr 0, .retAddr 0, .retAddr 0, .retAddr 0, .retAddr 0, .retAddr 0, .retAddr 0]) (st' := [.int 1]) (M' := mm M f g) (ps := [ob (mm M f g) (ad 10 0) 12, (Value.int (f (ad 10 0) 21)) = .int 1]) rfl ⟨hM.1, congrArg Value.int hop, trivial⟩ ?_
      refine go_if rfl (fun (z : (1 : Int32) = 0) => absurd z (show ¬ ((1 : Int32) = 0) from (by decide))) (fun _ => ?_)
      refine go_blk 5 [some (.ref (ad 9 32))] (pc' := 36) (vs' := [.ref (ad 10 0), .int a1, .long seed, .retAddr 1, .int (EI rd c), .int (nI c), .retAddr 0, .retAddr 0, .retAddr 0, .retAddr 0, .retAddr 0, .retAddr 0, .retAddr 0, .retAddr 0, .retAddr 0, .retAddr 0]) (st' := [.int (nI c), .ref (ad 10 0), .ref (ad 9 32), .int (EI rd c)]) (M' := mm M f g) (ps := [ob (mm M f g) (ad 10 0) 12, mR (mm M f g) (ad 10 0) 32 = some (ad 9 32), va_rf (some (ad 9 32)) = .ref (ad 9 32)]) rfl ⟨hM.1, (hM.r 32 13 364), rfl, trivial⟩ ?_
      refine go_callV rfl rfl rfl (by omega) rfl (by decide) (by decide) hM.1 ?_
      show Go (d - 1) 207 0 0 0 [.ref (ad 10 0), .int (nI c)] [] (mm M f g) _
      refine go_blk 6 [some (.int (nI wk))] (pc' := 9) (vs' := [.ref (ad 10 0), .int (nI c)]) (st' := [.int ((7 * (nI wk)) + (nI c))]) (M' := mm M f g) (ps := [ob (mm M f g) (ad 10 0) 12, (Value.int (f (ad 10 0) 19)) = .int (nI wk)]) rfl ⟨hM.1, congrArg Value.int hk, trivial⟩ ?_
      refine go_iret rfl rfl ?_
      refine ⟨ne_i, ?_⟩
      show Go d 271 0 0 39 [.ref (ad 10 0), .int a1, .long seed, .retAddr 1, .int (EI rd c), .int (nI c), .retAddr 0, .retAddr 0, .retAddr 0, .retAddr 0, .retAddr 0, .retAddr 0, .retAddr 0, .retAddr 0, .retAddr 0, .retAddr 0] [.int ((7 * (nI wk)) + (nI c)), .ref (ad 9 32), .int (EI rd c)] (mm M f g) R
      refine go_blk 1 [some (.int (f (ad 9 32) (7 * wk + c)))] (pc' := 40) (vs' := [.ref (ad 10 0), .int a1, .long seed, .retAddr 1, .int (EI rd c), .int (nI c), .retAddr 0, .retAddr 0, .retAddr 0, .retAddr 0, .retAddr 0, .retAddr 0, .retAddr 0, .retAddr 0, .retAddr 0, .retAddr 0]) (st' := [.int (f (ad 9 32) (7 * wk + c)), .int (EI rd c)]) (M' := mm M f g) (ps := [ob (mm M f g) (ad 9 32) 13, 13 = 13 ∨ 13 = 14, vp_in ((7 * (nI wk)) + (nI c)) (mN (mm M f g) (ad 9 32)), (Value.int (f (ad 9 32) (((7 * (nI wk)) + (nI c)).toNatClampNeg))) = .int (f (ad 9 32) (7 * wk + c))]) rfl ⟨(hM.o 32 13 364), (by decide), (vp_eq (eq_add (eq_mul (show (7 : Int32) = nI 7 from rfl) rfl) rfl) (vpi (hM.n 32 13 364) (by omega))), congrArg Value.int ((congrArg (fun z => f (ad 9 32) z) (cl_of (eq_add (eq_mul (show (7 : Int32) = nI 7 from rfl) rfl) rfl) (by omega)))), trivial⟩ ?_
      refine go_if rfl (fun (z : (f (ad 9 32) (7 * wk + c)) = 0) => absurd z (show ¬ ((f (ad 9 32) (7 * wk + c)) = 0) from h32)) (fun _ => ?_)
      refine go_blk 4 [some (.ref (ad 9 38))] (pc' := 50) (vs' := [.ref (ad 10 0), .int a1, .long seed, .retAddr 1, .int (EI rd c), .int (nI c), .retAddr 0, .retAddr 0, .retAddr 0, .retAddr 0, .retAddr 0, .retAddr 0, .retAddr 0, .retAddr 0, .retAddr 0, .retAddr 0]) (st' := [.int (nI c), .ref (ad 10 0), .ref (ad 9 38), .int (EI rd c)]) (M' := mm M f g) (ps := [ob (mm M f g) (ad 10 0) 12, mR (mm M f g) (ad 10 0) 38 = some (ad 9 38), va_rf (some (ad 9 38)) = .ref (ad 9 38)]) rfl ⟨hM.1, (hM.r 38 15 364), rfl, trivial⟩ ?_
      refine go_callV rfl rfl rfl (by omega) rfl (by decide) (by decide) hM.1 ?_
      show Go (d - 1) 207 0 0 0 [.ref (ad 10 0), .int (nI c)] [] (mm M f g) _
      refine go_blk 6 [some (.int (nI wk))] (pc' := 9) (vs' := [.ref (ad 10 0), .int (nI c)]) (st' := [.int ((7 * (nI wk)) + (nI c))]) (M' := mm M f g) (ps := [ob (mm M f g) (ad 10 0) 12, (Value.int (f (ad 10 0) 19)) = .int (nI wk)]) rfl ⟨hM.1, congrArg Value.int hk, trivial⟩ ?_
      refine go_iret rfl rfl ?_
      refine ⟨ne_i, ?_⟩
      show Go d 271 0 0 53 [.ref (ad 10 0), .int a1, .long seed, .retAddr 1, .int (EI rd c), .int (nI c), .retAddr 0, .retAddr 0, .retAddr 0, .retAddr 0, .retAddr 0, .retAddr 0, .retAddr 0, .retAddr 0, .retAddr 0, .retAddr 0] [.int ((7 * (nI wk)) + (nI c)), .ref (ad 9 38), .int (EI rd c)] (mm M f g) R
      refine go_blk 2 [some (.int (f (ad 9 38) (7 * wk + c)))] (pc' := 55) (vs' := [.ref (ad 10 0), .int a1, .long seed, .retAddr 1, .int (EI rd c), .int (nI c), .retAddr 0, .retAddr 0, .retAddr 0, .retAddr 0, .retAddr 0, .retAddr 0, .retAddr 0, .retAddr 0, .retAddr 0, .retAddr 0]) (st' := [.int (-1), .int (f (ad 9 38) (7 * wk + c)), .int (EI rd c)]) (M' := mm M f g) (ps := [ob (mm M f g) (ad 9 38) 15, vp_in ((7 * (nI wk)) + (nI c)) (mN (mm M f g) (ad 9 38)), (Value.int (f (ad 9 38) (((7 * (nI wk)) + (nI c)).toNatClampNeg))) = .int (f (ad 9 38) (7 * wk + c))]) rfl ⟨(hM.o 38 15 364), (vp_eq (eq_add (eq_mul (show (7 : Int32) = nI 7 from rfl) rfl) rfl) (vpi (hM.n 38 15 364) (by omega))), congrArg Value.int ((congrArg (fun z => f (ad 9 38) z) (cl_of (eq_add (eq_mul (show (7 : Int32) = nI 7 from rfl) rfl) rfl) (by omega)))), trivial⟩ ?_
      refine go_icmp rfl (fun (z : (f (ad 9 38) (7 * wk + c)) = (-1)) => absurd z (show ¬ ((f (ad 9 38) (7 * wk + c)) = (-1)) from h38)) (fun _ => ?_)
      refine go_blk 8 [] (pc' := 11) (vs' := [.ref (ad 10 0), .int a1, .long seed, .retAddr 1, .int ((EI rd c) ||| (1 <<< ((nI c) &&& 31))), .int ((nI c) + 1), .retAddr 0, .retAddr 0, .retAddr 0, .retAddr 0, .retAddr 0, .retAddr 0, .retAddr 0, .retAddr 0, .retAddr 0, .retAddr 0]) (st' := []) (M' := mm M f g) (ps := []) rfl trivial ?_
      have e1 : nI c + 1 = nI (c + 1) := nI_add c 1
      have e2 : EI rd c ||| ((1 : Int32) <<< (nI c &&& 31)) = EI rd (c + 1) := by rw [EI, hr]; rfl
      rw [e1, e2]
      exact ih

set_option maxRecDepth 100000 in
theorem lp_Mo_drawB {d : Nat} {M : Mem} {f : Nat → Nat → Int32} {g : Nat → Nat → Int64} {ad : Nat → Nat → Nat} {R : Option Value → Mem → Prop} {wk nc : Nat} {rd : Nat → Bool} {W : Nat → Nat} {n k : Nat} {seed x : Int64} {X : Int32} {u12 u13 u14 u15 : Value} (hd : 2 ≤ d) (hM : Mx M ad) (hk : f (ad 10 0) 19 = nI wk) (hwk : wk < 52) (nc1 : f (ad 10 0) 17 = nI nc) (nc3 : nc ≤ 7) (hj : ∀ c, c < nc → MJ f ad wk rd W c) (hB : ∀ c, W c ≤ 200) (hx : Go d 271 0 0 174 [.ref (ad 10 0), .int (nI n), .long seed, .retAddr 1, .int (EI rd nc), .long x, .retAddr 1, .int X, .int (nI k), .long (lN (csN (wtN rd W X) nc)), .retAddr 1, .int (nI nc), u12, u13, u14, u15] [] (mm M f g) R) : ∀ c, c ≤ nc → Go d 271 0 0 131 [.ref (ad 10 0), .int (nI n), .long seed, .retAddr 1, .int (EI rd nc), .long x, .retAddr 1, .int X, .int (nI k), .long (lN (csN (wtN rd W X) c)), .retAddr 1, .int (nI c), u12, u13, u14, u15] [] (mm M f g) R := by
  refine up_ind (P := fun c => Go d 271 0 0 131 [.ref (ad 10 0), .int (nI n), .long seed, .retAddr 1, .int (EI rd nc), .long x, .retAddr 1, .int X, .int (nI k), .long (lN (csN (wtN rd W X) c)), .retAddr 1, .int (nI c), u12, u13, u14, u15] [] (mm M f g) R) nc ?_ (fun c hi ih => ?_)
  ·
    show Go d 271 0 0 131 [.ref (ad 10 0), .int (nI n), .long seed, .retAddr 1, .int (EI rd nc), .long x, .retAddr 1, .int X, .int (nI k), .long (lN (csN (wtN rd W X) nc)), .retAddr 1, .int (nI nc), u12, u13, u14, u15] [] (mm M f g) R
    refine go_blk 3 [some (.int (nI nc))] (pc' := 137) (vs' := [.ref (ad 10 0), .int (nI n), .long seed, .retAddr 1, .int (EI rd nc), .long x, .retAddr 1, .int X, .int (nI k), .long (lN (csN (wtN rd W X) nc)), .retAddr 1, .int (nI nc), u12, u13, u14, u15]) (st' := [.int (nI nc), .int (nI nc)]) (M' := mm M f g) (ps := [ob (mm M f g) (ad 10 0) 12, (Value.int (f (ad 10 0) 17)) = .int (nI nc)]) rfl ⟨hM.1, congrArg Value.int nc1, trivial⟩ ?_
    refine go_icmp rfl (fun _ => ?_) (fun (z : ¬ (nI nc ≤ (nI nc))) => absurd (show nI nc ≤ (nI nc) from Int32.le_refl _) z)
    exact hx
  · have hbit : ((EI rd nc &&& (X ^^^ (-1))) >>> (nI c &&& 31)) &&& 1 = if (rd c && !(bt X c)) = true then 1 else 0 := by rw [bit_s _ (by omega), bt_not _ _ (by omega), EI_bt rd (by omega) nc nc3]; simp [hi]
    cases hq : (rd c && !(bt X c))
    ·
      have hw0 : wtN rd W X c = 0 := by unfold wtN; rw [if_neg (fun z => by rw [z.1, z.2] at hq; cases hq)]
      show Go d 271 0 0 131 [.ref (ad 10 0), .int (nI n), .long seed, .retAddr 1, .int (EI rd nc), .long x, .retAddr 1, .int X, .int (nI k), .long (lN (csN (wtN rd W X) c)), .retAddr 1, .int (nI c), u12, u13, u14, u15] [] (mm M f g) R
      refine go_blk 3 [some (.int (nI nc))] (pc' := 137) (vs' := [.ref (ad 10 0), .int (nI n), .long seed, .retAddr 1, .int (EI rd nc), .long x, .retAddr 1, .int X, .int (nI k), .long (lN (csN (wtN rd W X) c)), .retAddr 1, .int (nI c), u12, u13, u14, u15]) (st' := [.int (nI nc), .int (nI c)]) (M' := mm M f g) (ps := [ob (mm M f g) (ad 10 0) 12, (Value.int (f (ad 10 0) 17)) = .int (nI nc)]) rfl ⟨hM.1, congrArg Value.int nc1, trivial⟩ ?_
      refine go_icmp rfl (fun (z : nI nc ≤ (nI c)) => absurd z (show ¬ (nI nc ≤ (nI c)) from (Int32.not_le.mpr ((nI_lts (a := c) (b := nc) (by omega) (by omega)).mpr hi)))) (fun _ => ?_)
      refine go_blk 10 [] (pc' := 153) (vs' := [.ref (ad 10 0), .int (nI n), .long seed, .retAddr 1, .int (EI rd nc), .long x, .retAddr 1, .int X, .int (nI k), .long (lN (csN (wtN rd W X) c)), .retAddr 1, .int (nI c), u12, u13, u14, u15]) (st' := [.int 1, .int ((((EI rd nc) &&& (X ^^^ (-1))) >>> ((nI c) &&& 31)) &&& 1)]) (M' := mm M f g) (ps := []) rfl trivial ?_
      refine go_icmp rfl (fun _ => ?_) (fun (z : ¬ (¬ ((((EI rd nc) &&& (X ^^^ (-1))) >>> ((nI c) &&& 31)) &&& 1) = 1)) => absurd (show ¬ ((((EI rd nc) &&& (X ^^^ (-1))) >>> ((nI c) &&& 31)) &&& 1) = 1 from (by rw [hbit, hq]; decide)) z)
      refine go_blk 2 [] (pc' := 131) (vs' := [.ref (ad 10 0), .int (nI n), .long seed, .retAddr 1, .int (EI rd nc), .long x, .retAddr 1, .int X, .int (nI k), .long (lN (csN (wtN rd W X) c)), .retAddr 1, .int ((nI c) + 1), u12, u13, u14, u15]) (st' := []) (M' := mm M f g) (ps := []) rfl trivial ?_
      have e1 : nI c + 1 = nI (c + 1) := nI_add c 1
      have e2 : lN (csN (wtN rd W X) c) = lN (csN (wtN rd W X) (c + 1)) := by rw [csN, hw0]; rfl
      rw [e1, e2]
      exact ih
    ·
      have hr : rd c = true := by cases h : rd c; rw [h] at hq; cases hq; rfl
      have hw0 : wtN rd W X c = W c := by unfold wtN; rw [if_pos ⟨hr, by cases h : bt X c; rfl; rw [hr, h] at hq; cases hq⟩]
      show Go d 271 0 0 131 [.ref (ad 10 0), .int (nI n), .long seed, .retAddr 1, .int (EI rd nc), .long x, .retAddr 1, .int X, .int (nI k), .long (lN (csN (wtN rd W X) c)), .retAddr 1, .int (nI c), u12, u13, u14, u15] [] (mm M f g) R
      refine go_blk 3 [some (.int (nI nc))] (pc' := 137) (vs' := [.ref (ad 10 0), .int (nI n), .long seed, .retAddr 1, .int (EI rd nc), .long x, .retAddr 1, .int X, .int (nI k), .long (lN (csN (wtN rd W X) c)), .retAddr 1, .int (nI c), u12, u13, u14, u15]) (st' := [.int (nI nc), .int (nI c)]) (M' := mm M f g) (ps := [ob (mm M f g) (ad 10 0) 12, (Value.int (f (ad 10 0) 17)) = .int (nI nc)]) rfl ⟨hM.1, congrArg Value.int nc1, trivial⟩ ?_
      refine go_icmp rfl (fun (z : nI nc ≤ (nI c)) => absurd z (show ¬ (nI nc ≤ (nI c)) from (Int32.not_le.mpr ((nI_lts (a := c) (b := nc) (by omega) (by omega)).mpr hi)))) (fun _ => ?_)
      refine go_blk 10 [] (pc' := 153) (vs' := [.ref (ad 10 0), .int (nI n), .long seed, .retAddr 1, .int (EI rd nc), .long x, .retAddr 1, .int X, .int (nI k), .long (lN (csN (wtN rd W X) c)), .retAddr 1, .int (nI c), u12, u13, u14, u15]) (st' := [.int 1, .int ((((EI rd nc) &&& (X ^^^ (-1))) >>> ((nI c) &&& 31)) &&& 1)]) (M' := mm M f g) (ps := []) rfl trivial ?_
      refine go_icmp rfl (fun (z : ¬ ((((EI rd nc) &&& (X ^^^ (-1))) >>> ((nI c) &&& 31)) &&& 1) = 1) => absurd z (show ¬ (¬ ((((EI rd nc) &&& (X ^^^ (-1))) >>> ((nI c) &&& 31)) &&& 1) = 1) from (by rw [hbit, hq]; decide))) (fun _ => ?_)
      refine go_blk 3 [] (pc' := 161) (vs' := [.ref (ad 10 0), .int (nI n), .long seed, .retAddr 1, .int (EI rd nc), .long x, .retAddr 1, .int X, .int (nI k), .long (lN (csN (wtN rd W X) c)), .retAddr 1, .int (nI c), u12, u13, u14, u15]) (st' := [.int (nI c), .ref (ad 10 0), .long (lN (csN (wtN rd W X) c))]) (M' := mm M f g) (ps := []) rfl trivial ?_
      refine go_callV rfl rfl rfl (by omega) rfl (by decide) (by decide) hM.1 ?_
      refine s_Mo_weight (rd := rd) (W := W) (by omega) hM hk hwk (by omega) hr (hj c hi) ⟨ne_i, ?_⟩
      show Go d 271 0 0 164 [.ref (ad 10 0), .int (nI n), .long seed, .retAddr 1, .int (EI rd nc), .long x, .retAddr 1, .int X, .int (nI k), .long (lN (csN (wtN rd W X) c)), .retAddr 1, .int (nI c), u12, u13, u14, u15] [.int (nI (W c)), .long (lN (csN (wtN rd W X) c))] (mm M f g) R
      refine go_blk 5 [] (pc' := 131) (vs' := [.ref (ad 10 0), .int (nI n), .long seed, .retAddr 1, .int (EI rd nc), .long x, .retAddr 1, .int X, .int (nI k), .long ((lN (csN (wtN rd W X) c)) + ((nI (W c)).toInt64)), .retAddr 1, .int ((nI c) + 1), u12, u13, u14, u15]) (st' := []) (M' := mm M f g) (ps := []) rfl trivial ?_
      have e1 : nI c + 1 = nI (c + 1) := nI_add c 1
      have e2 : lN (csN (wtN rd W X) c) + (nI (W c)).toInt64 = lN (csN (wtN rd W X) (c + 1)) := by rw [nI_l (by have := hB c; omega), lN_add, csN, hw0]
      rw [e1, e2]
      exact ih

set_option maxRecDepth 100000 in
theorem lp_Mo_drawC {d : Nat} {M : Mem} {f : Nat → Nat → Int32} {g : Nat → Nat → Int64} {ad : Nat → Nat → Nat} {R : Option Value → Mem → Prop} {wk nc : Nat} {rd : Nat → Bool} {W : Nat → Nat} {n k : Nat} {seed x : Int64} {X : Int32} {y9 : Int64} {u10 : Value} {lot : Nat} (hd : 2 ≤ d) (hM : Mx M ad) (hk : f (ad 10 0) 19 = nI wk) (hwk : wk < 52) (nc1 : f (ad 10 0) 17 = nI nc) (nc3 : nc ≤ 7) (hj : ∀ c, c < nc → MJ f ad wk rd W c) (hB : ∀ c, W c ≤ 200) (hlt : lot < csN (wtN rd W X) nc) (hx : ∀ i j, i < nc → csN (wtN rd W X) i ≤ lot → lot < csN (wtN rd W X) (i + 1) → Go d 271 0 0 274 [.ref (ad 10 0), .int (nI n), .long seed, .retAddr 1, .int (EI rd nc), .long x, .retAddr 1, .int X, .int (nI k), .long y9, u10, .long (lN j), .retAddr 1, .int (nI i), .int 0, .int 1] [] (mm M f g) R) : ∀ c, c ≤ nc → csN (wtN rd W X) c ≤ lot → ∀ u15 : Value, Go d 271 0 0 190 [.ref (ad 10 0), .int (nI n), .long seed, .retAddr 1, .int (EI rd nc), .long x, .retAddr 1, .int X, .int (nI k), .long y9, u10, .long (lN (lot - csN (wtN rd W X) c)), .retAddr 1, .int (nI c), .int 1, u15] [] (mm M f g) R := by
  have hB2 : ∀ c, wtN rd W X c ≤ 200 := fun c => by unfold wtN; have := hB c; split <;> omega
  have hcb := csN_b hB2 nc
  refine up_ind (P := fun c => csN (wtN rd W X) c ≤ lot → ∀ u15 : Value, Go d 271 0 0 190 [.ref (ad 10 0), .int (nI n), .long seed, .retAddr 1, .int (EI rd nc), .long x, .retAddr 1, .int X, .int (nI k), .long y9, u10, .long (lN (lot - csN (wtN rd W X) c)), .retAddr 1, .int (nI c), .int 1, u15] [] (mm M f g) R) nc (fun z => absurd z (by omega)) (fun c hi ih hp u15 => ?_)
  have hbit : ((EI rd nc &&& (X ^^^ (-1))) >>> (nI c &&& 31)) &&& 1 = if (rd c && !(bt X c)) = true then 1 else 0 := by rw [bit_s _ (by omega), bt_not _ _ (by omega), EI_bt rd (by omega) nc nc3]; simp [hi]
  cases hq : (rd c && !(bt X c))
  ·
    have hw0 : wtN rd W X c = 0 := by unfold wtN; rw [if_neg (fun z => by rw [z.1, z.2] at hq; cases hq)]
    show Go d 271 0 0 190 [.ref (ad 10 0), .int (nI n), .long seed, .retAddr 1, .int (EI rd nc), .long x, .retAddr 1, .int X, .int (nI k), .long y9, u10, .long (lN (lot - csN (wtN rd W X) c)), .retAddr 1, .int (nI c), .int 1, u15] [] (mm M f g) R
    refine go_blk 1 [] (pc' := 192) (vs' := [.ref (ad 10 0), .int (nI n), .long seed, .retAddr 1, .int (EI rd nc), .long x, .retAddr 1, .int X, .int (nI k), .long y9, u10, .long (lN (lot - csN (wtN rd W X) c)), .retAddr 1, .int (nI c), .int 1, u15]) (st' := [.int 1]) (M' := mm M f g) (ps := []) rfl trivial ?_
    refine go_if rfl (fun (z : (1 : Int32) = 0) => absurd z (show ¬ ((1 : Int32) = 0) from (by decide))) (fun _ => ?_)
    refine go_blk 10 [] (pc' := 208) (vs' := [.ref (ad 10 0), .int (nI n), .long seed, .retAddr 1, .int (EI rd nc), .long x, .retAddr 1, .int X, .int (nI k), .long y9, u10, .long (lN (lot - csN (wtN rd W X) c)), .retAddr 1, .int (nI c), .int 1, u15]) (st' := [.int 1, .int ((((EI rd nc) &&& (X ^^^ (-1))) >>> ((nI c) &&& 31)) &&& 1)]) (M' := mm M f g) (ps := []) rfl trivial ?_
    refine go_icmp rfl (fun _ => ?_) (fun (z : ¬ (¬ ((((EI rd nc) &&& (X ^^^ (-1))) >>> ((nI c) &&& 31)) &&& 1) = 1)) => absurd (show ¬ ((((EI rd nc) &&& (X ^^^ (-1))) >>> ((nI c) &&& 31)) &&& 1) = 1 from (by rw [hbit, hq]; decide)) z)
    refine go_blk 3 [] (pc' := 220) (vs' := [.ref (ad 10 0), .int (nI n), .long seed, .retAddr 1, .int (EI rd nc), .long x, .retAddr 1, .int X, .int (nI k), .long y9, u10, .long (lN (lot - csN (wtN rd W X) c)), .retAddr 1, .int (nI c), .int 1, .int 0]) (st' := [.int 0]) (M' := mm M f g) (ps := []) rfl trivial ?_
    refine go_if rfl (fun _ => ?_) (fun (z : ¬ ((0 : Int32) = 0)) => absurd (show (0 : Int32) = 0 from (by decide)) z)
    refine go_blk 4 [] (pc' := 245) (vs' := [.ref (ad 10 0), .int (nI n), .long seed, .retAddr 1, .int (EI rd nc), .long x, .retAddr 1, .int X, .int (nI k), .long y9, u10, .long (lN (lot - csN (wtN rd W X) c)), .retAddr 1, .int (nI c), .int 1, .int 0]) (st' := [.int 1]) (M' := mm M f g) (ps := []) rfl trivial ?_
    refine go_if rfl (fun _ => ?_) (fun (z : ¬ (¬ (1 : Int32) = 0)) => absurd (show ¬ (1 : Int32) = 0 from (by decide)) z)
    refine go_blk 1 [] (pc' := 253) (vs' := [.ref (ad 10 0), .int (nI n), .long seed, .retAddr 1, .int (EI rd nc), .long x, .retAddr 1, .int X, .int (nI k), .long y9, u10, .long (lN (lot - csN (wtN rd W X) c)), .retAddr 1, .int (nI c), .int 1, .int 0]) (st' := [.int 0]) (M' := mm M f g) (ps := []) rfl trivial ?_
    refine go_if rfl (fun _ => ?_) (fun (z : ¬ ((0 : Int32) = 0)) => absurd (show (0 : Int32) = 0 from (by decide)) z)
    refine go_blk 2 [] (pc' := 190) (vs' := [.ref (ad 10 0), .int (nI n), .long seed, .retAddr 1, .int (EI rd nc), .long x, .retAddr 1, .int X, .int (nI k), .long y9, u10, .long (lN (lot - csN (wtN rd W X) c)), .retAddr 1, .int ((nI c) + 1), .int 1, .int 0]) (st' := []) (M' := mm M f g) (ps := []) rfl trivial ?_
    have e1 : nI c + 1 = nI (c + 1) := nI_add c 1
    have e2 : lN (lot - csN (wtN rd W X) c) = lN (lot - csN (wtN rd W X) (c + 1)) := by rw [csN, hw0]; rfl
    rw [e1, e2]
    exact ih (by rw [csN, hw0]; exact hp) _
  ·
    have hr : rd c = true := by cases h : rd c; rw [h] at hq; cases hq; rfl
    have hw0 : wtN rd W X c = W c := by unfold wtN; rw [if_pos ⟨hr, by cases h : bt X c; rfl; rw [hr, h] at hq; cases hq⟩]
    have hWb := hB c
    by_cases hlw : lot - csN (wtN rd W X) c < W c
    ·
      show Go d 271 0 0 190 [.ref (ad 10 0), .int (nI n), .long seed, .retAddr 1, .int (EI rd nc), .long x, .retAddr 1, .int X, .int (nI k), .long y9, u10, .long (lN (lot - csN (wtN rd W X) c)), .retAddr 1, .int (nI c), .int 1, u15] [] (mm M f g) R
      refine go_blk 1 [] (pc' := 192) (vs' := [.ref (ad 10 0), .int (nI n), .long seed, .retAddr 1, .int (EI rd nc), .long x, .retAddr 1, .int X, .int (nI k), .long y9, u10, .long (lN (lot - csN (wtN rd W X) c)), .retAddr 1, .int (nI c), .int 1, u15]) (st' := [.int 1]) (M' := mm M f g) (ps := []) rfl trivial ?_
      refine go_if rfl (fun (z : (1 : Int32) = 0) => absurd z (show ¬ ((1 : Int32) = 0) from (by decide))) (fun _ => ?_)
      refine go_blk 10 [] (pc' := 208) (vs' := [.ref (ad 10 0), .int (nI n), .long seed, .retAddr 1, .int (EI rd nc), .long x, .retAddr 1, .int X, .int (nI k), .long y9, u10, .long (lN (lot - csN (wtN rd W X) c)), .retAddr 1, .int (nI c), .int 1, u15]) (st' := [.int 1, .int ((((EI rd nc) &&& (X ^^^ (-1))) >>> ((nI c) &&& 31)) &&& 1)]) (M' := mm M f g) (ps := []) rfl trivial ?_
      refine go_icmp rfl (fun (z : ¬ ((((EI rd nc) &&& (X ^^^ (-1))) >>> ((nI c) &&& 31)) &&& 1) = 1) => absurd z (show ¬ (¬ ((((EI rd nc) &&& (X ^^^ (-1))) >>> ((nI c) &&& 31)) &&& 1) = 1) from (by rw [hbit, hq]; decide))) (fun _ => ?_)
      refine go_blk 4 [] (pc' := 220) (vs' := [.ref (ad 10 0), .int (nI n), .long seed, .retAddr 1, .int (EI rd nc), .long x, .retAddr 1, .int X, .int (nI k), .long y9, u10, .long (lN (lot - csN (wtN rd W X) c)), .retAddr 1, .int (nI c), .int 1, .int 1]) (st' := [.int 1]) (M' := mm M f g) (ps := []) rfl trivial ?_
      refine go_if rfl (fun (z : (1 : Int32) = 0) => absurd z (show ¬ ((1 : Int32) = 0) from (by decide))) (fun _ => ?_)
      refine go_blk 3 [] (pc' := 228) (vs' := [.ref (ad 10 0), .int (nI n), .long seed, .retAddr 1, .int (EI rd nc), .long x, .retAddr 1, .int X, .int (nI k), .long y9, u10, .long (lN (lot - csN (wtN rd W X) c)), .retAddr 1, .int (nI c), .int 1, .int 1]) (st' := [.int (nI c), .ref (ad 10 0), .long (lN (lot - csN (wtN rd W X) c))]) (M' := mm M f g) (ps := []) rfl trivial ?_
      refine go_callV rfl rfl rfl (by omega) rfl (by decide) (by decide) hM.1 ?_
      refine s_Mo_weight (rd := rd) (W := W) (by omega) hM hk hwk (by omega) hr (hj c hi) ⟨ne_i, ?_⟩
      show Go d 271 0 0 231 [.ref (ad 10 0), .int (nI n), .long seed, .retAddr 1, .int (EI rd nc), .long x, .retAddr 1, .int X, .int (nI k), .long y9, u10, .long (lN (lot - csN (wtN rd W X) c)), .retAddr 1, .int (nI c), .int 1, .int 1] [.int (nI (W c)), .long (lN (lot - csN (wtN rd W X) c))] (mm M f g) R
      refine go_blk 2 [] (pc' := 233) (vs' := [.ref (ad 10 0), .int (nI n), .long seed, .retAddr 1, .int (EI rd nc), .long x, .retAddr 1, .int X, .int (nI k), .long y9, u10, .long (lN (lot - csN (wtN rd W X) c)), .retAddr 1, .int (nI c), .int 1, .int 1]) (st' := [.int (lg_cmp (lN (lot - csN (wtN rd W X) c)) ((nI (W c)).toInt64))]) (M' := mm M f g) (ps := []) rfl trivial ?_
      refine go_if rfl (fun _ => ?_) (fun (z : ¬ ((lg_cmp (lN (lot - csN (wtN rd W X) c)) ((nI (W c)).toInt64)) < 0)) => absurd (show (lg_cmp (lN (lot - csN (wtN rd W X) c)) ((nI (W c)).toInt64)) < 0 from (by rw [nI_l (by omega), lgN (by omega) (by omega)]; omega)) z)
      refine go_blk 3 [] (pc' := 245) (vs' := [.ref (ad 10 0), .int (nI n), .long seed, .retAddr 1, .int (EI rd nc), .long x, .retAddr 1, .int X, .int (nI k), .long y9, u10, .long (lN (lot - csN (wtN rd W X) c)), .retAddr 1, .int (nI c), .int 0, .int 1]) (st' := [.int 0]) (M' := mm M f g) (ps := []) rfl trivial ?_
      refine go_if rfl (fun (z : ¬ (0 : Int32) = 0) => absurd z (show ¬ (¬ (0 : Int32) = 0) from (by decide))) (fun _ => ?_)
      refine go_blk 2 [] (pc' := 192) (vs' := [.ref (ad 10 0), .int (nI n), .long seed, .retAddr 1, .int (EI rd nc), .long x, .retAddr 1, .int X, .int (nI k), .long y9, u10, .long (lN (lot - csN (wtN rd W X) c)), .retAddr 1, .int (nI c), .int 0, .int 1]) (st' := [.int 0]) (M' := mm M f g) (ps := []) rfl trivial ?_
      refine go_if rfl (fun _ => ?_) (fun (z : ¬ ((0 : Int32) = 0)) => absurd (show (0 : Int32) = 0 from (by decide)) z)
      exact hx c _ hi hp (by rw [csN, hw0]; omega)
    ·
      show Go d 271 0 0 190 [.ref (ad 10 0), .int (nI n), .long seed, .retAddr 1, .int (EI rd nc), .long x, .retAddr 1, .int X, .int (nI k), .long y9, u10, .long (lN (lot - csN (wtN rd W X) c)), .retAddr 1, .int (nI c), .int 1, u15] [] (mm M f g) R
      refine go_blk 1 [] (pc' := 192) (vs' := [.ref (ad 10 0), .int (nI n), .long seed, .retAddr 1, .int (EI rd nc), .long x, .retAddr 1, .int X, .int (nI k), .long y9, u10, .long (lN (lot - csN (wtN rd W X) c)), .retAddr 1, .int (nI c), .int 1, u15]) (st' := [.int 1]) (M' := mm M f g) (ps := []) rfl trivial ?_
      refine go_if rfl (fun (z : (1 : Int32) = 0) => absurd z (show ¬ ((1 : Int32) = 0) from (by decide))) (fun _ => ?_)
      refine go_blk 10 [] (pc' := 208) (vs' := [.ref (ad 10 0), .int (nI n), .long seed, .retAddr 1, .int (EI rd nc), .long x, .retAddr 1, .int X, .int (nI k), .long y9, u10, .long (lN (lot - csN (wtN rd W X) c)), .retAddr 1, .int (nI c), .int 1, u15]) (st' := [.int 1, .int ((((EI rd nc) &&& (X ^^^ (-1))) >>> ((nI c) &&& 31)) &&& 1)]) (M' := mm M f g) (ps := []) rfl trivial ?_
      refine go_icmp rfl (fun (z : ¬ ((((EI rd nc) &&& (X ^^^ (-1))) >>> ((nI c) &&& 31)) &&& 1) = 1) => absurd z (show ¬ (¬ ((((EI rd nc) &&& (X ^^^ (-1))) >>> ((nI c) &&& 31)) &&& 1) = 1) from (by rw [hbit, hq]; decide))) (fun _ => ?_)
      refine go_blk 4 [] (pc' := 220) (vs' := [.ref (ad 10 0), .int (nI n), .long seed, .retAddr 1, .int (EI rd nc), .long x, .retAddr 1, .int X, .int (nI k), .long y9, u10, .long (lN (lot - csN (wtN rd W X) c)), .retAddr 1, .int (nI c), .int 1, .int 1]) (st' := [.int 1]) (M' := mm M f g) (ps := []) rfl trivial ?_
      refine go_if rfl (fun (z : (1 : Int32) = 0) => absurd z (show ¬ ((1 : Int32) = 0) from (by decide))) (fun _ => ?_)
      refine go_blk 3 [] (pc' := 228) (vs' := [.ref (ad 10 0), .int (nI n), .long seed, .retAddr 1, .int (EI rd nc), .long x, .retAddr 1, .int X, .int (nI k), .long y9, u10, .long (lN (lot - csN (wtN rd W X) c)), .retAddr 1, .int (nI c), .int 1, .int 1]) (st' := [.int (nI c), .ref (ad 10 0), .long (lN (lot - csN (wtN rd W X) c))]) (M' := mm M f g) (ps := []) rfl trivial ?_
      refine go_callV rfl rfl rfl (by omega) rfl (by decide) (by decide) hM.1 ?_
      refine s_Mo_weight (rd := rd) (W := W) (by omega) hM hk hwk (by omega) hr (hj c hi) ⟨ne_i, ?_⟩
      show Go d 271 0 0 231 [.ref (ad 10 0), .int (nI n), .long seed, .retAddr 1, .int (EI rd nc), .long x, .retAddr 1, .int X, .int (nI k), .long y9, u10, .long (lN (lot - csN (wtN rd W X) c)), .retAddr 1, .int (nI c), .int 1, .int 1] [.int (nI (W c)), .long (lN (lot - csN (wtN rd W X) c))] (mm M f g) R
      refine go_blk 2 [] (pc' := 233) (vs' := [.ref (ad 10 0), .int (nI n), .long seed, .retAddr 1, .int (EI rd nc), .long x, .retAddr 1, .int X, .int (nI k), .long y9, u10, .long (lN (lot - csN (wtN rd W X) c)), .retAddr 1, .int (nI c), .int 1, .int 1]) (st' := [.int (lg_cmp (lN (lot - csN (wtN rd W X) c)) ((nI (W c)).toInt64))]) (M' := mm M f g) (ps := []) rfl trivial ?_
      refine go_if rfl (fun (z : (lg_cmp (lN (lot - csN (wtN rd W X) c)) ((nI (W c)).toInt64)) < 0) => absurd z (show ¬ ((lg_cmp (lN (lot - csN (wtN rd W X) c)) ((nI (W c)).toInt64)) < 0) from (by rw [nI_l (by omega), lgN (by omega) (by omega)]; omega))) (fun _ => ?_)
      refine go_blk 4 [] (pc' := 245) (vs' := [.ref (ad 10 0), .int (nI n), .long seed, .retAddr 1, .int (EI rd nc), .long x, .retAddr 1, .int X, .int (nI k), .long y9, u10, .long (lN (lot - csN (wtN rd W X) c)), .retAddr 1, .int (nI c), .int 1, .int 1]) (st' := [.int 1]) (M' := mm M f g) (ps := []) rfl trivial ?_
      refine go_if rfl (fun _ => ?_) (fun (z : ¬ (¬ (1 : Int32) = 0)) => absurd (show ¬ (1 : Int32) = 0 from (by decide)) z)
      refine go_blk 1 [] (pc' := 253) (vs' := [.ref (ad 10 0), .int (nI n), .long seed, .retAddr 1, .int (EI rd nc), .long x, .retAddr 1, .int X, .int (nI k), .long y9, u10, .long (lN (lot - csN (wtN rd W X) c)), .retAddr 1, .int (nI c), .int 1, .int 1]) (st' := [.int 1]) (M' := mm M f g) (ps := []) rfl trivial ?_
      refine go_if rfl (fun (z : (1 : Int32) = 0) => absurd z (show ¬ ((1 : Int32) = 0) from (by decide))) (fun _ => ?_)
      refine go_blk 3 [] (pc' := 261) (vs' := [.ref (ad 10 0), .int (nI n), .long seed, .retAddr 1, .int (EI rd nc), .long x, .retAddr 1, .int X, .int (nI k), .long y9, u10, .long (lN (lot - csN (wtN rd W X) c)), .retAddr 1, .int (nI c), .int 1, .int 1]) (st' := [.int (nI c), .ref (ad 10 0), .long (lN (lot - csN (wtN rd W X) c))]) (M' := mm M f g) (ps := []) rfl trivial ?_
      refine go_callV rfl rfl rfl (by omega) rfl (by decide) (by decide) hM.1 ?_
      refine s_Mo_weight (rd := rd) (W := W) (by omega) hM hk hwk (by omega) hr (hj c hi) ⟨ne_i, ?_⟩
      show Go d 271 0 0 264 [.ref (ad 10 0), .int (nI n), .long seed, .retAddr 1, .int (EI rd nc), .long x, .retAddr 1, .int X, .int (nI k), .long y9, u10, .long (lN (lot - csN (wtN rd W X) c)), .retAddr 1, .int (nI c), .int 1, .int 1] [.int (nI (W c)), .long (lN (lot - csN (wtN rd W X) c))] (mm M f g) R
      refine go_blk 5 [] (pc' := 190) (vs' := [.ref (ad 10 0), .int (nI n), .long seed, .retAddr 1, .int (EI rd nc), .long x, .retAddr 1, .int X, .int (nI k), .long y9, u10, .long ((lN (lot - csN (wtN rd W X) c)) - ((nI (W c)).toInt64)), .retAddr 1, .int ((nI c) + 1), .int 1, .int 1]) (st' := []) (M' := mm M f g) (ps := []) rfl trivial ?_
      have e1 : nI c + 1 = nI (c + 1) := nI_add c 1
      have e2 : lN (lot - csN (wtN rd W X) c) - (nI (W c)).toInt64 = lN (lot - csN (wtN rd W X) (c + 1)) := by rw [nI_l (by omega), lN_sub (by omega), csN, hw0]; congr 1; omega
      rw [e1, e2]
      exact ih (by rw [csN, hw0]; omega) _

set_option maxRecDepth 100000 in
theorem lp_Mo_drawD {d : Nat} {M : Mem} {f : Nat → Nat → Int32} {g : Nat → Nat → Int64} {ad : Nat → Nat → Nat} {R : Option Value → Mem → Prop} {wk nc : Nat} {rd : Nat → Bool} {W : Nat → Nat} {n : Nat} {seed : Int64} (hd : 2 ≤ d) (hM : Mx M ad) (hk : f (ad 10 0) 19 = nI wk) (hwk : wk < 52) (nc1 : f (ad 10 0) 17 = nI nc) (nc3 : nc ≤ 7) (hj : ∀ c, c < nc → MJ f ad wk rd W c) (hW : ∀ c, rd c = true → 0 < W c) (hB : ∀ c, W c ≤ 200) (hnr : n ≤ ctB rd nc) (hR : R (some (.int ((drN rd W nc n (0, seed)).1))) (mm M f g)) : ∀ k, k ≤ n → ∀ u9 u10 u11 u12 u13 u14 u15 : Value, Go d 271 0 0 107 [.ref (ad 10 0), .int (nI n), .long seed, .retAddr 1, .int (EI rd nc), .long ((drN rd W nc k (0, seed)).2), .retAddr 1, .int ((drN rd W nc k (0, seed)).1), .int (nI k), u9, u10, u11, u12, u13, u14, u15] [] (mm M f g) R := by
  have hcl := ctB_le rd nc
  have hB2 : ∀ X c, wtN rd W X c ≤ 200 := fun X c => by unfold wtN; have := hB c; split <;> omega
  refine up_ind (P := fun k => ∀ u9 u10 u11 u12 u13 u14 u15 : Value, Go d 271 0 0 107 [.ref (ad 10 0), .int (nI n), .long seed, .retAddr 1, .int (EI rd nc), .long ((drN rd W nc k (0, seed)).2), .retAddr 1, .int ((drN rd W nc k (0, seed)).1), .int (nI k), u9, u10, u11, u12, u13, u14, u15] [] (mm M f g) R) n ?_ (fun k hi ih => ?_)
  ·
    intro u9 u10 u11 u12 u13 u14 u15
    show Go d 271 0 0 107 [.ref (ad 10 0), .int (nI n), .long seed, .retAddr 1, .int (EI rd nc), .long ((drN rd W nc n (0, seed)).2), .retAddr 1, .int ((drN rd W nc n (0, seed)).1), .int (nI n), u9, u10, u11, u12, u13, u14, u15] [] (mm M f g) R
    refine go_blk 2 [] (pc' := 110) (vs' := [.ref (ad 10 0), .int (nI n), .long seed, .retAddr 1, .int (EI rd nc), .long ((drN rd W nc n (0, seed)).2), .retAddr 1, .int ((drN rd W nc n (0, seed)).1), .int (nI n), u9, u10, u11, u12, u13, u14, u15]) (st' := [.int (nI n), .int (nI n)]) (M' := mm M f g) (ps := []) rfl trivial ?_
    refine go_icmp rfl (fun _ => ?_) (fun (z : ¬ (nI n ≤ (nI n))) => absurd (show nI n ≤ (nI n) from Int32.le_refl _) z)
    refine go_blk 1 [] (pc' := 291) (vs' := [.ref (ad 10 0), .int (nI n), .long seed, .retAddr 1, .int (EI rd nc), .long ((drN rd W nc n (0, seed)).2), .retAddr 1, .int ((drN rd W nc n (0, seed)).1), .int (nI n), u9, u10, u11, u12, u13, u14, u15]) (st' := [.int ((drN rd W nc n (0, seed)).1)]) (M' := mm M f g) (ps := []) rfl trivial ?_
    refine go_iret rfl rfl ?_
    exact hR
  ·
    intro u9 u10 u11 u12 u13 u14 u15
    have h0 := (drN_ok (x := seed) nc3 hW hnr k (by omega)).2 hi
    obtain ⟨X, hX⟩ : ∃ X, (drN rd W nc k (0, seed)).1 = X := ⟨_, rfl⟩
    obtain ⟨x0, hx0⟩ : ∃ x0, (drN rd W nc k (0, seed)).2 = x0 := ⟨_, rfl⟩
    rw [hX] at h0
    rw [hX, hx0]
    show Go d 271 0 0 107 [.ref (ad 10 0), .int (nI n), .long seed, .retAddr 1, .int (EI rd nc), .long x0, .retAddr 1, .int X, .int (nI k), u9, u10, u11, u12, u13, u14, u15] [] (mm M f g) R
    refine go_blk 2 [] (pc' := 110) (vs' := [.ref (ad 10 0), .int (nI n), .long seed, .retAddr 1, .int (EI rd nc), .long x0, .retAddr 1, .int X, .int (nI k), u9, u10, u11, u12, u13, u14, u15]) (st' := [.int (nI n), .int (nI k)]) (M' := mm M f g) (ps := []) rfl trivial ?_
    refine go_icmp rfl (fun (z : nI n ≤ (nI k)) => absurd z (show ¬ (nI n ≤ (nI k)) from (Int32.not_le.mpr ((nI_lts (a := k) (b := n) (by omega) (by omega)).mpr hi)))) (fun _ => ?_)
    refine go_blk 10 [] (pc' := 131) (vs' := [.ref (ad 10 0), .int (nI n), .long seed, .retAddr 1, .int (EI rd nc), .long ((x0 * 6364136223846793005) + 1442695040888963407), .retAddr 1, .int X, .int (nI k), .long 0, .retAddr 1, .int 0, u12, u13, u14, u15]) (st' := []) (M' := mm M f g) (ps := []) rfl trivial ?_
    refine lp_Mo_drawB (n := n) (k := k) (seed := seed) (x := (x0 * 6364136223846793005 + 1442695040888963407)) (X := X) hd hM hk hwk nc1 nc3 hj hB ?_ 0 (Nat.zero_le _)
    show Go d 271 0 0 174 [.ref (ad 10 0), .int (nI n), .long seed, .retAddr 1, .int (EI rd nc), .long ((x0 * 6364136223846793005) + 1442695040888963407), .retAddr 1, .int X, .int (nI k), .long (lN (csN (wtN rd W X) nc)), .retAddr 1, .int (nI nc), u12, u13, u14, u15] [] (mm M f g) R
    refine go_blk 10 [] (pc' := 190) (vs' := [.ref (ad 10 0), .int (nI n), .long seed, .retAddr 1, .int (EI rd nc), .long ((x0 * 6364136223846793005) + 1442695040888963407), .retAddr 1, .int X, .int (nI k), .long (lN (csN (wtN rd W X) nc)), .retAddr 1, .long (((((x0 * 6364136223846793005) + 1442695040888963407).toUInt64 >>> ((33 : Int32).toInt64.toUInt64 &&& Int64.toUInt64 63)).toInt64) - ((((x0 * 6364136223846793005) + 1442695040888963407).toUInt64 >>> ((33 : Int32).toInt64.toUInt64 &&& Int64.toUInt64 63)).toInt64) / (lN (csN (wtN rd W X) nc)) * (lN (csN (wtN rd W X) nc))), .retAddr 1, .int 0, .int 1, u15]) (st' := []) (M' := mm M f g) (ps := [¬ (lN (csN (wtN rd W X) nc)) = 0]) rfl ⟨(fun z => by have hcb := csN_b (hB2 X) nc; rw [show (0 : Int64) = lN 0 from rfl, pk_lEQ (by omega) (by omega)] at z; omega), trivial⟩ ?_
    have hcb := csN_b (hB2 X) nc
    rw [lotN_is, pk_lRem (by have := lotN_lt (x0 * 6364136223846793005 + 1442695040888963407); omega) h0 (by omega)]
    obtain ⟨lot, hlot⟩ : ∃ lot, lotN (x0 * 6364136223846793005 + 1442695040888963407) % csN (wtN rd W X) nc = lot := ⟨_, rfl⟩
    rw [hlot]
    have hlt : lot < csN (wtN rd W X) nc := by rw [← hlot]; exact Nat.mod_lt _ h0
    refine lp_Mo_drawC (n := n) (k := k) (seed := seed) (x := (x0 * 6364136223846793005 + 1442695040888963407)) (X := X) (lot := lot) hd hM hk hwk nc1 nc3 hj hB hlt (fun i j hic hi1 hi2 => ?_) 0 (Nat.zero_le _) (Nat.zero_le _) _
    show Go d 271 0 0 274 [.ref (ad 10 0), .int (nI n), .long seed, .retAddr 1, .int (EI rd nc), .long ((x0 * 6364136223846793005) + 1442695040888963407), .retAddr 1, .int X, .int (nI k), .long (lN (csN (wtN rd W X) nc)), .retAddr 1, .long (lN j), .retAddr 1, .int (nI i), .int 0, .int 1] [] (mm M f g) R
    refine go_blk 8 [] (pc' := 107) (vs' := [.ref (ad 10 0), .int (nI n), .long seed, .retAddr 1, .int (EI rd nc), .long ((x0 * 6364136223846793005) + 1442695040888963407), .retAddr 1, .int (X ||| (1 <<< ((nI i) &&& 31))), .int ((nI k) + 1), .long (lN (csN (wtN rd W X) nc)), .retAddr 1, .long (lN j), .retAddr 1, .int (nI i), .int 0, .int 1]) (st' := []) (M' := mm M f g) (ps := []) rfl trivial ?_
    have e1 : nI k + 1 = nI (k + 1) := nI_add k 1
    have e2 := pkN_is hic hi1 hi2
    have e3 : X ||| ((1 : Int32) <<< (nI i &&& 31)) = (drN rd W nc (k + 1) (0, seed)).1 := by rw [drN]; simp only [hX, hx0]; rw [hlot, e2]
    have e4 : (x0 * 6364136223846793005 + 1442695040888963407) = (drN rd W nc (k + 1) (0, seed)).2 := by rw [drN]; simp only [hx0]
    rw [e1, e3, e4]
    exact ih _ _ _ _ _ _ _

set_option maxRecDepth 100000 in
theorem s_Mo_draw {d : Nat} {M : Mem} {f : Nat → Nat → Int32} {g : Nat → Nat → Int64} {ad : Nat → Nat → Nat} {R : Option Value → Mem → Prop} {wk nc : Nat} {rd : Nat → Bool} {W : Nat → Nat} {a1 : Int32} {seed : Int64} (hd : 2 ≤ d) (hM : Mx M ad) (hk : (up2 f (ad 10 0) 0 0) (ad 10 0) 19 = nI wk) (hwk : wk < 52) (nc1 : (up2 f (ad 10 0) 0 0) (ad 10 0) 17 = nI nc) (nc3 : nc ≤ 7) (hj : ∀ c, c < nc → MJ (up2 f (ad 10 0) 0 0) ad wk rd W c) (hop : (up2 f (ad 10 0) 0 0) (ad 10 0) 21 = 1) (hW : ∀ c, rd c = true → 0 < W c) (hB : ∀ c, W c ≤ 200) (h1 : ∀ n, 1 ≤ n → n ≤ ctB rd nc → a1 = nI n → R (some (.int ((drN rd W nc n (0, seed)).1))) (mm M (up2 f (ad 10 0) 0 0) g)) (h0 : ¬ (∃ n, 1 ≤ n ∧ n ≤ ctB rd nc ∧ a1 = nI n) → R (some (.int (-1))) (mm M (up2 f (ad 10 0) 0 0) g)) : Call d 271 [.ref (ad 10 0), .int a1, .long seed] (mm M f g) R := by
  have hcl := ctB_le rd nc
  by_cases hA : ∃ n, 1 ≤ n ∧ n ≤ ctB rd nc ∧ a1 = nI n
  · obtain ⟨n, n1, n2, rfl⟩ := hA
    show Go d 271 0 0 0 [.ref (ad 10 0), .int (nI n), .long seed, .retAddr 1, .retAddr 0, .retAddr 0, .retAddr 0, .retAddr 0, .retAddr 0, .retAddr 0, .retAddr 0, .retAddr 0, .retAddr 0, .retAddr 0, .retAddr 0, .retAddr 0] [] (mm M f g) R
    refine go_blk 7 [] (pc' := 11) (vs' := [.ref (ad 10 0), .int (nI n), .long seed, .retAddr 1, .int 0, .int 0, .retAddr 0, .retAddr 0, .retAddr 0, .retAddr 0, .retAddr 0, .retAddr 0, .retAddr 0, .retAddr 0, .retAddr 0, .retAddr 0]) (st' := []) (M' := mm M (up2 f (ad 10 0) 0 0) g) (ps := [ob (mm M f g) (ad 10 0) 12]) rfl ⟨hM.1, trivial⟩ ?_
    refine lp_Mo_drawA (f := up2 f (ad 10 0) 0 0) (a1 := nI n) (seed := seed) hd hM hk hwk nc1 nc3 hj hop ?_ 0 (Nat.zero_le _)
    show Go d 271 0 0 75 [.ref (ad 10 0), .int (nI n), .long seed, .retAddr 1, .int (EI rd nc), .int (nI nc), .retAddr 0, .retAddr 0, .retAddr 0, .retAddr 0, .retAddr 0, .retAddr 0, .retAddr 0, .retAddr 0, .retAddr 0, .retAddr 0] [] (mm M (up2 f (ad 10 0) 0 0) g) R
    refine go_blk 2 [some (.int 1)] (pc' := 79) (vs' := [.ref (ad 10 0), .int (nI n), .long seed, .retAddr 1, .int (EI rd nc), .int (nI nc), .retAddr 0, .retAddr 0, .retAddr 0, .retAddr 0, .retAddr 0, .retAddr 0, .retAddr 0, .retAddr 0, .retAddr 0, .retAddr 0]) (st' := [.int 1]) (M' := mm M (up2 f (ad 10 0) 0 0) g) (ps := [ob (mm M (up2 f (ad 10 0) 0 0) g) (ad 10 0) 12, (Value.int ((up2 f (ad 10 0) 0 0) (ad 10 0) 21)) = .int 1]) rfl ⟨hM.1, congrArg Value.int hop, trivial⟩ ?_
    refine go_if rfl (fun (z : (1 : Int32) = 0) => absurd z (show ¬ ((1 : Int32) = 0) from (by decide))) (fun _ => ?_)
    refine go_blk 2 [] (pc' := 84) (vs' := [.ref (ad 10 0), .int (nI n), .long seed, .retAddr 1, .int (EI rd nc), .int (nI nc), .retAddr 0, .retAddr 0, .retAddr 0, .retAddr 0, .retAddr 0, .retAddr 0, .retAddr 0, .retAddr 0, .retAddr 0, .retAddr 0]) (st' := [.int 1, .int (nI n)]) (M' := mm M (up2 f (ad 10 0) 0 0) g) (ps := []) rfl trivial ?_
    refine go_icmp rfl (fun (z : (nI n) < 1) => absurd z (show ¬ ((nI n) < 1) from (Int32.not_lt.mpr ((nI_les (a := 1) (b := n) (by omega) (by omega)).mpr n1)))) (fun _ => ?_)
    refine go_blk 2 [] (pc' := 90) (vs' := [.ref (ad 10 0), .int (nI n), .long seed, .retAddr 1, .int (EI rd nc), .int (nI nc), .retAddr 0, .retAddr 0, .retAddr 0, .retAddr 0, .retAddr 0, .retAddr 0, .retAddr 0, .retAddr 0, .retAddr 0, .retAddr 0]) (st' := [.int (EI rd nc), .int (nI n)]) (M' := mm M (up2 f (ad 10 0) 0 0) g) (ps := []) rfl trivial ?_
    refine go_callS rfl (by decide) rfl rfl (by omega) rfl (by decide) (by decide) ?_
    refine s_JI_bitCount (Nat.zero_le _) ⟨ne_i, ?_⟩
    show Go d 271 0 0 93 [.ref (ad 10 0), .int (nI n), .long seed, .retAddr 1, .int (EI rd nc), .int (nI nc), .retAddr 0, .retAddr 0, .retAddr 0, .retAddr 0, .retAddr 0, .retAddr 0, .retAddr 0, .retAddr 0, .retAddr 0, .retAddr 0] [.int (bcV (EI rd nc)), .int (nI n)] (mm M (up2 f (ad 10 0) 0 0) g) R
    rw [bc_is rd nc3]
    show Go d 271 0 0 93 [.ref (ad 10 0), .int (nI n), .long seed, .retAddr 1, .int (EI rd nc), .int (nI nc), .retAddr 0, .retAddr 0, .retAddr 0, .retAddr 0, .retAddr 0, .retAddr 0, .retAddr 0, .retAddr 0, .retAddr 0, .retAddr 0] [.int (nI (ctB rd nc)), .int (nI n)] (mm M (up2 f (ad 10 0) 0 0) g) R
    refine go_icmp rfl (fun _ => ?_) (fun (z : ¬ ((nI n) ≤ nI (ctB rd nc))) => absurd (show (nI n) ≤ nI (ctB rd nc) from ((nI_les (a := n) (b := ctB rd nc) (by omega) (by omega)).mpr n2)) z)
    refine go_blk 6 [] (pc' := 107) (vs' := [.ref (ad 10 0), .int (nI n), .long seed, .retAddr 1, .int (EI rd nc), .long seed, .retAddr 1, .int 0, .int 0, .retAddr 0, .retAddr 0, .retAddr 0, .retAddr 0, .retAddr 0, .retAddr 0, .retAddr 0]) (st' := []) (M' := mm M (up2 f (ad 10 0) 0 0) g) (ps := []) rfl trivial ?_
    exact lp_Mo_drawD (f := up2 f (ad 10 0) 0 0) (n := n) (seed := seed) hd hM hk hwk nc1 nc3 hj hW hB n2 (h1 n n1 n2 rfl) 0 (Nat.zero_le _) _ _ _ _ _ _ _
  ·
    show Go d 271 0 0 0 [.ref (ad 10 0), .int a1, .long seed, .retAddr 1, .retAddr 0, .retAddr 0, .retAddr 0, .retAddr 0, .retAddr 0, .retAddr 0, .retAddr 0, .retAddr 0, .retAddr 0, .retAddr 0, .retAddr 0, .retAddr 0] [] (mm M f g) R
    refine go_blk 7 [] (pc' := 11) (vs' := [.ref (ad 10 0), .int a1, .long seed, .retAddr 1, .int 0, .int 0, .retAddr 0, .retAddr 0, .retAddr 0, .retAddr 0, .retAddr 0, .retAddr 0, .retAddr 0, .retAddr 0, .retAddr 0, .retAddr 0]) (st' := []) (M' := mm M (up2 f (ad 10 0) 0 0) g) (ps := [ob (mm M f g) (ad 10 0) 12]) rfl ⟨hM.1, trivial⟩ ?_
    refine lp_Mo_drawA (f := up2 f (ad 10 0) 0 0) (a1 := a1) (seed := seed) hd hM hk hwk nc1 nc3 hj hop ?_ 0 (Nat.zero_le _)
    show Go d 271 0 0 75 [.ref (ad 10 0), .int a1, .long seed, .retAddr 1, .int (EI rd nc), .int (nI nc), .retAddr 0, .retAddr 0, .retAddr 0, .retAddr 0, .retAddr 0, .retAddr 0, .retAddr 0, .retAddr 0, .retAddr 0, .retAddr 0] [] (mm M (up2 f (ad 10 0) 0 0) g) R
    refine go_blk 2 [some (.int 1)] (pc' := 79) (vs' := [.ref (ad 10 0), .int a1, .long seed, .retAddr 1, .int (EI rd nc), .int (nI nc), .retAddr 0, .retAddr 0, .retAddr 0, .retAddr 0, .retAddr 0, .retAddr 0, .retAddr 0, .retAddr 0, .retAddr 0, .retAddr 0]) (st' := [.int 1]) (M' := mm M (up2 f (ad 10 0) 0 0) g) (ps := [ob (mm M (up2 f (ad 10 0) 0 0) g) (ad 10 0) 12, (Value.int ((up2 f (ad 10 0) 0 0) (ad 10 0) 21)) = .int 1]) rfl ⟨hM.1, congrArg Value.int hop, trivial⟩ ?_
    refine go_if rfl (fun (z : (1 : Int32) = 0) => absurd z (show ¬ ((1 : Int32) = 0) from (by decide))) (fun _ => ?_)
    refine go_blk 2 [] (pc' := 84) (vs' := [.ref (ad 10 0), .int a1, .long seed, .retAddr 1, .int (EI rd nc), .int (nI nc), .retAddr 0, .retAddr 0, .retAddr 0, .retAddr 0, .retAddr 0, .retAddr 0, .retAddr 0, .retAddr 0, .retAddr 0, .retAddr 0]) (st' := [.int 1, .int a1]) (M' := mm M (up2 f (ad 10 0) 0 0) g) (ps := []) rfl trivial ?_
    refine go_icmp rfl (fun (c1 : a1 < 1) => ?_) (fun (c1 : ¬ (a1 < 1)) => ?_)
    · -- a1 < 1
      refine go_blk 1 [] (pc' := 97) (vs' := [.ref (ad 10 0), .int a1, .long seed, .retAddr 1, .int (EI rd nc), .int (nI nc), .retAddr 0, .retAddr 0, .retAddr 0, .retAddr 0, .retAddr 0, .retAddr 0, .retAddr 0, .retAddr 0, .retAddr 0, .retAddr 0]) (st' := [.int (-1)]) (M' := mm M (up2 f (ad 10 0) 0 0) g) (ps := []) rfl trivial ?_
      refine go_iret rfl rfl ?_
      exact h0 hA
    · -- ¬ (a1 < 1)
      refine go_blk 2 [] (pc' := 90) (vs' := [.ref (ad 10 0), .int a1, .long seed, .retAddr 1, .int (EI rd nc), .int (nI nc), .retAddr 0, .retAddr 0, .retAddr 0, .retAddr 0, .retAddr 0, .retAddr 0, .retAddr 0, .retAddr 0, .retAddr 0, .retAddr 0]) (st' := [.int (EI rd nc), .int a1]) (M' := mm M (up2 f (ad 10 0) 0 0) g) (ps := []) rfl trivial ?_
      refine go_callS rfl (by decide) rfl rfl (by omega) rfl (by decide) (by decide) ?_
      refine s_JI_bitCount (Nat.zero_le _) ⟨ne_i, ?_⟩
      show Go d 271 0 0 93 [.ref (ad 10 0), .int a1, .long seed, .retAddr 1, .int (EI rd nc), .int (nI nc), .retAddr 0, .retAddr 0, .retAddr 0, .retAddr 0, .retAddr 0, .retAddr 0, .retAddr 0, .retAddr 0, .retAddr 0, .retAddr 0] [.int (bcV (EI rd nc)), .int a1] (mm M (up2 f (ad 10 0) 0 0) g) R
      rw [bc_is rd nc3]
      show Go d 271 0 0 93 [.ref (ad 10 0), .int a1, .long seed, .retAddr 1, .int (EI rd nc), .int (nI nc), .retAddr 0, .retAddr 0, .retAddr 0, .retAddr 0, .retAddr 0, .retAddr 0, .retAddr 0, .retAddr 0, .retAddr 0, .retAddr 0] [.int (nI (ctB rd nc)), .int a1] (mm M (up2 f (ad 10 0) 0 0) g) R
      refine go_icmp rfl (fun (c2 : a1 ≤ nI (ctB rd nc)) => ?_) (fun (c2 : ¬ (a1 ≤ nI (ctB rd nc))) => ?_)
      · -- a1 ≤ nI (ctB rd nc)
        refine go_blk 6 [] (pc' := 107) (vs' := [.ref (ad 10 0), .int a1, .long seed, .retAddr 1, .int (EI rd nc), .long seed, .retAddr 1, .int 0, .int 0, .retAddr 0, .retAddr 0, .retAddr 0, .retAddr 0, .retAddr 0, .retAddr 0, .retAddr 0]) (st' := []) (M' := mm M (up2 f (ad 10 0) 0 0) g) (ps := []) rfl trivial ?_
        obtain ⟨k, k1, k2, k3⟩ := rg_of (lo := 1) (hi := ctB rd nc) (x := a1) (Int32.not_lt.mp c1) c2 (by omega) (by decide)
        exact absurd ⟨k, k1, k2, k3⟩ hA
      · -- ¬ (a1 ≤ nI (ctB rd nc))
        refine go_blk 1 [] (pc' := 97) (vs' := [.ref (ad 10 0), .int a1, .long seed, .retAddr 1, .int (EI rd nc), .int (nI nc), .retAddr 0, .retAddr 0, .retAddr 0, .retAddr 0, .retAddr 0, .retAddr 0, .retAddr 0, .retAddr 0, .retAddr 0, .retAddr 0]) (st' := [.int (-1)]) (M' := mm M (up2 f (ad 10 0) 0 0) g) (ps := []) rfl trivial ?_
        refine go_iret rfl rfl ?_
        exact h0 hA

