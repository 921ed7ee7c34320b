/-! tick: the class's teams -/
def RC (ad : Nat → Nat → Nat) (jb : Nat → Nat) (nt nc wk : Nat) (F f : Nat → Nat → Int32) (D : DS) : Prop :=
  (∀ t, t < nt → f (ad 3 t) 0 = nI t ∧ f (ad 3 t) 1 = D 28 t ∧ f (ad 3 t) 4 = D 51 t ∧ f (ad 3 t) 5 = D 47 t ∧ f (ad 3 t) 6 = D 48 t ∧ f (ad 3 t) 7 = D 44 t ∧ f (ad 3 t) 8 = D 45 t ∧ f (ad 3 t) 9 = D 46 t ∧ f (ad 3 t) 10 = D 49 t) ∧
  (∀ t i n, t < nt → D 51 t = nI n → n ≤ 7 → i < n → f (ad 5 t) i = D 50 (7 * t + i)) ∧
  (∀ c, c < nc → D 32 (7 * wk + c) = 1 → f (ad 6 (jb c)) 1 = nI c ∧ f (ad 6 (jb c)) 3 = D 34 (7 * wk + c) ∧ f (ad 6 (jb c)) 4 = D 36 (7 * wk + c) ∧ f (ad 6 (jb c)) 5 = D 33 (7 * wk + c) ∧ f (ad 6 (jb c)) 6 = D 35 (7 * wk + c) ∧ f (ad 6 (jb c)) 7 = D 37 (7 * wk + c) ∧ f (ad 6 (jb c)) 8 = D 38 (7 * wk + c) ∧ f (ad 6 (jb c)) 9 = D 39 (7 * wk + c) ∧ f (ad 6 (jb c)) 10 = D 40 (7 * wk + c)) ∧
  ∀ x k, (∀ t, t < nt → ¬ (x = ad 3 t ∧ 4 ≤ k) ∧ ¬ x = ad 5 t) → (∀ c, c < nc → D 32 (7 * wk + c) = 1 → ¬ (x = ad 6 (jb c) ∧ 7 ≤ k ∧ k ≤ 10)) → f x k = F x k
/-- the open day's jobs: cottage c's is that of booking jb c -/
def EC (M : Mem) (ad : Nat → Nat → Nat) (jb : Nat → Nat) (nt nc wk : Nat) (F : Nat → Nat → Int32) (D : DS) (rs : Int32) : Prop :=
  (Inj ad ∧ Fx M ad ∧ Ts M ad nt ∧ nt ≤ 3 ∧ nc ≤ 7 ∧ wk < 52) ∧ (∀ c, c < nc → D 32 (7 * wk + c) = 1 → mR M (ad 0 5) c = some (ad 6 (jb c)) ∧ ob M (ad 6 (jb c)) 3) ∧ (∀ c c', c < nc → c' < nc → D 32 (7 * wk + c) = 1 → D 32 (7 * wk + c') = 1 → jb c = jb c' → c = c') ∧ (∀ a b, a < 8 → b < 8 → F (ad 0 31) (8 * a + b) = wyD D a b) ∧ F (ad 0 16) 1 = rs
theorem EC.congr {M : Mem} {ad : Nat → Nat → Nat} {jb : Nat → Nat} {nt nc wk : Nat} {F : Nat → Nat → Int32} {D D' : DS} {rs : Int32} (h : EC M ad jb nt nc wk F D rs) (k : DK D D' nt nc wk) : EC M ad jb nt nc wk F D' rs := by
  have e32 : ∀ j, D' 32 j = D 32 j := fun j => k.1 32 j (by omega) (by omega) (by omega)
  have e29 : ∀ a b, wyD D' a b = wyD D a b := fun a b => by unfold wyD; rw [k.1 29 _ (by omega) (by omega) (by omega)]
  obtain ⟨h1, h2, h3, h4, h5⟩ := h
  exact ⟨h1, fun c hc z => h2 c hc (by rw [e32] at z; exact z), fun c c' hc hc' z z' => h3 c c' hc hc' (by rw [e32] at z; exact z) (by rw [e32] at z'; exact z'), fun a b ha hb => by rw [e29]; exact h4 a b ha hb, h5⟩
set_option maxHeartbeats 1000000 in
theorem RC.updT {ad : Nat → Nat → Nat} {jb : Nat → Nat} {nt nc wk : Nat} {F f : Nat → Nat → Int32} {D : DS} {t k i : Nat} {v : Int32} (hi : Inj ad) (h : RC ad jb nt nc wk F f D) (ht : t < nt) (hk : (k = 5 ∧ i = 47) ∨ (k = 6 ∧ i = 48) ∨ (k = 7 ∧ i = 44) ∨ (k = 8 ∧ i = 45) ∨ (k = 9 ∧ i = 46) ∨ (k = 10 ∧ i = 49)) : RC ad jb nt nc wk F (up2 f (ad 3 t) k v) (up2 D i t v) := by
  obtain ⟨h1, h2, h3, h4⟩ := h
  have n3 : ∀ t', ¬ t' = t → ∀ j, up2 f (ad 3 t) k v (ad 3 t') j = f (ad 3 t') j := fun t' z j => up2_n _ _ (fun y => z (hi _ _ _ _ y.1).2)
  have nx : ∀ u x j, ¬ u = 3 → up2 f (ad 3 t) k v (ad u x) j = f (ad u x) j := fun u x j z => up2_n _ _ (fun y => z (hi _ _ _ _ y.1).1)
  have nd : ∀ j x, ¬ j = i → up2 D i t v j x = D j x := fun j x z => up2_n _ _ (fun y => z y.1)
  have nt' : ∀ t', ¬ t' = t → ∀ j, up2 D i t v j t' = D j t' := fun t' z j => up2_n _ _ (fun y => z y.2)
  refine ⟨fun t' ht' => ?_, fun t' j n ht' z1 z2 z3 => ?_, fun c hc z => ?_, fun x j z1 z2 => ?_⟩
  · by_cases c : t' = t
    · subst c
      obtain ⟨a0, a1, a4, a5, a6, a7, a8, a9, a10⟩ := h1 t' ht
      rcases hk with ⟨rfl, rfl⟩ | ⟨rfl, rfl⟩ | ⟨rfl, rfl⟩ | ⟨rfl, rfl⟩ | ⟨rfl, rfl⟩ | ⟨rfl, rfl⟩ <;> simp [up2, a0, a1, a4, a5, a6, a7, a8, a9, a10]
    · rw [n3 t' c, n3 t' c, n3 t' c, n3 t' c, n3 t' c, n3 t' c, n3 t' c, n3 t' c, n3 t' c, nt' t' c, nt' t' c, nt' t' c, nt' t' c, nt' t' c, nt' t' c, nt' t' c, nt' t' c]
      exact h1 t' ht'
  · rw [nd 51 t' (by omega)] at z1
    rw [nx 5 t' j (by decide), nd 50 _ (by omega)]
    exact h2 t' j n ht' z1 z2 z3
  · rw [nd 32 _ (by omega)] at z
    rw [nx 6 _ 1 (by decide), nx 6 _ 3 (by decide), nx 6 _ 4 (by decide), nx 6 _ 5 (by decide), nx 6 _ 6 (by decide), nx 6 _ 7 (by decide), nx 6 _ 8 (by decide), nx 6 _ 9 (by decide), nx 6 _ 10 (by decide), nd 34 _ (by omega), nd 36 _ (by omega), nd 33 _ (by omega), nd 35 _ (by omega), nd 37 _ (by omega), nd 38 _ (by omega), nd 39 _ (by omega), nd 40 _ (by omega)]
    exact h3 c hc z
  · rw [up2_n _ _ (fun y => (z1 t ht).1 ⟨y.1, by omega⟩)]
    exact h4 x j z1 (fun c hc y => z2 c hc (by rw [nd 32 _ (by omega)]; exact y))
set_option maxHeartbeats 1000000 in
theorem RC.updJ {ad : Nat → Nat → Nat} {jb : Nat → Nat} {nt nc wk : Nat} {F f : Nat → Nat → Int32} {D : DS} {c k i : Nat} {v : Int32} (hi : Inj ad) (h : RC ad jb nt nc wk F f D) (hj : ∀ c c', c < nc → c' < nc → D 32 (7 * wk + c) = 1 → D 32 (7 * wk + c') = 1 → jb c = jb c' → c = c') (hc : c < nc) (h32 : D 32 (7 * wk + c) = 1) (hk : (k = 7 ∧ i = 37) ∨ (k = 8 ∧ i = 38) ∨ (k = 9 ∧ i = 39) ∨ (k = 10 ∧ i = 40)) : RC ad jb nt nc wk F (up2 f (ad 6 (jb c)) k v) (up2 D i (7 * wk + c) v) := by
  obtain ⟨h1, h2, h3, h4⟩ := h
  have n6 : ∀ x, ¬ x = jb c → ∀ j, up2 f (ad 6 (jb c)) k v (ad 6 x) j = f (ad 6 x) j := fun t' z j => up2_n _ _ (fun y => z (hi _ _ _ _ y.1).2)
  have nx : ∀ u x j, ¬ u = 6 → up2 f (ad 6 (jb c)) k v (ad u x) j = f (ad u x) j := fun u x j z => up2_n _ _ (fun y => z (hi _ _ _ _ y.1).1)
  have nd : ∀ j x, ¬ j = i → up2 D i (7 * wk + c) v j x = D j x := fun j x z => up2_n _ _ (fun y => z y.1)
  have nc' : ∀ x, ¬ x = 7 * wk + c → ∀ j, up2 D i (7 * wk + c) v j x = D j x := fun x z j => up2_n _ _ (fun y => z y.2)
  refine ⟨fun t' ht' => ?_, fun t' j n ht' z1 z2 z3 => ?_, fun c' hc' z => ?_, fun x j z1 z2 => ?_⟩
  · rw [nx 3 t' 0 (by decide), nx 3 t' 1 (by decide), nx 3 t' 4 (by decide), nx 3 t' 5 (by decide), nx 3 t' 6 (by decide), nx 3 t' 7 (by decide), nx 3 t' 8 (by decide), nx 3 t' 9 (by decide), nx 3 t' 10 (by decide), nd 28 _ (by omega), nd 51 _ (by omega), nd 47 _ (by omega), nd 48 _ (by omega), nd 44 _ (by omega), nd 45 _ (by omega), nd 46 _ (by omega), nd 49 _ (by omega)]
    exact h1 t' ht'
  · rw [nd 51 t' (by omega)] at z1
    rw [nx 5 t' j (by decide), nd 50 _ (by omega)]
    exact h2 t' j n ht' z1 z2 z3
  · rw [nd 32 _ (by omega)] at z
    by_cases q : c' = c
    · subst q
      obtain ⟨a1, a3, a4, a5, a6, a7, a8, a9, a10⟩ := h3 c' hc z
      rcases hk with ⟨rfl, rfl⟩ | ⟨rfl, rfl⟩ | ⟨rfl, rfl⟩ | ⟨rfl, rfl⟩ <;> simp [up2, a1, a3, a4, a5, a6, a7, a8, a9, a10]
    · have nj : ¬ jb c' = jb c := fun y => q (hj c' c hc' hc z h32 y)
      have nk : ¬ 7 * wk + c' = 7 * wk + c := by omega
      rw [n6 _ nj, n6 _ nj, n6 _ nj, n6 _ nj, n6 _ nj, n6 _ nj, n6 _ nj, n6 _ nj, n6 _ nj, nc' _ nk, nc' _ nk, nc' _ nk, nc' _ nk, nc' _ nk, nc' _ nk, nc' _ nk, nc' _ nk]
      exact h3 c' hc' z
  · rw [up2_n _ _ (fun y => z2 c hc (by rw [nd 32 _ (by omega)]; exact h32) ⟨y.1, by omega, by omega⟩)]
    exact h4 x j z1 (fun c hc y => z2 c hc (by rw [nd 32 _ (by omega)]; exact y))
theorem RC.eq {ad : Nat → Nat → Nat} {jb : Nat → Nat} {nt nc wk : Nat} {F f : Nat → Nat → Int32} {D D' : DS} (h : RC ad jb nt nc wk F f D) (e : ∀ i k, D' i k = D i k) : RC ad jb nt nc wk F f D' := by
  have : D' = D := funext fun i => funext fun k => e i k
  rw [this]; exact h
theorem shD_n {D : DS} {t r : Nat} {v : Int32} (i k : Nat) (h1 : ¬ i = 50) (h2 : ¬ i = 51) : shD (up2 D 51 t v) t r i k = D i k := by
  unfold shD
  rw [if_neg (fun z => h1 z.1), up2_n _ _ (fun z => h2 z.1)]
set_option maxHeartbeats 1000000 in
theorem RC.sh {ad : Nat → Nat → Nat} {jb : Nat → Nat} {nt nc wk : Nat} {F f f1 : Nat → Nat → Int32} {D : DS} {t r : Nat} (hi : Inj ad) (h : RC ad jb nt nc wk F f D) (ht : t < nt) (hnt : nt ≤ 3) (hr : r ≤ 6) (h51 : D 51 t = nI (r + 1)) (e : ∀ x k, ¬ x = ad 5 t → f1 x k = f x k) (e5 : ∀ k, k < r → f1 (ad 5 t) k = f (ad 5 t) (k + 1)) : RC ad jb nt nc wk F (up2 f1 (ad 3 t) 4 (nI r)) (shD (up2 D 51 t (nI r)) t r) := by
  obtain ⟨h1, h2, h3, h4⟩ := h
  have e' : ∀ u x j, ¬ u = 5 → ¬ (u = 3 ∧ x = t ∧ j = 4) → up2 f1 (ad 3 t) 4 (nI r) (ad u x) j = f (ad u x) j := fun u x j z y => by
    rw [up2_n _ _ (fun w => y ⟨(hi _ _ _ _ w.1).1, (hi _ _ _ _ w.1).2, w.2⟩), e _ _ (fun w => z (hi _ _ _ _ w).1)]
  have v51 : shD (up2 D 51 t (nI r)) t r 51 t = nI r := by unfold shD; rw [if_neg (fun z => absurd z.1 (by decide)), up2_s]
  refine ⟨fun t' ht' => ?_, fun t' j n ht' z1 z2 z3 => ?_, fun c hc z => ?_, fun x j z1 z2 => ?_⟩
  · obtain ⟨a0, a1, a4, a5, a6, a7, a8, a9, a10⟩ := h1 t' ht'
    rw [e' 3 t' 0 (by decide) (by omega), e' 3 t' 1 (by decide) (by omega), e' 3 t' 5 (by decide) (by omega), e' 3 t' 6 (by decide) (by omega), e' 3 t' 7 (by decide) (by omega), e' 3 t' 8 (by decide) (by omega), e' 3 t' 9 (by decide) (by omega), e' 3 t' 10 (by decide) (by omega), shD_n 28 t' (by decide) (by decide), shD_n 47 t' (by decide) (by decide), shD_n 48 t' (by decide) (by decide), shD_n 44 t' (by decide) (by decide), shD_n 45 t' (by decide) (by decide), shD_n 46 t' (by decide) (by decide), shD_n 49 t' (by decide) (by decide)]
    refine ⟨a0, a1, ?_, a5, a6, a7, a8, a9, a10⟩
    by_cases c : t' = t
    · rw [c, v51, up2_s]
    · rw [e' 3 t' 4 (by decide) (by omega), a4]
      unfold shD
      rw [if_neg (fun z => absurd z.1 (by decide)), up2_n _ _ (fun z => c z.2)]
  · by_cases c : t' = t
    · subst c
      rw [v51] at z1
      have en := (nI_eqs (by omega) (by omega)).mp z1
      rw [up2_n _ _ (fun w => absurd (hi _ _ _ _ w.1).1 (by decide)), e5 j (by omega), h2 t' (j + 1) (r + 1) ht h51 (by omega) (by omega)]
      unfold shD
      rw [if_pos ⟨rfl, by omega, by omega⟩, up2_n _ _ (fun w => absurd w.1 (by decide))]
      rfl
    · have e51 : shD (up2 D 51 t (nI r)) t r 51 t' = D 51 t' := by
        unfold shD
        rw [if_neg (fun z => absurd z.1 (by decide)), up2_n _ _ (fun z => c z.2)]
      rw [e51] at z1
      rw [up2_n _ _ (fun w => absurd (hi _ _ _ _ w.1).1 (by decide)), e _ _ (fun w => c (hi _ _ _ _ w).2), h2 t' j n ht' z1 z2 z3]
      unfold shD
      rw [if_neg, up2_n _ _ (fun w => absurd w.1 (by decide))]
      intro w
      have : t' < t ∨ t < t' := by omega
      omega
  · rw [shD_n 32 _ (by decide) (by decide)] at z
    rw [e' 6 _ 1 (by decide) (by omega), e' 6 _ 3 (by decide) (by omega), e' 6 _ 4 (by decide) (by omega), e' 6 _ 5 (by decide) (by omega), e' 6 _ 6 (by decide) (by omega), e' 6 _ 7 (by decide) (by omega), e' 6 _ 8 (by decide) (by omega), e' 6 _ 9 (by decide) (by omega), e' 6 _ 10 (by decide) (by omega), shD_n 34 _ (by decide) (by decide), shD_n 36 _ (by decide) (by decide), shD_n 33 _ (by decide) (by decide), shD_n 35 _ (by decide) (by decide), shD_n 37 _ (by decide) (by decide), shD_n 38 _ (by decide) (by decide), shD_n 39 _ (by decide) (by decide), shD_n 40 _ (by decide) (by decide)]
    exact h3 c hc z
  · rw [up2_n _ _ (fun y => (z1 t ht).1 ⟨y.1, by omega⟩), e _ _ (z1 t ht).2]
    exact h4 x j z1 (fun c hc y => z2 c hc (by rw [shD_n 32 _ (by decide) (by decide)]; exact y))

set_option maxRecDepth 100000 in
theorem s_Ro_minutes0 {d : Nat} {M : Mem} {f : Nat → Nat → Int32} {g : Nat → Nat → Int64} {ad : Nat → Nat → Nat} {R : Option Value → Mem → Prop} {D : DS} {rs : Int32} {p c : Nat} (hF : Fx M ad) (hro : ∀ a b, a < 8 → b < 8 → f (ad 0 31) (8 * a + b) = wyD D a b) (h1 : f (ad 0 16) 1 = rs) (hp : p < 8) (hc : c < 7) (hR : R (some (.int (wyD D p (1 + c)))) (mm M f g)) : Call d 69 [.ref (ad 0 16), .int (nI p), .int (1 + nI c), .int 0] (mm M f g) R := by
  show Go d 69 0 0 0 [.ref (ad 0 16), .int (nI p), .int (1 + nI c), .int 0] [] (mm M f g) R
  refine go_blk 1 [] (pc' := 1) (vs' := [.ref (ad 0 16), .int (nI p), .int (1 + nI c), .int 0]) (st' := [.int 0]) (M' := mm M f g) (ps := []) rfl trivial ?_
  refine go_if rfl (fun _ => ?_) (fun (z : ¬ ((0 : Int32) = 0)) => absurd (show (0 : Int32) = 0 from (by decide)) z)
  refine go_blk 8 [some (.ref (ad 0 31)), some (.int (wyD D p (1 + c)))] (pc' := 37) (vs' := [.ref (ad 0 16), .int (nI p), .int (1 + nI c), .int 0]) (st' := [.int (wyD D p (1 + c))]) (M' := mm M f g) (ps := [ob (mm M f g) (ad 0 16) 7, mR (mm M f g) (ad 0 16) 0 = some (ad 0 31), va_rf (some (ad 0 31)) = .ref (ad 0 31), ob (mm M f g) (ad 0 31) 15, vp_in (((nI p) * 8) + (1 + nI c)) (mN (mm M f g) (ad 0 31)), (Value.int (f (ad 0 31) ((((nI p) * 8) + (1 + nI c)).toNatClampNeg))) = .int (wyD D p (1 + c))]) rfl ⟨(hF.o 16), (hF.r 16 0 31), rfl, (hF.o 31), (vp_eq (eq_add (eq_mul rfl (show (8 : Int32) = nI 8 from rfl)) (eq_add (show (1 : Int32) = nI 1 from rfl) rfl)) (vpi (hF.n 31) (show _ < 64 by omega))), congrArg Value.int ((congrArg (fun z => f (ad 0 31) z) (cl_of (eq_add (eq_mul rfl (show (8 : Int32) = nI 8 from rfl)) (eq_add (show (1 : Int32) = nI 1 from rfl) rfl)) (by omega))).trans ((congrArg _ (show p * 8 + (1 + c) = 8 * p + (1 + c) by omega)).trans (hro p (1 + c) hp (by omega)))), trivial⟩ ?_
  refine go_iret rfl rfl ?_
  exact hR

set_option maxRecDepth 100000 in
theorem s_Ro_minutes1 {d : Nat} {M : Mem} {f : Nat → Nat → Int32} {g : Nat → Nat → Int64} {ad : Nat → Nat → Nat} {R : Option Value → Mem → Prop} {D : DS} {rs : Int32} {p c : Nat} (hF : Fx M ad) (hro : ∀ a b, a < 8 → b < 8 → f (ad 0 31) (8 * a + b) = wyD D a b) (h1 : f (ad 0 16) 1 = rs) (hp : p < 8) (hc : c < 7) (hR : R (some (.int (wyD D p 0 + rs + wyD D 0 (1 + c)))) (mm M f g)) : Call d 69 [.ref (ad 0 16), .int (nI p), .int (1 + nI c), .int 1] (mm M f g) R := by
  show Go d 69 0 0 0 [.ref (ad 0 16), .int (nI p), .int (1 + nI c), .int 1] [] (mm M f g) R
  refine go_blk 1 [] (pc' := 1) (vs' := [.ref (ad 0 16), .int (nI p), .int (1 + nI c), .int 1]) (st' := [.int 1]) (M' := mm M f g) (ps := []) rfl trivial ?_
  refine go_if rfl (fun (z : (1 : Int32) = 0) => absurd z (show ¬ ((1 : Int32) = 0) from (by decide))) (fun _ => ?_)
  refine go_blk 14 [some (.ref (ad 0 31)), some (.int (wyD D p 0)), some (.int rs), some (.ref (ad 0 31)), some (.int (wyD D 0 (1 + c)))] (pc' := 25) (vs' := [.ref (ad 0 16), .int (nI p), .int (1 + nI c), .int 1]) (st' := [.int (((wyD D p 0) + rs) + (wyD D 0 (1 + c)))]) (M' := mm M f g) (ps := [ob (mm M f g) (ad 0 16) 7, mR (mm M f g) (ad 0 16) 0 = some (ad 0 31), va_rf (some (ad 0 31)) = .ref (ad 0 31), ob (mm M f g) (ad 0 31) 15, vp_in ((nI p) * 8) (mN (mm M f g) (ad 0 31)), (Value.int (f (ad 0 31) (((nI p) * 8).toNatClampNeg))) = .int (wyD D p 0), ob (mm M f g) (ad 0 16) 7, (Value.int (f (ad 0 16) 1)) = .int rs, ob (mm M f g) (ad 0 16) 7, mR (mm M f g) (ad 0 16) 0 = some (ad 0 31), va_rf (some (ad 0 31)) = .ref (ad 0 31), ob (mm M f g) (ad 0 31) 15, vp_in (1 + nI c) (mN (mm M f g) (ad 0 31)), (Value.int (f (ad 0 31) ((1 + nI c).toNatClampNeg))) = .int (wyD D 0 (1 + c))]) rfl ⟨(hF.o 16), (hF.r 16 0 31), rfl, (hF.o 31), (vp_eq (eq_mul rfl (show (8 : Int32) = nI 8 from rfl)) (vpi (hF.n 31) (show _ < 64 by omega))), congrArg Value.int ((congrArg (fun z => f (ad 0 31) z) (cl_of (eq_mul rfl (show (8 : Int32) = nI 8 from rfl)) (by omega))).trans ((congrArg _ (show p * 8 = 8 * p + 0 by omega)).trans (hro p 0 hp (by omega)))), (hF.o 16), congrArg Value.int h1, (hF.o 16), (hF.r 16 0 31), rfl, (hF.o 31), (vp_eq (eq_add (show (1 : Int32) = nI 1 from rfl) rfl) (vpi (hF.n 31) (show _ < 64 by omega))), congrArg Value.int ((congrArg (fun z => f (ad 0 31) z) (cl_of (eq_add (show (1 : Int32) = nI 1 from rfl) rfl) (by omega))).trans ((congrArg _ (show 1 + c = 8 * 0 + (1 + c) by omega)).trans (hro 0 (1 + c) (by omega) (by omega)))), trivial⟩ ?_
  refine go_iret rfl rfl ?_
  exact hR

set_option maxRecDepth 100000 in
theorem lp_Te_go {d : Nat} {M : Mem} {f0 : Nat → Nat → Int32} {g : Nat → Nat → Int64} {ad : Nat → Nat → Nat} {R : Option Value → Mem → Prop} {t r nt : Nat} {x1 x2 x3 : Value} (hT : Ts M ad nt) (hi : Inj ad) (ht : t < nt) (hr : r ≤ 6) (h4 : f0 (ad 3 t) 4 = nI (r + 1)) (hR : ∀ f, (∀ x k, ¬ x = ad 5 t → f x k = f0 x k) → (∀ k, k < 7 → f (ad 5 t) k = if k < r then f0 (ad 5 t) (k + 1) else f0 (ad 5 t) k) → Go d 81 0 0 40 [.ref (ad 3 t), x1, x2, x3, .int (nI (r + 1))] [] (mm M f g) R) : ∀ i, i ≤ r → ∀ f, (∀ x k, ¬ x = ad 5 t → f x k = f0 x k) → (∀ k, k < 7 → f (ad 5 t) k = if k < i then f0 (ad 5 t) (k + 1) else f0 (ad 5 t) k) → Go d 81 0 0 9 [.ref (ad 3 t), x1, x2, x3, .int (nI (i + 1))] [] (mm M f g) R := by
  refine up_ind (P := fun i => ∀ f, (∀ x k, ¬ x = ad 5 t → f x k = f0 x k) → (∀ k, k < 7 → f (ad 5 t) k = if k < i then f0 (ad 5 t) (k + 1) else f0 (ad 5 t) k) → Go d 81 0 0 9 [.ref (ad 3 t), x1, x2, x3, .int (nI (i + 1))] [] (mm M f g) R) r (fun f h1 h2 => ?_) (fun i hlt ih f h1 h2 => ?_)
  ·
    show Go d 81 0 0 9 [.ref (ad 3 t), x1, x2, x3, .int (nI (r + 1))] [] (mm M f g) R
    refine go_blk 3 [some (.int (nI (r + 1)))] (pc' := 15) (vs' := [.ref (ad 3 t), x1, x2, x3, .int (nI (r + 1))]) (st' := [.int (nI (r + 1)), .int (nI (r + 1))]) (M' := mm M f g) (ps := [ob (mm M f g) (ad 3 t) 8, (Value.int (f (ad 3 t) 4)) = .int (nI (r + 1))]) rfl ⟨(hT t (by assumption)).2.1, congrArg Value.int ((h1 _ _ (fun z => absurd (hi _ _ _ _ z).1 (by decide))).trans h4), trivial⟩ ?_
    refine go_icmp rfl (fun _ => ?_) (fun (z : ¬ (nI (r + 1) ≤ (nI (r + 1)))) => absurd (show nI (r + 1) ≤ (nI (r + 1)) from Int32.le_refl _) z)
    exact hR f h1 h2
  ·
    show Go d 81 0 0 9 [.ref (ad 3 t), x1, x2, x3, .int (nI (i + 1))] [] (mm M f g) R
    refine go_blk 3 [some (.int (nI (r + 1)))] (pc' := 15) (vs' := [.ref (ad 3 t), x1, x2, x3, .int (nI (i + 1))]) (st' := [.int (nI (r + 1)), .int (nI (i + 1))]) (M' := mm M f g) (ps := [ob (mm M f g) (ad 3 t) 8, (Value.int (f (ad 3 t) 4)) = .int (nI (r + 1))]) rfl ⟨(hT t (by assumption)).2.1, congrArg Value.int ((h1 _ _ (fun z => absurd (hi _ _ _ _ z).1 (by decide))).trans h4), trivial⟩ ?_
    refine go_icmp rfl (fun (z : nI (r + 1) ≤ (nI (i + 1))) => absurd z (show ¬ (nI (r + 1) ≤ (nI (i + 1))) from (Int32.not_le.mpr ((nI_lts (a := i + 1) (b := r + 1) (by omega) (by omega)).mpr (by omega))))) (fun _ => ?_)
    refine go_blk 5 [some (.ref (ad 5 t))] (pc' := 26) (vs' := [.ref (ad 3 t), x1, x2, x3, .int (nI (i + 1))]) (st' := [.int ((nI (i + 1)) - 1), .ref (ad 5 t)]) (M' := mm M f g) (ps := [ob (mm M f g) (ad 3 t) 8, mR (mm M f g) (ad 3 t) 3 = some (ad 5 t), va_rf (some (ad 5 t)) = .ref (ad 5 t)]) rfl ⟨(hT t (by assumption)).2.1, (hT t (by assumption)).2.2.2.1, rfl, trivial⟩ ?_
    rw [show nI (i + 1) - 1 = nI i from nI_pred i]
    show Go d 81 0 0 26 [.ref (ad 3 t), x1, x2, x3, .int (nI (i + 1))] [.int (nI i), .ref (ad 5 t)] (mm M f g) R
    show Go d 81 0 0 26 [.ref (ad 3 t), x1, x2, x3, .int (nI (i + 1))] [.int (nI i), .ref (ad 5 t)] (mm M f g) R
    refine go_blk 7 [some (.ref (ad 5 t)), some (.int (f0 (ad 5 t) (i + 1)))] (pc' := 9) (vs' := [.ref (ad 3 t), x1, x2, x3, .int ((nI (i + 1)) + 1)]) (st' := []) (M' := mm M (up2 f (ad 5 t) ((nI i).toNatClampNeg) (f0 (ad 5 t) (i + 1))) g) (ps := [ob (mm M f g) (ad 3 t) 8, mR (mm M f g) (ad 3 t) 3 = some (ad 5 t), va_rf (some (ad 5 t)) = .ref (ad 5 t), ob (mm M f g) (ad 5 t) 15, vp_in (nI (i + 1)) (mN (mm M f g) (ad 5 t)), (Value.int (f (ad 5 t) ((nI (i + 1)).toNatClampNeg))) = .int (f0 (ad 5 t) (i + 1)), ob (mm M f g) (ad 5 t) 15, vp_in (nI i) (mN (mm M f g) (ad 5 t))]) rfl ⟨(hT t (by assumption)).2.1, (hT t (by assumption)).2.2.2.1, rfl, (hT t (by assumption)).2.2.2.2.1, (vpi (hT t ht).2.2.2.2.2 (by omega)), congrArg Value.int ((congrArg (fun z => f (ad 5 t) z) (cl_of rfl (by omega))).trans ((h2 _ (by omega)).trans (if_neg (by omega)))), (hT t (by assumption)).2.2.2.2.1, (vpi (hT t ht).2.2.2.2.2 (by omega)), trivial⟩ ?_
    rw [nI_clamp (n := i) (by omega)]
    rw [show nI (i + 1) + 1 = nI (i + 1 + 1) from nI_add (i + 1) 1]
    refine ih _ (fun x k z => (up2_n _ _ (fun y => z y.1)).trans (h1 x k z)) (fun k hk => ?_)
    by_cases q : k = i
    · rw [q, up2_s, if_pos (by omega)]
    · rw [up2_n _ _ (fun z => q z.2), h2 k hk]
      by_cases y : k < i
      · rw [if_pos y, if_pos (by omega)]
      · rw [if_neg y, if_neg (by omega)]

