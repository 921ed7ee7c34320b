/-! moves: the model's search -/
def gsT (p : Nat → Bool) (n nb : Nat) : List Nat := (List.range' n (nb - n)).filter p
theorem gsT_0 (p : Nat → Bool) (nb : Nat) : gsT p 0 nb = gsL p nb := by unfold gsT gsL; rw [Nat.sub_zero, List.range_eq_range']
theorem gsT_s (p : Nat → Bool) {n nb : Nat} (h : n < nb) : gsT p n nb = if p n = true then n :: gsT p (n + 1) nb else gsT p (n + 1) nb := by
  unfold gsT
  rw [show nb - n = (nb - (n + 1)) + 1 by omega, List.range'_succ, List.filter_cons]
theorem gsT_e (p : Nat → Bool) (nb : Nat) : gsT p nb nb = [] := by unfold gsT; rw [Nat.sub_self]; rfl
theorem gsT_len (p : Nat → Bool) (n nb : Nat) : (gsT p n nb).length ≤ nb - n := by
  unfold gsT
  exact Nat.le_trans (List.length_filter_le _ _) (by rw [List.length_range']; exact Nat.le_refl _)
theorem gsT_nd (p : Nat → Bool) (n nb : Nat) : (gsT p n nb).Nodup := (List.nodup_range').filter _
def MD (ad : Nat → Nat → Nat) (F f : Nat → Nat → Int32) (nb nc n : Nat) (fr : Nat → Bool) (acc : Nat → Int32) (B : MvB) : Prop :=
  (∀ x k, ¬ (x = ad 10 0 ∧ (k = 26 ∨ k = 27)) → ¬ x = ad 9 22 → ¬ x = ad 9 23 → ¬ x = ad 9 24 → f x k = F x k) ∧ (∀ c, c < nc → f (ad 9 24) c = if fr c = true then 0 else 1) ∧ (∀ k, k < n → f (ad 9 22) k = acc k) ∧ f (ad 10 0) 26 = mvM B ∧ ∀ r, B = some r → f (ad 10 0) 27 = r.2.1 ∧ ∀ k, k < nb → f (ad 9 23) k = r.2.2 k
theorem MD.cell {ad : Nat → Nat → Nat} {F f : Nat → Nat → Int32} {nb nc n : Nat} {fr : Nat → Bool} {acc : Nat → Int32} {B : MvB} (hi : Inj ad) (h : MD ad F f nb nc n fr acc B) (j k : Nat) (h1 : ¬ j = 22) (h2 : ¬ j = 23) (h3 : ¬ j = 24) : f (ad 9 j) k = F (ad 9 j) k := h.1 _ _ (fun z => absurd (hi _ _ _ _ z.1).1 (by decide)) (fun z => h1 (hi _ _ _ _ z).2) (fun z => h2 (hi _ _ _ _ z).2) (fun z => h3 (hi _ _ _ _ z).2)
theorem MD.cel0 {ad : Nat → Nat → Nat} {F f : Nat → Nat → Int32} {nb nc n : Nat} {fr : Nat → Bool} {acc : Nat → Int32} {B : MvB} (hi : Inj ad) (h : MD ad F f nb nc n fr acc B) (k : Nat) (h1 : ¬ k = 26) (h2 : ¬ k = 27) : f (ad 10 0) k = F (ad 10 0) k := h.1 _ _ (fun z => by omega) (fun z => absurd (hi _ _ _ _ z).1 (by decide)) (fun z => absurd (hi _ _ _ _ z).1 (by decide)) (fun z => absurd (hi _ _ _ _ z).1 (by decide))
theorem MD.none {ad : Nat → Nat → Nat} {F f : Nat → Nat → Int32} {nb nc n : Nat} {fr : Nat → Bool} {acc : Nat → Int32} {B : MvB} {v : Int32} (hi : Inj ad) (h : MD ad F f nb nc n fr acc B) : MD ad F (up2 f (ad 9 22) n v) nb nc (n + 1) fr (va_up acc n v) B := by
  have n9 : ∀ i j, ¬ i = j → ¬ ad 9 i = ad 9 j := fun i j z y => z (hi _ _ _ _ y).2
  have n10 : ∀ j, ¬ ad 10 0 = ad 9 j := fun j y => absurd (hi _ _ _ _ y).1 (by decide)
  obtain ⟨h1, h2, h3, h4, h5⟩ := h
  refine ⟨fun x k z1 z2 z3 z4 => ?_, fun c hc => ?_, fun k hk => ?_, ?_, fun r hr => ?_⟩
  · rw [up2_n _ _ (fun z => z2 z.1)]; exact h1 x k z1 z2 z3 z4
  · rw [up2_n _ _ (fun z => n9 24 22 (by decide) z.1)]; exact h2 c hc
  · by_cases q : k = n
    · rw [q, up2_s, va_s]
    · rw [up2_n _ _ (fun z => q z.2), va_n _ _ q]; exact h3 k (by omega)
  · rw [up2_n _ _ (fun z => n10 22 z.1)]; exact h4
  · rw [up2_n _ _ (fun z => n10 22 z.1)]
    refine ⟨(h5 r hr).1, fun k hk => ?_⟩
    rw [up2_n _ _ (fun z => n9 23 22 (by decide) z.1)]; exact (h5 r hr).2 k hk
theorem MD.full {ad : Nat → Nat → Nat} {F f : Nat → Nat → Int32} {nb nc n c : Nat} {fr fr' : Nat → Bool} {acc : Nat → Int32} {B : MvB} {v : Int32} (hi : Inj ad) (h : MD ad F f nb nc n fr acc B) (hv : v = if fr' c = true then 0 else 1) (hf : ∀ j, ¬ j = c → fr' j = fr j) : MD ad F (up2 f (ad 9 24) c v) nb nc n fr' acc B := by
  have n9 : ∀ i j, ¬ i = j → ¬ ad 9 i = ad 9 j := fun i j z y => z (hi _ _ _ _ y).2
  have n10 : ∀ j, ¬ ad 10 0 = ad 9 j := fun j y => absurd (hi _ _ _ _ y).1 (by decide)
  obtain ⟨h1, h2, h3, h4, h5⟩ := h
  refine ⟨fun x k z1 z2 z3 z4 => ?_, fun c' hc => ?_, fun k hk => ?_, ?_, fun r hr => ?_⟩
  · rw [up2_n _ _ (fun z => z4 z.1)]; exact h1 x k z1 z2 z3 z4
  · by_cases q : c' = c
    · rw [q, up2_s]; exact hv
    · rw [up2_n _ _ (fun z => q z.2), hf c' q]; exact h2 c' hc
  · rw [up2_n _ _ (fun z => n9 22 24 (by decide) z.1)]; exact h3 k hk
  · rw [up2_n _ _ (fun z => n10 24 z.1)]; exact h4
  · rw [up2_n _ _ (fun z => n10 24 z.1)]
    refine ⟨(h5 r hr).1, fun k hk => ?_⟩
    rw [up2_n _ _ (fun z => n9 23 24 (by decide) z.1)]; exact (h5 r hr).2 k hk
theorem MD.less {ad : Nat → Nat → Nat} {F f : Nat → Nat → Int32} {nb nc n n' : Nat} {fr : Nat → Bool} {acc acc' : Nat → Int32} {B : MvB} (h : MD ad F f nb nc n' fr acc' B) (hn : n ≤ n') (ha : ∀ k, k < n → acc' k = acc k) : MD ad F f nb nc n fr acc B := ⟨h.1, h.2.1, fun k hk => (h.2.2.1 k (by omega)).trans (ha k hk), h.2.2.2⟩

set_option maxRecDepth 100000 in
theorem lp_tm_copy {d : Nat} {M : Mem} {g : Nat → Nat → Int64} {ad : Nat → Nat → Nat} {R : Option Value → Mem → Prop} {nb : Nat} {v1 v2 v3 v4 : Value} (hM : Mx M ad) (hi : Inj ad) (hl : nb ≤ 60) (f0 : Nat → Nat → Int32) (hn : f0 (ad 10 0) 18 = nI nb) (hR : ∀ f, (∀ x k, ¬ x = ad 9 23 → f x k = f0 x k) → (∀ k, k < nb → f (ad 9 23) k = f0 (ad 9 22) k) → R none (mm M f g)) : ∀ i, i ≤ nb → ∀ f, (∀ x k, ¬ x = ad 9 23 → f x k = f0 x k) → (∀ k, k < i → f (ad 9 23) k = f0 (ad 9 22) k) → Go d 197 0 0 120 [.ref (ad 10 0), v1, v2, v3, v4, .int (nI i)] [] (mm M f g) R := by
  have n9 : ∀ i j, ¬ i = j → ¬ ad 9 i = ad 9 j := fun i j z y => z (hi _ _ _ _ y).2
  have n10 : ∀ j, ¬ ad 10 0 = ad 9 j := fun j y => absurd (hi _ _ _ _ y).1 (by decide)
  refine up_ind (P := fun i => ∀ f, (∀ x k, ¬ x = ad 9 23 → f x k = f0 x k) → (∀ k, k < i → f (ad 9 23) k = f0 (ad 9 22) k) → Go d 197 0 0 120 [.ref (ad 10 0), v1, v2, v3, v4, .int (nI i)] [] (mm M f g) R) nb (fun f h1 h2 => ?_) (fun i hlt ih f h1 h2 => ?_)
  ·
    show Go d 197 0 0 120 [.ref (ad 10 0), v1, v2, v3, v4, .int (nI nb)] [] (mm M f g) R
    refine go_blk 3 [some (.int (nI nb))] (pc' := 126) (vs' := [.ref (ad 10 0), v1, v2, v3, v4, .int (nI nb)]) (st' := [.int (nI nb), .int (nI nb)]) (M' := mm M f g) (ps := [ob (mm M f g) (ad 10 0) 12, (Value.int (f (ad 10 0) 18)) = .int (nI nb)]) rfl ⟨hM.1, congrArg Value.int ((h1 _ _ (n10 23)).trans hn), trivial⟩ ?_
    refine go_icmp rfl (fun _ => ?_) (fun (z : ¬ (nI nb ≤ (nI nb))) => absurd (show nI nb ≤ (nI nb) from Int32.le_refl _) z)
    refine go_vret rfl rfl ?_
    exact hR f h1 h2
  ·
    show Go d 197 0 0 120 [.ref (ad 10 0), v1, v2, v3, v4, .int (nI i)] [] (mm M f g) R
    refine go_blk 3 [some (.int (nI nb))] (pc' := 126) (vs' := [.ref (ad 10 0), v1, v2, v3, v4, .int (nI i)]) (st' := [.int (nI nb), .int (nI i)]) (M' := mm M f g) (ps := [ob (mm M f g) (ad 10 0) 12, (Value.int (f (ad 10 0) 18)) = .int (nI nb)]) rfl ⟨hM.1, congrArg Value.int ((h1 _ _ (n10 23)).trans hn), trivial⟩ ?_
    refine go_icmp rfl (fun (z : nI nb ≤ (nI i)) => absurd z (show ¬ (nI nb ≤ (nI i)) from (Int32.not_le.mpr ((nI_lts (a := i) (b := nb) (by omega) (by omega)).mpr hlt)))) (fun _ => ?_)
    refine go_blk 10 [some (.ref (ad 9 23)), some (.ref (ad 9 22)), some (.int (f (ad 9 22) i))] (pc' := 120) (vs' := [.ref (ad 10 0), v1, v2, v3, v4, .int ((nI i) + 1)]) (st' := []) (M' := mm M (up2 f (ad 9 23) ((nI i).toNatClampNeg) (f (ad 9 22) i)) g) (ps := [ob (mm M f g) (ad 10 0) 12, mR (mm M f g) (ad 10 0) 23 = some (ad 9 23), va_rf (some (ad 9 23)) = .ref (ad 9 23), ob (mm M f g) (ad 10 0) 12, mR (mm M f g) (ad 10 0) 22 = some (ad 9 22), va_rf (some (ad 9 22)) = .ref (ad 9 22), ob (mm M f g) (ad 9 22) 15, vp_in (nI i) (mN (mm M f g) (ad 9 22)), (Value.int (f (ad 9 22) ((nI i).toNatClampNeg))) = .int (f (ad 9 22) i), ob (mm M f g) (ad 9 23) 15, vp_in (nI i) (mN (mm M f g) (ad 9 23))]) rfl ⟨hM.1, (hM.r 23 15 60), rfl, hM.1, (hM.r 22 15 60), rfl, (hM.o 22 15 60), (vpi (hM.n 22 15 60) (by omega)), congrArg (fun z => Value.int (f (ad 9 22) z)) (nI_clamp (by omega)), (hM.o 23 15 60), (vpi (hM.n 23 15 60) (by omega)), trivial⟩ ?_
    rw [nI_clamp (n := i) (by omega)]
    rw [show nI i + 1 = nI (i + 1) from nI_add i 1]
    refine ih _ (fun x k z => (up2_n _ _ (fun y => z y.1)).trans (h1 x k z)) (fun k hk => ?_)
    by_cases q : k = i
    · rw [q, up2_s]; exact h1 _ _ (n9 22 23 (by decide))
    · rw [up2_n _ _ (fun z => q z.2)]; exact h2 k (by omega)

set_option maxHeartbeats 4000000 in
set_option maxRecDepth 100000 in
theorem lp_tryMoves {M : Mem} {F : Nat → Nat → Int32} {g : Nat → Nat → Int64} {ad : Nat → Nat → Nat} {nc nb w : Nat} {p : Nat → Bool} {ok : Nat → Nat → Bool} {ds : Nat → Nat → Int32} (hM : Mx M ad) (hi : Inj ad) (hnc : nc ≤ 7) (hnb : nb ≤ 60) (hw : w < 52) (f17 : F (ad 10 0) 17 = nI nc) (f18 : F (ad 10 0) 18 = nI nb) (f25 : F (ad 10 0) 25 = nI w) (hcot : ∀ b, b < nb → ∃ c, c < nc ∧ F (ad 9 6) b = nI c) (hp : ∀ b, b < nb → (p b = true ↔ ¬ F (ad 9 15) b = 0 ∧ F (ad 9 7) b = nI w ∧ ¬ F (ad 9 5) (7 * w + (F (ad 9 6) b).toNatClampNeg) = 0)) (hok : ∀ c b, c < nc → b < nb → (ok c b = true ↔ F (ad 9 8) b ≤ F (ad 9 1) c ∧ (¬ F (ad 9 4) c = 0 ∨ F (ad 9 14) b = 0))) (hds : ∀ c b, (if 0 ≤ F (ad 9 2) c - F (ad 9 10) b then F (ad 9 2) c - F (ad 9 10) b else -(F (ad 9 2) c - F (ad 9 10) b)) = ds c b) : ∀ (q n : Nat), n + q = nb → ∀ (d : Nat) (f : Nat → Nat → Int32) (fr : Nat → Bool) (m : Nat) (a : Int32) (acc : Nat → Int32) (B : MvB) (R : Option Value → Mem → Prop) (x1 : Int32) (u5 : Value), q + 2 ≤ d → m + q ≤ 60 → (∀ r, B = some r → r.1 ≤ 60) → (∀ j, n ≤ j → acc j = -1) → MD ad F f nb nc n fr acc B → (∀ f', MD ad F f' nb nc n fr acc (mvS ok ds nc (gsT p n nb) fr m a acc B) → R none (mm M f' g)) → Go d 197 0 0 3 [.ref (ad 10 0), .int x1, .int (nI m), .int a, .int (nI n), u5] [] (mm M f g) R := by
  have n9 : ∀ i j, ¬ i = j → ¬ ad 9 i = ad 9 j := fun i j z y => z (hi _ _ _ _ y).2
  have n10 : ∀ j, ¬ ad 10 0 = ad 9 j := fun j y => absurd (hi _ _ _ _ y).1 (by decide)
  intro q
  induction q with
  | zero =>
    intro n hn d f fr m a acc B R x1 u5 hd hm hB1 hacc hf hR
    obtain rfl : n = nb := by omega
    rw [gsT_e, mvS] at hR
    have stay : mvU B m a acc = B → R none (mm M f g) := fun e => hR f (by rw [e]; exact hf)
    have done : mvU B m a acc = some (m, a, acc) → ∀ v1 v2 v3 v4, Go d 197 0 0 120 [.ref (ad 10 0), v1, v2, v3, v4, .int (nI 0)] [] (mm M (up2 (up2 f (ad 10 0) 26 (nI m)) (ad 10 0) 27 a) g) R := by
      intro e v1 v2 v3 v4
      refine lp_tm_copy (v1 := v1) (v2 := v2) (v3 := v3) (v4 := v4) hM hi hnb (up2 (up2 f (ad 10 0) 26 (nI m)) (ad 10 0) 27 a) ?_ (fun f' z1 z2 => ?_) 0 (Nat.zero_le _) _ (fun _ _ _ => rfl) (fun k hk => absurd hk (by omega))
      · rw [up2_n _ _ (fun z => absurd z.2 (by decide)), up2_n _ _ (fun z => absurd z.2 (by decide))]
        exact (MD.cel0 hi hf 18 (by decide) (by decide)).trans f18
      · refine hR f' ?_
        rw [e]
        obtain ⟨h1, h2, h3, h4, h5⟩ := hf
        refine ⟨fun x k y1 y2 y3 y4 => ?_, fun c hc => ?_, fun k hk => ?_, ?_, fun r hr => ?_⟩
        · rw [z1 x k y3, up2_n _ _ (fun z => y1 ⟨z.1, Or.inr z.2⟩), up2_n _ _ (fun z => y1 ⟨z.1, Or.inl z.2⟩)]; exact h1 x k y1 y2 y3 y4
        · rw [z1 _ _ (n9 24 23 (by decide)), up2_n _ _ (fun z => n10 24 z.1.symm), up2_n _ _ (fun z => n10 24 z.1.symm)]; exact h2 c hc
        · rw [z1 _ _ (n9 22 23 (by decide)), up2_n _ _ (fun z => n10 22 z.1.symm), up2_n _ _ (fun z => n10 22 z.1.symm)]; exact h3 k hk
        · rw [z1 _ _ (n10 23), up2_n _ _ (fun z => absurd z.2 (by decide)), up2_s]; rfl
        · cases hr
          refine ⟨by rw [z1 _ _ (n10 23), up2_s], fun k hk => ?_⟩
          rw [z2 k hk, up2_n _ _ (fun z => n10 22 z.1.symm), up2_n _ _ (fun z => n10 22 z.1.symm)]; exact h3 k hk
    cases B with
    | none =>
      show Go d 197 0 0 3 [.ref (ad 10 0), .int x1, .int (nI m), .int a, .int (nI n), u5] [] (mm M f g) R
      refine go_blk 3 [some (.int (nI n))] (pc' := 9) (vs' := [.ref (ad 10 0), .int x1, .int (nI m), .int a, .int (nI n), u5]) (st' := [.int (nI n), .int (nI n)]) (M' := mm M f g) (ps := [ob (mm M f g) (ad 10 0) 12, (Value.int (f (ad 10 0) 18)) = .int (nI n)]) rfl ⟨hM.1, congrArg Value.int ((MD.cel0 hi hf 18 (by decide) (by decide)).trans f18), trivial⟩ ?_
      refine go_icmp rfl (fun _ => ?_) (fun (z : ¬ (nI n ≤ (nI n))) => absurd (show nI n ≤ (nI n) from Int32.le_refl _) z)
      refine go_blk 3 [some (.int (nI n))] (pc' := 79) (vs' := [.ref (ad 10 0), .int x1, .int (nI m), .int a, .int (nI n), u5]) (st' := [.int (nI n), .int (nI n)]) (M' := mm M f g) (ps := [ob (mm M f g) (ad 10 0) 12, (Value.int (f (ad 10 0) 18)) = .int (nI n)]) rfl ⟨hM.1, congrArg Value.int ((MD.cel0 hi hf 18 (by decide) (by decide)).trans f18), trivial⟩ ?_
      refine go_icmp rfl (fun (z : ¬ (nI n) = nI n) => absurd z (show ¬ (¬ (nI n) = nI n) from (not_not_intro rfl))) (fun _ => ?_)
      refine go_blk 3 [some (.int (-1))] (pc' := 87) (vs' := [.ref (ad 10 0), .int x1, .int (nI m), .int a, .int (nI n), u5]) (st' := [.int (-1), .int (nI m)]) (M' := mm M f g) (ps := [ob (mm M f g) (ad 10 0) 12, (Value.int (f (ad 10 0) 26)) = .int (-1)]) rfl ⟨hM.1, congrArg Value.int hf.2.2.2.1, trivial⟩ ?_
      refine go_icmp rfl (fun (z : (nI m) < (-1)) => absurd z (show ¬ ((nI m) < (-1)) from (by rw [i32_lt, nI_toInt (by omega)]; show ¬ ((m : Int) < -1); omega))) (fun _ => ?_)
      refine go_blk 3 [some (.int (-1))] (pc' := 95) (vs' := [.ref (ad 10 0), .int x1, .int (nI m), .int a, .int (nI n), u5]) (st' := [.int (-1), .int (nI m)]) (M' := mm M f g) (ps := [ob (mm M f g) (ad 10 0) 12, (Value.int (f (ad 10 0) 26)) = .int (-1)]) rfl ⟨hM.1, congrArg Value.int hf.2.2.2.1, trivial⟩ ?_
      refine go_icmp rfl (fun _ => ?_) (fun (z : ¬ (¬ (nI m) = (-1))) => absurd (show ¬ (nI m) = (-1) from (nI_m1 (by omega))) z)
      refine go_blk 8 [] (pc' := 120) (vs' := [.ref (ad 10 0), .int x1, .int (nI m), .int a, .int (nI n), .int 0]) (st' := []) (M' := mm M (up2 (up2 f (ad 10 0) 26 (nI m)) (ad 10 0) 27 a) g) (ps := [ob (mm M f g) (ad 10 0) 12, ob (mm M (up2 f (ad 10 0) 26 (nI m)) g) (ad 10 0) 12]) rfl ⟨hM.1, hM.1, trivial⟩ ?_
      exact done rfl _ _ _ _
    | some r =>
      have hr1 := hB1 r rfl
      show Go d 197 0 0 3 [.ref (ad 10 0), .int x1, .int (nI m), .int a, .int (nI n), u5] [] (mm M f g) R
      refine go_blk 3 [some (.int (nI n))] (pc' := 9) (vs' := [.ref (ad 10 0), .int x1, .int (nI m), .int a, .int (nI n), u5]) (st' := [.int (nI n), .int (nI n)]) (M' := mm M f g) (ps := [ob (mm M f g) (ad 10 0) 12, (Value.int (f (ad 10 0) 18)) = .int (nI n)]) rfl ⟨hM.1, congrArg Value.int ((MD.cel0 hi hf 18 (by decide) (by decide)).trans f18), trivial⟩ ?_
      refine go_icmp rfl (fun _ => ?_) (fun (z : ¬ (nI n ≤ (nI n))) => absurd (show nI n ≤ (nI n) from Int32.le_refl _) z)
      refine go_blk 3 [some (.int (nI n))] (pc' := 79) (vs' := [.ref (ad 10 0), .int x1, .int (nI m), .int a, .int (nI n), u5]) (st' := [.int (nI n), .int (nI n)]) (M' := mm M f g) (ps := [ob (mm M f g) (ad 10 0) 12, (Value.int (f (ad 10 0) 18)) = .int (nI n)]) rfl ⟨hM.1, congrArg Value.int ((MD.cel0 hi hf 18 (by decide) (by decide)).trans f18), trivial⟩ ?_
      refine go_icmp rfl (fun (z : ¬ (nI n) = nI n) => absurd z (show ¬ (¬ (nI n) = nI n) from (not_not_intro rfl))) (fun _ => ?_)
      refine go_blk 3 [some (.int (nI r.1))] (pc' := 87) (vs' := [.ref (ad 10 0), .int x1, .int (nI m), .int a, .int (nI n), u5]) (st' := [.int (nI r.1), .int (nI m)]) (M' := mm M f g) (ps := [ob (mm M f g) (ad 10 0) 12, (Value.int (f (ad 10 0) 26)) = .int (nI r.1)]) rfl ⟨hM.1, congrArg Value.int hf.2.2.2.1, trivial⟩ ?_
      refine go_icmp rfl (fun (c1 : (nI m) < nI r.1) => ?_) (fun (c1 : ¬ ((nI m) < nI r.1)) => ?_)
      · -- (nI m) < nI r.1
        refine go_vret rfl rfl ?_
        refine stay (if_neg ?_)
        have q1 := nI_lts (a := m) (b := r.1) (by omega) (by omega)
        have q2 := nI_eqs (a := m) (b := r.1) (by omega) (by omega)
        have q3 : ¬ m < r.1 ∧ ¬ m = r.1 → r.1 < m := by omega
        grind
      · -- ¬ ((nI m) < nI r.1)
        refine go_blk 3 [some (.int (nI r.1))] (pc' := 95) (vs' := [.ref (ad 10 0), .int x1, .int (nI m), .int a, .int (nI n), u5]) (st' := [.int (nI r.1), .int (nI m)]) (M' := mm M f g) (ps := [ob (mm M f g) (ad 10 0) 12, (Value.int (f (ad 10 0) 26)) = .int (nI r.1)]) rfl ⟨hM.1, congrArg Value.int hf.2.2.2.1, trivial⟩ ?_
        refine go_icmp rfl (fun (c2 : ¬ (nI m) = nI r.1) => ?_) (fun (c2 : ¬ (¬ (nI m) = nI r.1)) => ?_)
        · -- ¬ (nI m) = nI r.1
          refine go_blk 8 [] (pc' := 120) (vs' := [.ref (ad 10 0), .int x1, .int (nI m), .int a, .int (nI n), .int 0]) (st' := []) (M' := mm M (up2 (up2 f (ad 10 0) 26 (nI m)) (ad 10 0) 27 a) g) (ps := [ob (mm M f g) (ad 10 0) 12, ob (mm M (up2 f (ad 10 0) 26 (nI m)) g) (ad 10 0) 12]) rfl ⟨hM.1, hM.1, trivial⟩ ?_
          refine done (if_pos ?_) _ _ _ _
          have q1 := nI_lts (a := m) (b := r.1) (by omega) (by omega)
          have q2 := nI_eqs (a := m) (b := r.1) (by omega) (by omega)
          have q3 : ¬ m < r.1 ∧ ¬ m = r.1 → r.1 < m := by omega
          grind
        · -- ¬ (¬ (nI m) = nI r.1)
          refine go_blk 3 [some (.int r.2.1)] (pc' := 103) (vs' := [.ref (ad 10 0), .int x1, .int (nI m), .int a, .int (nI n), u5]) (st' := [.int r.2.1, .int a]) (M' := mm M f g) (ps := [ob (mm M f g) (ad 10 0) 12, (Value.int (f (ad 10 0) 27)) = .int r.2.1]) rfl ⟨hM.1, congrArg Value.int ((hf.2.2.2.2 r rfl).1), trivial⟩ ?_
          refine go_icmp rfl (fun (c3 : a < r.2.1) => ?_) (fun (c3 : ¬ (a < r.2.1)) => ?_)
          · -- a < r.2.1
            refine go_blk 8 [] (pc' := 120) (vs' := [.ref (ad 10 0), .int x1, .int (nI m), .int a, .int (nI n), .int 0]) (st' := []) (M' := mm M (up2 (up2 f (ad 10 0) 26 (nI m)) (ad 10 0) 27 a) g) (ps := [ob (mm M f g) (ad 10 0) 12, ob (mm M (up2 f (ad 10 0) 26 (nI m)) g) (ad 10 0) 12]) rfl ⟨hM.1, hM.1, trivial⟩ ?_
            refine done (if_pos ?_) _ _ _ _
            have q1 := nI_lts (a := m) (b := r.1) (by omega) (by omega)
            have q2 := nI_eqs (a := m) (b := r.1) (by omega) (by omega)
            have q3 : ¬ m < r.1 ∧ ¬ m = r.1 → r.1 < m := by omega
            grind
          · -- ¬ (a < r.2.1)
            refine go_vret rfl rfl ?_
            refine stay (if_neg ?_)
            have q1 := nI_lts (a := m) (b := r.1) (by omega) (by omega)
            have q2 := nI_eqs (a := m) (b := r.1) (by omega) (by omega)
            have q3 : ¬ m < r.1 ∧ ¬ m = r.1 → r.1 < m := by omega
            grind
  | succ q ih =>
    intro n hn d f fr m a acc B R x1 u5 hd hm hB1 hacc hf hR
    have hlt : n < nb := by omega
    obtain ⟨c0, hc0, hcn⟩ := hcot n hlt
    have hpn := hp n hlt
    rw [hcn, nI_clamp (by omega)] at hpn
    have e15 : f (ad 9 15) n = F (ad 9 15) n := MD.cell hi hf 15 n (by decide) (by decide) (by decide)
    have e7 : f (ad 9 7) n = F (ad 9 7) n := MD.cell hi hf 7 n (by decide) (by decide) (by decide)
    have e6 : f (ad 9 6) n = nI c0 := (MD.cell hi hf 6 n (by decide) (by decide) (by decide)).trans hcn
    have e5 : f (ad 9 5) (7 * w + c0) = F (ad 9 5) (7 * w + c0) := MD.cell hi hf 5 _ (by decide) (by decide) (by decide)
    rw [gsT_s p hlt] at hR
    have hi1 : ∀ (d : Nat) (f : Nat → Nat → Int32) (fr : Nat → Bool) (m : Nat) (a : Int32) (acc : Nat → Int32) (B : MvB) (R : Option Value → Mem → Prop), q + 2 ≤ d → m + q ≤ 60 → (∀ r, B = some r → r.1 ≤ 60) → (∀ j, n + 1 ≤ j → acc j = -1) → MD ad F f nb nc (n + 1) fr acc B → (∀ f', MD ad F f' nb nc (n + 1) fr acc (mvS ok ds nc (gsT p (n + 1) nb) fr m a acc B) → R none (mm M f' g)) → Call d 197 [.ref (ad 10 0), .int (nI (n + 1)), .int (nI m), .int a] (mm M f g) R := by
      intro d f fr m a acc B R hd hm hB1 hacc hf hR
      show Go d 197 0 0 0 [.ref (ad 10 0), .int (nI (n + 1)), .int (nI m), .int a, .retAddr 0, .retAddr 0] [] (mm M f g) R
      refine go_blk 2 [] (pc' := 3) (vs' := [.ref (ad 10 0), .int (nI (n + 1)), .int (nI m), .int a, .int (nI (n + 1)), .retAddr 0]) (st' := []) (M' := mm M f g) (ps := []) rfl trivial ?_
      exact ih (n + 1) (by omega) d f fr m a acc B R _ _ hd hm hB1 hacc hf hR
    by_cases hpp : p n = true
    · rw [if_pos hpp, mvS] at hR
      have hB2 : ∀ j, j ≤ nc → ∀ x, fldN (fun c B => if fr c = true ∧ ok c n = true then mvS ok ds nc (gsT p (n + 1) nb) (va_up fr c false) (m + 1) (a + ds c n) (va_up acc n (nI c)) B else B) j B = some x → x.1 ≤ 60 := by
        intro j
        induction j with
        | zero => intro _ x hx; exact hB1 x hx
        | succ j ihj =>
          intro hj x hx
          rw [fldN] at hx
          by_cases c : fr j = true ∧ ok j n = true
          · rw [if_pos c] at hx
            rcases mvS_gd hnc _ _ _ _ _ _ _ (gsT_nd _ _ _) hx with z | z
            · exact ihj (by omega) x z
            · have := z.1; have := gsT_len p (n + 1) nb; omega
          · rw [if_neg c] at hx; exact ihj (by omega) x hx
      have loop : ∀ c, c ≤ nc → ∀ f, MD ad F f nb nc n fr acc (fldN (fun c B => if fr c = true ∧ ok c n = true then mvS ok ds nc (gsT p (n + 1) nb) (va_up fr c false) (m + 1) (a + ds c n) (va_up acc n (nI c)) B else B) c B) → Go d 197 0 0 153 [.ref (ad 10 0), .int x1, .int (nI m), .int a, .int (nI n), .int (nI c)] [] (mm M f g) R := by
        refine up_ind (P := fun c => ∀ f, MD ad F f nb nc n fr acc (fldN (fun c B => if fr c = true ∧ ok c n = true then mvS ok ds nc (gsT p (n + 1) nb) (va_up fr c false) (m + 1) (a + ds c n) (va_up acc n (nI c)) B else B) c B) → Go d 197 0 0 153 [.ref (ad 10 0), .int x1, .int (nI m), .int a, .int (nI n), .int (nI c)] [] (mm M f g) R) nc (fun f hf => ?_) (fun c hc ihc f hf => ?_)
        ·
          show Go d 197 0 0 153 [.ref (ad 10 0), .int x1, .int (nI m), .int a, .int (nI n), .int (nI nc)] [] (mm M f g) R
          refine go_blk 3 [some (.int (nI nc))] (pc' := 159) (vs' := [.ref (ad 10 0), .int x1, .int (nI m), .int a, .int (nI n), .int (nI nc)]) (st' := [.int (nI nc), .int (nI nc)]) (M' := mm M f g) (ps := [ob (mm M f g) (ad 10 0) 12, (Value.int (f (ad 10 0) 17)) = .int (nI nc)]) rfl ⟨hM.1, congrArg Value.int ((MD.cel0 hi hf 17 (by decide) (by decide)).trans f17), trivial⟩ ?_
          refine go_icmp rfl (fun _ => ?_) (fun (z : ¬ (nI nc ≤ (nI nc))) => absurd (show nI nc ≤ (nI nc) from Int32.le_refl _) z)
          refine go_blk 11 [some (.ref (ad 9 22))] (pc' := 289) (vs' := [.ref (ad 10 0), .int x1, .int (nI m), .int a, .int (nI n), .int (nI nc)]) (st' := [.int a, .int (nI m), .int ((nI n) + 1), .ref (ad 10 0)]) (M' := mm M (up2 f (ad 9 22) ((nI n).toNatClampNeg) (-1)) g) (ps := [ob (mm M f g) (ad 10 0) 12, mR (mm M f g) (ad 10 0) 22 = some (ad 9 22), va_rf (some (ad 9 22)) = .ref (ad 9 22), ob (mm M f g) (ad 9 22) 15, vp_in (nI n) (mN (mm M f g) (ad 9 22))]) rfl ⟨hM.1, (hM.r 22 15 60), rfl, (hM.o 22 15 60), (vpi (hM.n 22 15 60) (by omega)), trivial⟩ ?_
          rw [nI_clamp (n := n) (by omega)]
          rw [show nI n + 1 = nI (n + 1) from nI_add n 1]
          refine go_callV rfl rfl rfl (by omega) rfl (by decide) (by decide) hM.1 ?_
          refine hi1 (d - 1) _ fr m a (va_up acc n (-1)) _ _ (by omega) (by omega) (hB2 nc (Nat.le_refl _)) (fun j hj => by rw [va_n _ _ (by omega)]; exact hacc j (by omega)) (MD.none hi hf) (fun f' hf' => ⟨ne_v, ?_⟩)
          show Go d 197 0 0 292 [.ref (ad 10 0), .int x1, .int (nI m), .int a, .int (nI n), .int (nI nc)] [] (mm M f' g) R
          refine go_vret rfl rfl ?_
          exact hR f' (MD.less hf' (by omega) (fun k hk => va_n _ _ (by omega)))
        · have hokc := hok c n hc hlt
          have cl : ∀ j k, ¬ j = 22 → ¬ j = 23 → ¬ j = 24 → f (ad 9 j) k = F (ad 9 j) k := MD.cell hi hf
          have e8 := cl 8 n (by decide) (by decide) (by decide)
          have e1 := cl 1 c (by decide) (by decide) (by decide)
          have e4 := cl 4 c (by decide) (by decide) (by decide)
          have e14 := cl 14 n (by decide) (by decide) (by decide)
          have e2 := cl 2 c (by decide) (by decide) (by decide)
          have e10 := cl 10 n (by decide) (by decide) (by decide)
          rw [fldN] at ihc
          by_cases hfc : fr c = true
          ·
            show Go d 197 0 0 153 [.ref (ad 10 0), .int x1, .int (nI m), .int a, .int (nI n), .int (nI c)] [] (mm M f g) R
            refine go_blk 3 [some (.int (nI nc))] (pc' := 159) (vs' := [.ref (ad 10 0), .int x1, .int (nI m), .int a, .int (nI n), .int (nI c)]) (st' := [.int (nI nc), .int (nI c)]) (M' := mm M f g) (ps := [ob (mm M f g) (ad 10 0) 12, (Value.int (f (ad 10 0) 17)) = .int (nI nc)]) rfl ⟨hM.1, congrArg Value.int ((MD.cel0 hi hf 17 (by decide) (by decide)).trans f17), trivial⟩ ?_
            refine go_icmp rfl (fun (z : nI nc ≤ (nI c)) => absurd z (show ¬ (nI nc ≤ (nI c)) from (Int32.not_le.mpr ((nI_lts (a := c) (b := nc) (by omega) (by omega)).mpr hc)))) (fun _ => ?_)
            refine go_blk 4 [some (.ref (ad 9 24)), some (.int 0)] (pc' := 169) (vs' := [.ref (ad 10 0), .int x1, .int (nI m), .int a, .int (nI n), .int (nI c)]) (st' := [.int 0]) (M' := mm M f g) (ps := [ob (mm M f g) (ad 10 0) 12, mR (mm M f g) (ad 10 0) 24 = some (ad 9 24), va_rf (some (ad 9 24)) = .ref (ad 9 24), ob (mm M f g) (ad 9 24) 13, 13 = 13 ∨ 13 = 14, vp_in (nI c) (mN (mm M f g) (ad 9 24)), (Value.int (f (ad 9 24) ((nI c).toNatClampNeg))) = .int 0]) rfl ⟨hM.1, (hM.r 24 13 7), rfl, (hM.o 24 13 7), (by decide), (vpi (hM.n 24 13 7) (by omega)), congrArg Value.int ((congrArg (fun z => f (ad 9 24) z) (nI_clamp (by omega))).trans ((hf.2.1 c hc).trans (if_pos hfc))), trivial⟩ ?_
            refine go_if rfl (fun (z : ¬ (0 : Int32) = 0) => absurd z (show ¬ (¬ (0 : Int32) = 0) from (by decide))) (fun _ => ?_)
            refine go_blk 8 [some (.ref (ad 9 1)), some (.int (F (ad 9 1) c)), some (.ref (ad 9 8)), some (.int (F (ad 9 8) n))] (pc' := 186) (vs' := [.ref (ad 10 0), .int x1, .int (nI m), .int a, .int (nI n), .int (nI c)]) (st' := [.int (F (ad 9 8) n), .int (F (ad 9 1) c)]) (M' := mm M f g) (ps := [ob (mm M f g) (ad 10 0) 12, mR (mm M f g) (ad 10 0) 1 = some (ad 9 1), va_rf (some (ad 9 1)) = .ref (ad 9 1), ob (mm M f g) (ad 9 1) 15, vp_in (nI c) (mN (mm M f g) (ad 9 1)), (Value.int (f (ad 9 1) ((nI c).toNatClampNeg))) = .int (F (ad 9 1) c), ob (mm M f g) (ad 10 0) 12, mR (mm M f g) (ad 10 0) 8 = some (ad 9 8), va_rf (some (ad 9 8)) = .ref (ad 9 8), ob (mm M f g) (ad 9 8) 15, vp_in (nI n) (mN (mm M f g) (ad 9 8)), (Value.int (f (ad 9 8) ((nI n).toNatClampNeg))) = .int (F (ad 9 8) n)]) rfl ⟨hM.1, (hM.r 1 15 7), rfl, (hM.o 1 15 7), (vpi (hM.n 1 15 7) (by omega)), congrArg Value.int ((congrArg (fun z => f (ad 9 1) z) (nI_clamp (by omega))).trans e1), hM.1, (hM.r 8 15 60), rfl, (hM.o 8 15 60), (vpi (hM.n 8 15 60) (by omega)), congrArg Value.int ((congrArg (fun z => f (ad 9 8) z) (nI_clamp (by omega))).trans e8), trivial⟩ ?_
            refine go_icmp rfl (fun (c1 : (F (ad 9 1) c) < F (ad 9 8) n) => ?_) (fun (c1 : ¬ ((F (ad 9 1) c) < F (ad 9 8) n)) => ?_)
            · -- (F (ad 9 1) c) < F (ad 9 8) n
              refine go_blk 2 [] (pc' := 153) (vs' := [.ref (ad 10 0), .int x1, .int (nI m), .int a, .int (nI n), .int ((nI c) + 1)]) (st' := []) (M' := mm M f g) (ps := []) rfl trivial ?_
              rw [show nI c + 1 = nI (c + 1) from nI_add c 1]
              rw [if_neg (fun z => by have := hokc.mp z.2; grind)] at ihc
              exact ihc f hf
            · -- ¬ ((F (ad 9 1) c) < F (ad 9 8) n)
              refine go_blk 4 [some (.ref (ad 9 14)), some (.int (F (ad 9 14) n))] (pc' := 196) (vs' := [.ref (ad 10 0), .int x1, .int (nI m), .int a, .int (nI n), .int (nI c)]) (st' := [.int (F (ad 9 14) n)]) (M' := mm M f g) (ps := [ob (mm M f g) (ad 10 0) 12, mR (mm M f g) (ad 10 0) 14 = some (ad 9 14), va_rf (some (ad 9 14)) = .ref (ad 9 14), ob (mm M f g) (ad 9 14) 13, 13 = 13 ∨ 13 = 14, vp_in (nI n) (mN (mm M f g) (ad 9 14)), (Value.int (f (ad 9 14) ((nI n).toNatClampNeg))) = .int (F (ad 9 14) n)]) rfl ⟨hM.1, (hM.r 14 13 60), rfl, (hM.o 14 13 60), (by decide), (vpi (hM.n 14 13 60) (by omega)), congrArg Value.int ((congrArg (fun z => f (ad 9 14) z) (nI_clamp (by omega))).trans e14), trivial⟩ ?_
              refine go_if rfl (fun (c2 : (F (ad 9 14) n) = 0) => ?_) (fun (c2 : ¬ ((F (ad 9 14) n) = 0)) => ?_)
              · -- (F (ad 9 14) n) = 0
                refine go_blk 27 [some (.ref (ad 9 24)), some (.ref (ad 9 22)), some (.ref (ad 9 2)), some (.int (F (ad 9 2) c)), some (.ref (ad 9 10)), some (.int (F (ad 9 10) n))] (pc' := 253) (vs' := [.ref (ad 10 0), .int x1, .int (nI m), .int a, .int (nI n), .int (nI c)]) (st' := [.int ((F (ad 9 2) c) - (F (ad 9 10) n)), .int a, .int ((nI m) + 1), .int ((nI n) + 1), .ref (ad 10 0)]) (M' := mm M (up2 (up2 f (ad 9 24) ((nI c).toNatClampNeg) 1) (ad 9 22) ((nI n).toNatClampNeg) (nI c)) g) (ps := [ob (mm M f g) (ad 10 0) 12, mR (mm M f g) (ad 10 0) 24 = some (ad 9 24), va_rf (some (ad 9 24)) = .ref (ad 9 24), ob (mm M f g) (ad 9 24) 13, vp_in (nI c) (mN (mm M f g) (ad 9 24)), ob (mm M (up2 f (ad 9 24) ((nI c).toNatClampNeg) 1) g) (ad 10 0) 12, mR (mm M (up2 f (ad 9 24) ((nI c).toNatClampNeg) 1) g) (ad 10 0) 22 = some (ad 9 22), va_rf (some (ad 9 22)) = .ref (ad 9 22), ob (mm M (up2 f (ad 9 24) ((nI c).toNatClampNeg) 1) g) (ad 9 22) 15, vp_in (nI n) (mN (mm M (up2 f (ad 9 24) ((nI c).toNatClampNeg) 1) g) (ad 9 22)), ob (mm M (up2 (up2 f (ad 9 24) ((nI c).toNatClampNeg) 1) (ad 9 22) ((nI n).toNatClampNeg) (nI c)) g) (ad 10 0) 12, mR (mm M (up2 (up2 f (ad 9 24) ((nI c).toNatClampNeg) 1) (ad 9 22) ((nI n).toNatClampNeg) (nI c)) g) (ad 10 0) 2 = some (ad 9 2), va_rf (some (ad 9 2)) = .ref (ad 9 2), ob (mm M (up2 (up2 f (ad 9 24) ((nI c).toNatClampNeg) 1) (ad 9 22) ((nI n).toNatClampNeg) (nI c)) g) (ad 9 2) 15, vp_in (nI c) (mN (mm M (up2 (up2 f (ad 9 24) ((nI c).toNatClampNeg) 1) (ad 9 22) ((nI n).toNatClampNeg) (nI c)) g) (ad 9 2)), (Value.int ((up2 (up2 f (ad 9 24) ((nI c).toNatClampNeg) 1) (ad 9 22) ((nI n).toNatClampNeg) (nI c)) (ad 9 2) ((nI c).toNatClampNeg))) = .int (F (ad 9 2) c), ob (mm M (up2 (up2 f (ad 9 24) ((nI c).toNatClampNeg) 1) (ad 9 22) ((nI n).toNatClampNeg) (nI c)) g) (ad 10 0) 12, mR (mm M (up2 (up2 f (ad 9 24) ((nI c).toNatClampNeg) 1) (ad 9 22) ((nI n).toNatClampNeg) (nI c)) g) (ad 10 0) 10 = some (ad 9 10), va_rf (some (ad 9 10)) = .ref (ad 9 10), ob (mm M (up2 (up2 f (ad 9 24) ((nI c).toNatClampNeg) 1) (ad 9 22) ((nI n).toNatClampNeg) (nI c)) g) (ad 9 10) 15, vp_in (nI n) (mN (mm M (up2 (up2 f (ad 9 24) ((nI c).toNatClampNeg) 1) (ad 9 22) ((nI n).toNatClampNeg) (nI c)) g) (ad 9 10)), (Value.int ((up2 (up2 f (ad 9 24) ((nI c).toNatClampNeg) 1) (ad 9 22) ((nI n).toNatClampNeg) (nI c)) (ad 9 10) ((nI n).toNatClampNeg))) = .int (F (ad 9 10) n)]) rfl ⟨hM.1, (hM.r 24 13 7), rfl, (hM.o 24 13 7), (vpi (hM.n 24 13 7) (by omega)), hM.1, (hM.r 22 15 60), rfl, (hM.o 22 15 60), (vpi (hM.n 22 15 60) (by omega)), hM.1, (hM.r 2 15 7), rfl, (hM.o 2 15 7), (vpi (hM.n 2 15 7) (by omega)), congrArg Value.int ((congrArg (fun z => (up2 (up2 f (ad 9 24) ((nI c).toNatClampNeg) 1) (ad 9 22) ((nI n).toNatClampNeg) (nI c)) (ad 9 2) z) (nI_clamp (by omega))).trans (((up2_n _ _ (fun z => absurd (hi _ _ _ _ z.1).2 (by decide))).trans ((up2_n _ _ (fun z => absurd (hi _ _ _ _ z.1).2 (by decide))).trans (rfl))).trans e2)), hM.1, (hM.r 10 15 60), rfl, (hM.o 10 15 60), (vpi (hM.n 10 15 60) (by omega)), congrArg Value.int ((congrArg (fun z => (up2 (up2 f (ad 9 24) ((nI c).toNatClampNeg) 1) (ad 9 22) ((nI n).toNatClampNeg) (nI c)) (ad 9 10) z) (nI_clamp (by omega))).trans (((up2_n _ _ (fun z => absurd (hi _ _ _ _ z.1).2 (by decide))).trans ((up2_n _ _ (fun z => absurd (hi _ _ _ _ z.1).2 (by decide))).trans (rfl))).trans e10)), trivial⟩ ?_
                rw [nI_clamp (n := c) (by omega)]
                rw [nI_clamp (n := n) (by omega)]
                refine go_callS rfl (by decide) rfl rfl (by omega) rfl (by decide) (by decide) ?_
                refine s_JM_abs (by omega) ⟨ne_i, ?_⟩
                show Go d 197 0 0 256 [.ref (ad 10 0), .int x1, .int (nI m), .int a, .int (nI n), .int (nI c)] [.int (if 0 ≤ (F (ad 9 2) c) - (F (ad 9 10) n) then (F (ad 9 2) c) - (F (ad 9 10) n) else -((F (ad 9 2) c) - (F (ad 9 10) n))), .int a, .int ((nI m) + 1), .int ((nI n) + 1), .ref (ad 10 0)] (mm M (up2 (up2 f (ad 9 24) (c) 1) (ad 9 22) (n) (nI c)) g) R
                refine go_blk 1 [] (pc' := 257) (vs' := [.ref (ad 10 0), .int x1, .int (nI m), .int a, .int (nI n), .int (nI c)]) (st' := [.int (a + (if 0 ≤ (F (ad 9 2) c) - (F (ad 9 10) n) then (F (ad 9 2) c) - (F (ad 9 10) n) else -((F (ad 9 2) c) - (F (ad 9 10) n)))), .int ((nI m) + 1), .int ((nI n) + 1), .ref (ad 10 0)]) (M' := mm M (up2 (up2 f (ad 9 24) (c) 1) (ad 9 22) (n) (nI c)) g) (ps := []) rfl trivial ?_
                have hoc : ok c n = true := hokc.mpr (by grind)
                rw [if_pos ⟨hfc, hoc⟩] at ihc
                have hq := MD.none (v := nI c) hi (MD.full (c := c) (v := 1) (fr' := va_up fr c false) hi hf (by rw [va_s]; rfl) (fun j hj => va_n _ _ hj))
                rw [hds c n, show nI n + 1 = nI (n + 1) from nI_add n 1, show nI m + 1 = nI (m + 1) from nI_add m 1]
                refine go_callV rfl rfl rfl (by omega) rfl (by decide) (by decide) hM.1 ?_
                refine hi1 (d - 1) _ (va_up fr c false) (m + 1) (a + ds c n) (va_up acc n (nI c)) _ _ (by omega) (by omega) (hB2 c (by omega)) (fun j hj => by rw [va_n _ _ (by omega)]; exact hacc j (by omega)) hq (fun f' hf' => ⟨ne_v, ?_⟩)
                have hb2 := MD.less (acc := acc) (MD.full (c := c) (v := 0) (fr' := fr) hi hf' (by rw [hfc]; rfl) (fun j hj => (va_n _ _ hj).symm)) (show n ≤ n + 1 by omega) (fun k hk => va_n _ _ (by omega))
                show Go d 197 0 0 260 [.ref (ad 10 0), .int x1, .int (nI m), .int a, .int (nI n), .int (nI c)] [] (mm M f' g) R
                refine go_blk 7 [some (.ref (ad 9 24))] (pc' := 153) (vs' := [.ref (ad 10 0), .int x1, .int (nI m), .int a, .int (nI n), .int ((nI c) + 1)]) (st' := []) (M' := mm M (up2 f' (ad 9 24) ((nI c).toNatClampNeg) 0) g) (ps := [ob (mm M f' g) (ad 10 0) 12, mR (mm M f' g) (ad 10 0) 24 = some (ad 9 24), va_rf (some (ad 9 24)) = .ref (ad 9 24), ob (mm M f' g) (ad 9 24) 13, vp_in (nI c) (mN (mm M f' g) (ad 9 24))]) rfl ⟨hM.1, (hM.r 24 13 7), rfl, (hM.o 24 13 7), (vpi (hM.n 24 13 7) (by omega)), trivial⟩ ?_
                rw [nI_clamp (n := c) (by omega)]
                rw [show nI c + 1 = nI (c + 1) from nI_add c 1]
                exact ihc _ hb2
              · -- ¬ ((F (ad 9 14) n) = 0)
                refine go_blk 4 [some (.ref (ad 9 4)), some (.int (F (ad 9 4) c))] (pc' := 206) (vs' := [.ref (ad 10 0), .int x1, .int (nI m), .int a, .int (nI n), .int (nI c)]) (st' := [.int (F (ad 9 4) c)]) (M' := mm M f g) (ps := [ob (mm M f g) (ad 10 0) 12, mR (mm M f g) (ad 10 0) 4 = some (ad 9 4), va_rf (some (ad 9 4)) = .ref (ad 9 4), ob (mm M f g) (ad 9 4) 13, 13 = 13 ∨ 13 = 14, vp_in (nI c) (mN (mm M f g) (ad 9 4)), (Value.int (f (ad 9 4) ((nI c).toNatClampNeg))) = .int (F (ad 9 4) c)]) rfl ⟨hM.1, (hM.r 4 13 7), rfl, (hM.o 4 13 7), (by decide), (vpi (hM.n 4 13 7) (by omega)), congrArg Value.int ((congrArg (fun z => f (ad 9 4) z) (nI_clamp (by omega))).trans e4), trivial⟩ ?_
                refine go_if rfl (fun (c3 : ¬ (F (ad 9 4) c) = 0) => ?_) (fun (c3 : ¬ (¬ (F (ad 9 4) c) = 0)) => ?_)
                · -- ¬ (F (ad 9 4) c) = 0
                  refine go_blk 27 [some (.ref (ad 9 24)), some (.ref (ad 9 22)), some (.ref (ad 9 2)), some (.int (F (ad 9 2) c)), some (.ref (ad 9 10)), some (.int (F (ad 9 10) n))] (pc' := 253) (vs' := [.ref (ad 10 0), .int x1, .int (nI m), .int a, .int (nI n), .int (nI c)]) (st' := [.int ((F (ad 9 2) c) - (F (ad 9 10) n)), .int a, .int ((nI m) + 1), .int ((nI n) + 1), .ref (ad 10 0)]) (M' := mm M (up2 (up2 f (ad 9 24) ((nI c).toNatClampNeg) 1) (ad 9 22) ((nI n).toNatClampNeg) (nI c)) g) (ps := [ob (mm M f g) (ad 10 0) 12, mR (mm M f g) (ad 10 0) 24 = some (ad 9 24), va_rf (some (ad 9 24)) = .ref (ad 9 24), ob (mm M f g) (ad 9 24) 13, vp_in (nI c) (mN (mm M f g) (ad 9 24)), ob (mm M (up2 f (ad 9 24) ((nI c).toNatClampNeg) 1) g) (ad 10 0) 12, mR (mm M (up2 f (ad 9 24) ((nI c).toNatClampNeg) 1) g) (ad 10 0) 22 = some (ad 9 22), va_rf (some (ad 9 22)) = .ref (ad 9 22), ob (mm M (up2 f (ad 9 24) ((nI c).toNatClampNeg) 1) g) (ad 9 22) 15, vp_in (nI n) (mN (mm M (up2 f (ad 9 24) ((nI c).toNatClampNeg) 1) g) (ad 9 22)), ob (mm M (up2 (up2 f (ad 9 24) ((nI c).toNatClampNeg) 1) (ad 9 22) ((nI n).toNatClampNeg) (nI c)) g) (ad 10 0) 12, mR (mm M (up2 (up2 f (ad 9 24) ((nI c).toNatClampNeg) 1) (ad 9 22) ((nI n).toNatClampNeg) (nI c)) g) (ad 10 0) 2 = some (ad 9 2), va_rf (some (ad 9 2)) = .ref (ad 9 2), ob (mm M (up2 (up2 f (ad 9 24) ((nI c).toNatClampNeg) 1) (ad 9 22) ((nI n).toNatClampNeg) (nI c)) g) (ad 9 2) 15, vp_in (nI c) (mN (mm M (up2 (up2 f (ad 9 24) ((nI c).toNatClampNeg) 1) (ad 9 22) ((nI n).toNatClampNeg) (nI c)) g) (ad 9 2)), (Value.int ((up2 (up2 f (ad 9 24) ((nI c).toNatClampNeg) 1) (ad 9 22) ((nI n).toNatClampNeg) (nI c)) (ad 9 2) ((nI c).toNatClampNeg))) = .int (F (ad 9 2) c), ob (mm M (up2 (up2 f (ad 9 24) ((nI c).toNatClampNeg) 1) (ad 9 22) ((nI n).toNatClampNeg) (nI c)) g) (ad 10 0) 12, mR (mm M (up2 (up2 f (ad 9 24) ((nI c).toNatClampNeg) 1) (ad 9 22) ((nI n).toNatClampNeg) (nI c)) g) (ad 10 0) 10 = some (ad 9 10), va_rf (some (ad 9 10)) = .ref (ad 9 10), ob (mm M (up2 (up2 f (ad 9 24) ((nI c).toNatClampNeg) 1) (ad 9 22) ((nI n).toNatClampNeg) (nI c)) g) (ad 9 10) 15, vp_in (nI n) (mN (mm M (up2 (up2 f (ad 9 24) ((nI c).toNatClampNeg) 1) (ad 9 22) ((nI n).toNatClampNeg) (nI c)) g) (ad 9 10)), (Value.int ((up2 (up2 f (ad 9 24) ((nI c).toNatClampNeg) 1) (ad 9 22) ((nI n).toNatClampNeg) (nI c)) (ad 9 10) ((nI n).toNatClampNeg))) = .int (F (ad 9 10) n)]) rfl ⟨hM.1, (hM.r 24 13 7), rfl, (hM.o 24 13 7), (vpi (hM.n 24 13 7) (by omega)), hM.1, (hM.r 22 15 60), rfl, (hM.o 22 15 60), (vpi (hM.n 22 15 60) (by omega)), hM.1, (hM.r 2 15 7), rfl, (hM.o 2 15 7), (vpi (hM.n 2 15 7) (by omega)), congrArg Value.int ((congrArg (fun z => (up2 (up2 f (ad 9 24) ((nI c).toNatClampNeg) 1) (ad 9 22) ((nI n).toNatClampNeg) (nI c)) (ad 9 2) z) (nI_clamp (by omega))).trans (((up2_n _ _ (fun z => absurd (hi _ _ _ _ z.1).2 (by decide))).trans ((up2_n _ _ (fun z => absurd (hi _ _ _ _ z.1).2 (by decide))).trans (rfl))).trans e2)), hM.1, (hM.r 10 15 60), rfl, (hM.o 10 15 60), (vpi (hM.n 10 15 60) (by omega)), congrArg Value.int ((congrArg (fun z => (up2 (up2 f (ad 9 24) ((nI c).toNatClampNeg) 1) (ad 9 22) ((nI n).toNatClampNeg) (nI c)) (ad 9 10) z) (nI_clamp (by omega))).trans (((up2_n _ _ (fun z => absurd (hi _ _ _ _ z.1).2 (by decide))).trans ((up2_n _ _ (fun z => absurd (hi _ _ _ _ z.1).2 (by decide))).trans (rfl))).trans e10)), trivial⟩ ?_
                  rw [nI_clamp (n := c) (by omega)]
                  rw [nI_clamp (n := n) (by omega)]
                  refine go_callS rfl (by decide) rfl rfl (by omega) rfl (by decide) (by decide) ?_
                  refine s_JM_abs (by omega) ⟨ne_i, ?_⟩
                  show Go d 197 0 0 256 [.ref (ad 10 0), .int x1, .int (nI m), .int a, .int (nI n), .int (nI c)] [.int (if 0 ≤ (F (ad 9 2) c) - (F (ad 9 10) n) then (F (ad 9 2) c) - (F (ad 9 10) n) else -((F (ad 9 2) c) - (F (ad 9 10) n))), .int a, .int ((nI m) + 1), .int ((nI n) + 1), .ref (ad 10 0)] (mm M (up2 (up2 f (ad 9 24) (c) 1) (ad 9 22) (n) (nI c)) g) R
                  refine go_blk 1 [] (pc' := 257) (vs' := [.ref (ad 10 0), .int x1, .int (nI m), .int a, .int (nI n), .int (nI c)]) (st' := [.int (a + (if 0 ≤ (F (ad 9 2) c) - (F (ad 9 10) n) then (F (ad 9 2) c) - (F (ad 9 10) n) else -((F (ad 9 2) c) - (F (ad 9 10) n)))), .int ((nI m) + 1), .int ((nI n) + 1), .ref (ad 10 0)]) (M' := mm M (up2 (up2 f (ad 9 24) (c) 1) (ad 9 22) (n) (nI c)) g) (ps := []) rfl trivial ?_
                  have hoc : ok c n = true := hokc.mpr (by grind)
                  rw [if_pos ⟨hfc, hoc⟩] at ihc
                  have hq := MD.none (v := nI c) hi (MD.full (c := c) (v := 1) (fr' := va_up fr c false) hi hf (by rw [va_s]; rfl) (fun j hj => va_n _ _ hj))
                  rw [hds c n, show nI n + 1 = nI (n + 1) from nI_add n 1, show nI m + 1 = nI (m + 1) from nI_add m 1]
                  refine go_callV rfl rfl rfl (by omega) rfl (by decide) (by decide) hM.1 ?_
                  refine hi1 (d - 1) _ (va_up fr c false) (m + 1) (a + ds c n) (va_up acc n (nI c)) _ _ (by omega) (by omega) (hB2 c (by omega)) (fun j hj => by rw [va_n _ _ (by omega)]; exact hacc j (by omega)) hq (fun f' hf' => ⟨ne_v, ?_⟩)
                  have hb2 := MD.less (acc := acc) (MD.full (c := c) (v := 0) (fr' := fr) hi hf' (by rw [hfc]; rfl) (fun j hj => (va_n _ _ hj).symm)) (show n ≤ n + 1 by omega) (fun k hk => va_n _ _ (by omega))
                  show Go d 197 0 0 260 [.ref (ad 10 0), .int x1, .int (nI m), .int a, .int (nI n), .int (nI c)] [] (mm M f' g) R
                  refine go_blk 7 [some (.ref (ad 9 24))] (pc' := 153) (vs' := [.ref (ad 10 0), .int x1, .int (nI m), .int a, .int (nI n), .int ((nI c) + 1)]) (st' := []) (M' := mm M (up2 f' (ad 9 24) ((nI c).toNatClampNeg) 0) g) (ps := [ob (mm M f' g) (ad 10 0) 12, mR (mm M f' g) (ad 10 0) 24 = some (ad 9 24), va_rf (some (ad 9 24)) = .ref (ad 9 24), ob (mm M f' g) (ad 9 24) 13, vp_in (nI c) (mN (mm M f' g) (ad 9 24))]) rfl ⟨hM.1, (hM.r 24 13 7), rfl, (hM.o 24 13 7), (vpi (hM.n 24 13 7) (by omega)), trivial⟩ ?_
                  rw [nI_clamp (n := c) (by omega)]
                  rw [show nI c + 1 = nI (c + 1) from nI_add c 1]
                  exact ihc _ hb2
                · -- ¬ (¬ (F (ad 9 4) c) = 0)
                  refine go_blk 3 [] (pc' := 153) (vs' := [.ref (ad 10 0), .int x1, .int (nI m), .int a, .int (nI n), .int ((nI c) + 1)]) (st' := []) (M' := mm M f g) (ps := []) rfl trivial ?_
                  rw [show nI c + 1 = nI (c + 1) from nI_add c 1]
                  rw [if_neg (fun z => by have := hokc.mp z.2; grind)] at ihc
                  exact ihc f hf
          ·
            show Go d 197 0 0 153 [.ref (ad 10 0), .int x1, .int (nI m), .int a, .int (nI n), .int (nI c)] [] (mm M f g) R
            refine go_blk 3 [some (.int (nI nc))] (pc' := 159) (vs' := [.ref (ad 10 0), .int x1, .int (nI m), .int a, .int (nI n), .int (nI c)]) (st' := [.int (nI nc), .int (nI c)]) (M' := mm M f g) (ps := [ob (mm M f g) (ad 10 0) 12, (Value.int (f (ad 10 0) 17)) = .int (nI nc)]) rfl ⟨hM.1, congrArg Value.int ((MD.cel0 hi hf 17 (by decide) (by decide)).trans f17), trivial⟩ ?_
            refine go_icmp rfl (fun (z : nI nc ≤ (nI c)) => absurd z (show ¬ (nI nc ≤ (nI c)) from (Int32.not_le.mpr ((nI_lts (a := c) (b := nc) (by omega) (by omega)).mpr hc)))) (fun _ => ?_)
            refine go_blk 4 [some (.ref (ad 9 24)), some (.int 1)] (pc' := 169) (vs' := [.ref (ad 10 0), .int x1, .int (nI m), .int a, .int (nI n), .int (nI c)]) (st' := [.int 1]) (M' := mm M f g) (ps := [ob (mm M f g) (ad 10 0) 12, mR (mm M f g) (ad 10 0) 24 = some (ad 9 24), va_rf (some (ad 9 24)) = .ref (ad 9 24), ob (mm M f g) (ad 9 24) 13, 13 = 13 ∨ 13 = 14, vp_in (nI c) (mN (mm M f g) (ad 9 24)), (Value.int (f (ad 9 24) ((nI c).toNatClampNeg))) = .int 1]) rfl ⟨hM.1, (hM.r 24 13 7), rfl, (hM.o 24 13 7), (by decide), (vpi (hM.n 24 13 7) (by omega)), congrArg Value.int ((congrArg (fun z => f (ad 9 24) z) (nI_clamp (by omega))).trans ((hf.2.1 c hc).trans (if_neg hfc))), trivial⟩ ?_
            refine go_if rfl (fun _ => ?_) (fun (z : ¬ (¬ (1 : Int32) = 0)) => absurd (show ¬ (1 : Int32) = 0 from (by decide)) z)
            refine go_blk 2 [] (pc' := 153) (vs' := [.ref (ad 10 0), .int x1, .int (nI m), .int a, .int (nI n), .int ((nI c) + 1)]) (st' := []) (M' := mm M f g) (ps := []) rfl trivial ?_
            rw [show nI c + 1 = nI (c + 1) from nI_add c 1]
            rw [if_neg (fun z => hfc z.1)] at ihc
            exact ihc f hf
      show Go d 197 0 0 3 [.ref (ad 10 0), .int x1, .int (nI m), .int a, .int (nI n), u5] [] (mm M f g) R
      refine go_blk 3 [some (.int (nI nb))] (pc' := 9) (vs' := [.ref (ad 10 0), .int x1, .int (nI m), .int a, .int (nI n), u5]) (st' := [.int (nI nb), .int (nI n)]) (M' := mm M f g) (ps := [ob (mm M f g) (ad 10 0) 12, (Value.int (f (ad 10 0) 18)) = .int (nI nb)]) rfl ⟨hM.1, congrArg Value.int ((MD.cel0 hi hf 18 (by decide) (by decide)).trans f18), trivial⟩ ?_
      refine go_icmp rfl (fun (z : nI nb ≤ (nI n)) => absurd z (show ¬ (nI nb ≤ (nI n)) from (Int32.not_le.mpr ((nI_lts (a := n) (b := nb) (by omega) (by omega)).mpr hlt)))) (fun _ => ?_)
      refine go_blk 4 [some (.ref (ad 9 15)), some (.int (F (ad 9 15) n))] (pc' := 19) (vs' := [.ref (ad 10 0), .int x1, .int (nI m), .int a, .int (nI n), u5]) (st' := [.int (F (ad 9 15) n)]) (M' := mm M f g) (ps := [ob (mm M f g) (ad 10 0) 12, mR (mm M f g) (ad 10 0) 15 = some (ad 9 15), va_rf (some (ad 9 15)) = .ref (ad 9 15), ob (mm M f g) (ad 9 15) 13, 13 = 13 ∨ 13 = 14, vp_in (nI n) (mN (mm M f g) (ad 9 15)), (Value.int (f (ad 9 15) ((nI n).toNatClampNeg))) = .int (F (ad 9 15) n)]) rfl ⟨hM.1, (hM.r 15 13 60), rfl, (hM.o 15 13 60), (by decide), (vpi (hM.n 15 13 60) (by omega)), congrArg Value.int ((congrArg (fun z => f (ad 9 15) z) (nI_clamp (by omega))).trans e15), trivial⟩ ?_
      refine go_if rfl (fun (c1 : (F (ad 9 15) n) = 0) => ?_) (fun (c1 : ¬ ((F (ad 9 15) n) = 0)) => ?_)
      · -- (F (ad 9 15) n) = 0
        exact absurd (hpn.mp hpp) (by grind)
      · -- ¬ ((F (ad 9 15) n) = 0)
        refine go_blk 6 [some (.ref (ad 9 7)), some (.int (F (ad 9 7) n)), some (.int (nI w))] (pc' := 33) (vs' := [.ref (ad 10 0), .int x1, .int (nI m), .int a, .int (nI n), u5]) (st' := [.int (nI w), .int (F (ad 9 7) n)]) (M' := mm M f g) (ps := [ob (mm M f g) (ad 10 0) 12, mR (mm M f g) (ad 10 0) 7 = some (ad 9 7), va_rf (some (ad 9 7)) = .ref (ad 9 7), ob (mm M f g) (ad 9 7) 15, vp_in (nI n) (mN (mm M f g) (ad 9 7)), (Value.int (f (ad 9 7) ((nI n).toNatClampNeg))) = .int (F (ad 9 7) n), ob (mm M f g) (ad 10 0) 12, (Value.int (f (ad 10 0) 25)) = .int (nI w)]) rfl ⟨hM.1, (hM.r 7 15 60), rfl, (hM.o 7 15 60), (vpi (hM.n 7 15 60) (by omega)), congrArg Value.int ((congrArg (fun z => f (ad 9 7) z) (nI_clamp (by omega))).trans e7), hM.1, congrArg Value.int ((MD.cel0 hi hf 25 (by decide) (by decide)).trans f25), trivial⟩ ?_
        refine go_icmp rfl (fun (c2 : ¬ (F (ad 9 7) n) = nI w) => ?_) (fun (c2 : ¬ (¬ (F (ad 9 7) n) = nI w)) => ?_)
        · -- ¬ (F (ad 9 7) n) = nI w
          exact absurd (hpn.mp hpp) (by grind)
        · -- ¬ (¬ (F (ad 9 7) n) = nI w)
          refine go_blk 12 [some (.ref (ad 9 5)), some (.int (nI w)), some (.ref (ad 9 6)), some (.int (nI c0)), some (.int (F (ad 9 5) (7 * w + c0)))] (pc' := 56) (vs' := [.ref (ad 10 0), .int x1, .int (nI m), .int a, .int (nI n), u5]) (st' := [.int (F (ad 9 5) (7 * w + c0))]) (M' := mm M f g) (ps := [ob (mm M f g) (ad 10 0) 12, mR (mm M f g) (ad 10 0) 5 = some (ad 9 5), va_rf (some (ad 9 5)) = .ref (ad 9 5), ob (mm M f g) (ad 10 0) 12, (Value.int (f (ad 10 0) 25)) = .int (nI w), ob (mm M f g) (ad 10 0) 12, mR (mm M f g) (ad 10 0) 6 = some (ad 9 6), va_rf (some (ad 9 6)) = .ref (ad 9 6), ob (mm M f g) (ad 9 6) 15, vp_in (nI n) (mN (mm M f g) (ad 9 6)), (Value.int (f (ad 9 6) ((nI n).toNatClampNeg))) = .int (nI c0), ob (mm M f g) (ad 9 5) 13, 13 = 13 ∨ 13 = 14, vp_in ((7 * (nI w)) + (nI c0)) (mN (mm M f g) (ad 9 5)), (Value.int (f (ad 9 5) (((7 * (nI w)) + (nI c0)).toNatClampNeg))) = .int (F (ad 9 5) (7 * w + c0))]) rfl ⟨hM.1, (hM.r 5 13 364), rfl, hM.1, congrArg Value.int ((MD.cel0 hi hf 25 (by decide) (by decide)).trans f25), hM.1, (hM.r 6 15 60), rfl, (hM.o 6 15 60), (vpi (hM.n 6 15 60) (by omega)), congrArg Value.int ((congrArg (fun z => f (ad 9 6) z) (nI_clamp (by omega))).trans e6), (hM.o 5 13 364), (by decide), (vp_eq (eq_add (eq_mul (show (7 : Int32) = nI 7 from rfl) rfl) rfl) (vpi (hM.n 5 13 364) (by omega))), congrArg Value.int ((congrArg (fun z => f (ad 9 5) z) (cl_of (eq_add (eq_mul (show (7 : Int32) = nI 7 from rfl) rfl) rfl) (by omega))).trans e5), trivial⟩ ?_
          refine go_if rfl (fun (c3 : ¬ (F (ad 9 5) (7 * w + c0)) = 0) => ?_) (fun (c3 : ¬ (¬ (F (ad 9 5) (7 * w + c0)) = 0)) => ?_)
          · -- ¬ (F (ad 9 5) (7 * w + c0)) = 0
            refine go_blk 3 [some (.int (nI nb))] (pc' := 79) (vs' := [.ref (ad 10 0), .int x1, .int (nI m), .int a, .int (nI n), u5]) (st' := [.int (nI nb), .int (nI n)]) (M' := mm M f g) (ps := [ob (mm M f g) (ad 10 0) 12, (Value.int (f (ad 10 0) 18)) = .int (nI nb)]) rfl ⟨hM.1, congrArg Value.int ((MD.cel0 hi hf 18 (by decide) (by decide)).trans f18), trivial⟩ ?_
            refine go_icmp rfl (fun _ => ?_) (fun (z : ¬ (¬ (nI n) = nI nb)) => absurd (show ¬ (nI n) = nI nb from (fun z => absurd ((nI_eqs (a := n) (b := nb) (by omega) (by omega)).mp z) (by omega))) z)
            refine go_blk 2 [] (pc' := 153) (vs' := [.ref (ad 10 0), .int x1, .int (nI m), .int a, .int (nI n), .int 0]) (st' := []) (M' := mm M f g) (ps := []) rfl trivial ?_
            exact loop 0 (Nat.zero_le _) f hf
          · -- ¬ (¬ (F (ad 9 5) (7 * w + c0)) = 0)
            exact absurd (hpn.mp hpp) (by grind)
    · rw [if_neg hpp] at hR
      show Go d 197 0 0 3 [.ref (ad 10 0), .int x1, .int (nI m), .int a, .int (nI n), u5] [] (mm M f g) R
      refine go_blk 3 [some (.int (nI nb))] (pc' := 9) (vs' := [.ref (ad 10 0), .int x1, .int (nI m), .int a, .int (nI n), u5]) (st' := [.int (nI nb), .int (nI n)]) (M' := mm M f g) (ps := [ob (mm M f g) (ad 10 0) 12, (Value.int (f (ad 10 0) 18)) = .int (nI nb)]) rfl ⟨hM.1, congrArg Value.int ((MD.cel0 hi hf 18 (by decide) (by decide)).trans f18), trivial⟩ ?_
      refine go_icmp rfl (fun (z : nI nb ≤ (nI n)) => absurd z (show ¬ (nI nb ≤ (nI n)) from (Int32.not_le.mpr ((nI_lts (a := n) (b := nb) (by omega) (by omega)).mpr hlt)))) (fun _ => ?_)
      refine go_blk 4 [some (.ref (ad 9 15)), some (.int (F (ad 9 15) n))] (pc' := 19) (vs' := [.ref (ad 10 0), .int x1, .int (nI m), .int a, .int (nI n), u5]) (st' := [.int (F (ad 9 15) n)]) (M' := mm M f g) (ps := [ob (mm M f g) (ad 10 0) 12, mR (mm M f g) (ad 10 0) 15 = some (ad 9 15), va_rf (some (ad 9 15)) = .ref (ad 9 15), ob (mm M f g) (ad 9 15) 13, 13 = 13 ∨ 13 = 14, vp_in (nI n) (mN (mm M f g) (ad 9 15)), (Value.int (f (ad 9 15) ((nI n).toNatClampNeg))) = .int (F (ad 9 15) n)]) rfl ⟨hM.1, (hM.r 15 13 60), rfl, (hM.o 15 13 60), (by decide), (vpi (hM.n 15 13 60) (by omega)), congrArg Value.int ((congrArg (fun z => f (ad 9 15) z) (nI_clamp (by omega))).trans e15), trivial⟩ ?_
      refine go_if rfl (fun (c1 : (F (ad 9 15) n) = 0) => ?_) (fun (c1 : ¬ ((F (ad 9 15) n) = 0)) => ?_)
      · -- (F (ad 9 15) n) = 0
        refine go_blk 7 [some (.ref (ad 9 22))] (pc' := 3) (vs' := [.ref (ad 10 0), .int x1, .int (nI m), .int a, .int ((nI n) + 1), u5]) (st' := []) (M' := mm M (up2 f (ad 9 22) ((nI n).toNatClampNeg) (-1)) g) (ps := [ob (mm M f g) (ad 10 0) 12, mR (mm M f g) (ad 10 0) 22 = some (ad 9 22), va_rf (some (ad 9 22)) = .ref (ad 9 22), ob (mm M f g) (ad 9 22) 15, vp_in (nI n) (mN (mm M f g) (ad 9 22))]) rfl ⟨hM.1, (hM.r 22 15 60), rfl, (hM.o 22 15 60), (vpi (hM.n 22 15 60) (by omega)), trivial⟩ ?_
        rw [nI_clamp (n := n) (by omega)]
        rw [show nI n + 1 = nI (n + 1) from nI_add n 1]
        have hz := MD.none (v := -1) hi hf
        have ea : va_up acc n (-1) = acc := by
          funext j
          by_cases z : j = n
          · rw [z, va_s]; exact (hacc n (Nat.le_refl _)).symm
          · exact va_n _ _ z
        rw [ea] at hz
        exact ih (n + 1) (by omega) d _ fr m a acc B R _ _ (by omega) (by omega) hB1 (fun j hj => hacc j (by omega)) hz (fun f' hf' => hR f' (MD.less hf' (by omega) (fun _ _ => rfl)))
      · -- ¬ ((F (ad 9 15) n) = 0)
        refine go_blk 6 [some (.ref (ad 9 7)), some (.int (F (ad 9 7) n)), some (.int (nI w))] (pc' := 33) (vs' := [.ref (ad 10 0), .int x1, .int (nI m), .int a, .int (nI n), u5]) (st' := [.int (nI w), .int (F (ad 9 7) n)]) (M' := mm M f g) (ps := [ob (mm M f g) (ad 10 0) 12, mR (mm M f g) (ad 10 0) 7 = some (ad 9 7), va_rf (some (ad 9 7)) = .ref (ad 9 7), ob (mm M f g) (ad 9 7) 15, vp_in (nI n) (mN (mm M f g) (ad 9 7)), (Value.int (f (ad 9 7) ((nI n).toNatClampNeg))) = .int (F (ad 9 7) n), ob (mm M f g) (ad 10 0) 12, (Value.int (f (ad 10 0) 25)) = .int (nI w)]) rfl ⟨hM.1, (hM.r 7 15 60), rfl, (hM.o 7 15 60), (vpi (hM.n 7 15 60) (by omega)), congrArg Value.int ((congrArg (fun z => f (ad 9 7) z) (nI_clamp (by omega))).trans e7), hM.1, congrArg Value.int ((MD.cel0 hi hf 25 (by decide) (by decide)).trans f25), trivial⟩ ?_
        refine go_icmp rfl (fun (c2 : ¬ (F (ad 9 7) n) = nI w) => ?_) (fun (c2 : ¬ (¬ (F (ad 9 7) n) = nI w)) => ?_)
        · -- ¬ (F (ad 9 7) n) = nI w
          refine go_blk 7 [some (.ref (ad 9 22))] (pc' := 3) (vs' := [.ref (ad 10 0), .int x1, .int (nI m), .int a, .int ((nI n) + 1), u5]) (st' := []) (M' := mm M (up2 f (ad 9 22) ((nI n).toNatClampNeg) (-1)) g) (ps := [ob (mm M f g) (ad 10 0) 12, mR (mm M f g) (ad 10 0) 22 = some (ad 9 22), va_rf (some (ad 9 22)) = .ref (ad 9 22), ob (mm M f g) (ad 9 22) 15, vp_in (nI n) (mN (mm M f g) (ad 9 22))]) rfl ⟨hM.1, (hM.r 22 15 60), rfl, (hM.o 22 15 60), (vpi (hM.n 22 15 60) (by omega)), trivial⟩ ?_
          rw [nI_clamp (n := n) (by omega)]
          rw [show nI n + 1 = nI (n + 1) from nI_add n 1]
          have hz := MD.none (v := -1) hi hf
          have ea : va_up acc n (-1) = acc := by
            funext j
            by_cases z : j = n
            · rw [z, va_s]; exact (hacc n (Nat.le_refl _)).symm
            · exact va_n _ _ z
          rw [ea] at hz
          exact ih (n + 1) (by omega) d _ fr m a acc B R _ _ (by omega) (by omega) hB1 (fun j hj => hacc j (by omega)) hz (fun f' hf' => hR f' (MD.less hf' (by omega) (fun _ _ => rfl)))
        · -- ¬ (¬ (F (ad 9 7) n) = nI w)
          refine go_blk 12 [some (.ref (ad 9 5)), some (.int (nI w)), some (.ref (ad 9 6)), some (.int (nI c0)), some (.int (F (ad 9 5) (7 * w + c0)))] (pc' := 56) (vs' := [.ref (ad 10 0), .int x1, .int (nI m), .int a, .int (nI n), u5]) (st' := [.int (F (ad 9 5) (7 * w + c0))]) (M' := mm M f g) (ps := [ob (mm M f g) (ad 10 0) 12, mR (mm M f g) (ad 10 0) 5 = some (ad 9 5), va_rf (some (ad 9 5)) = .ref (ad 9 5), ob (mm M f g) (ad 10 0) 12, (Value.int (f (ad 10 0) 25)) = .int (nI w), ob (mm M f g) (ad 10 0) 12, mR (mm M f g) (ad 10 0) 6 = some (ad 9 6), va_rf (some (ad 9 6)) = .ref (ad 9 6), ob (mm M f g) (ad 9 6) 15, vp_in (nI n) (mN (mm M f g) (ad 9 6)), (Value.int (f (ad 9 6) ((nI n).toNatClampNeg))) = .int (nI c0), ob (mm M f g) (ad 9 5) 13, 13 = 13 ∨ 13 = 14, vp_in ((7 * (nI w)) + (nI c0)) (mN (mm M f g) (ad 9 5)), (Value.int (f (ad 9 5) (((7 * (nI w)) + (nI c0)).toNatClampNeg))) = .int (F (ad 9 5) (7 * w + c0))]) rfl ⟨hM.1, (hM.r 5 13 364), rfl, hM.1, congrArg Value.int ((MD.cel0 hi hf 25 (by decide) (by decide)).trans f25), hM.1, (hM.r 6 15 60), rfl, (hM.o 6 15 60), (vpi (hM.n 6 15 60) (by omega)), congrArg Value.int ((congrArg (fun z => f (ad 9 6) z) (nI_clamp (by omega))).trans e6), (hM.o 5 13 364), (by decide), (vp_eq (eq_add (eq_mul (show (7 : Int32) = nI 7 from rfl) rfl) rfl) (vpi (hM.n 5 13 364) (by omega))), congrArg Value.int ((congrArg (fun z => f (ad 9 5) z) (cl_of (eq_add (eq_mul (show (7 : Int32) = nI 7 from rfl) rfl) rfl) (by omega))).trans e5), trivial⟩ ?_
          refine go_if rfl (fun (c3 : ¬ (F (ad 9 5) (7 * w + c0)) = 0) => ?_) (fun (c3 : ¬ (¬ (F (ad 9 5) (7 * w + c0)) = 0)) => ?_)
          · -- ¬ (F (ad 9 5) (7 * w + c0)) = 0
            exact absurd (hpn.mpr ⟨(by first | assumption | exact Classical.not_not.mp (by assumption)), (by first | assumption | exact Classical.not_not.mp (by assumption)), (by first | assumption | exact Classical.not_not.mp (by assumption))⟩) hpp
          · -- ¬ (¬ (F (ad 9 5) (7 * w + c0)) = 0)
            refine go_blk 7 [some (.ref (ad 9 22))] (pc' := 3) (vs' := [.ref (ad 10 0), .int x1, .int (nI m), .int a, .int ((nI n) + 1), u5]) (st' := []) (M' := mm M (up2 f (ad 9 22) ((nI n).toNatClampNeg) (-1)) g) (ps := [ob (mm M f g) (ad 10 0) 12, mR (mm M f g) (ad 10 0) 22 = some (ad 9 22), va_rf (some (ad 9 22)) = .ref (ad 9 22), ob (mm M f g) (ad 9 22) 15, vp_in (nI n) (mN (mm M f g) (ad 9 22))]) rfl ⟨hM.1, (hM.r 22 15 60), rfl, (hM.o 22 15 60), (vpi (hM.n 22 15 60) (by omega)), trivial⟩ ?_
            rw [nI_clamp (n := n) (by omega)]
            rw [show nI n + 1 = nI (n + 1) from nI_add n 1]
            have hz := MD.none (v := -1) hi hf
            have ea : va_up acc n (-1) = acc := by
              funext j
              by_cases z : j = n
              · rw [z, va_s]; exact (hacc n (Nat.le_refl _)).symm
              · exact va_n _ _ z
            rw [ea] at hz
            exact ih (n + 1) (by omega) d _ fr m a acc B R _ _ (by omega) (by omega) hB1 (fun j hj => hacc j (by omega)) hz (fun f' hf' => hR f' (MD.less hf' (by omega) (fun _ _ => rfl)))

