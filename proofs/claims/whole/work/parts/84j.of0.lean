/-! openDay: what stands where, behind both -/
theorem JS_self {M0 M : Mem} {a0 ad : Nat → Nat → Nat} {nc nb nt nx wk ne c : Nat} {Q W : Nat → Option Nat} {r : Nat → Nat → Option Nat} {f : Nat → Nat → Int32} (h : JSb M0 a0 nc nb nt nx wk ne Q W c M ad r f) : JSb M ad nc nb nt nx wk ne Q W c M ad r f := by
  obtain ⟨hE, h1, h2, hB, hJ', hN, h12⟩ := h
  have r9 : ∀ i, u9 i → mI M (ad 9 i) = mI M0 (a0 9 i) := fun i u => by
    have z := hE.2.2 9 i (Or.inl (show Us nc nb nt nx 9 i from u))
    rw [z.1]; exact z.2.1.2.2.2.1
  have hj : ∀ b, hJ (vw ad (mI M)) wk false b ↔ hJ (vw a0 (mI M0)) wk false b := fun b => by
    unfold hJ vw
    rw [r9 16 (by unfold u9; omega), r9 7 (by unfold u9; omega)]
  have hU : ∀ t i, Ux M ad nc nb nt nx wk t i → Ux M0 a0 nc nb nt nx wk t i := fun t i u => by
    rcases u with u | ⟨u1, u2, u3⟩
    · exact Or.inl u
    · exact Or.inr ⟨u1, u2, (hj i).mp u3⟩
  refine ⟨⟨hE.1, rfl, fun t i u => ⟨rfl, ⟨hE.inL (hU t i u), rfl, rfl, rfl, rfl⟩, rfl⟩⟩, fun t i k u => h1 t i k (hU t i u), fun t i k u => h2 t i k (hU t i u), hB, fun c' b hc hb => ?_, hN, h12⟩
  obtain ⟨y1, y2, y3, y4, y5⟩ := hJ' c' b hc hb
  refine ⟨y1, y2, y3, y4, ?_⟩
  unfold JV at y5 ⊢
  rw [r9 8 (by unfold u9; omega), r9 3 (by unfold u9; omega), r9 14 (by unfold u9; omega)]
  exact y5
theorem gsO_congr {Q : Nat → Option Nat} {G G' : Nat → Int32} : ∀ {n : Nat}, (∀ c b, c < n → Q c = some b → G b = G' b) → gsO Q G n = gsO Q G' n
  | 0, _ => rfl
  | n + 1, h => by
    have ih := gsO_congr (n := n) (fun c b hc => h c b (by omega))
    cases hq : Q n with
    | none => rw [gsO_n hq, gsO_n hq, ih]
    | some b => rw [gsO_s hq, gsO_s hq, ih, h n b (by omega) hq]
/-- where openDay writes -/
def odX (ne wk nt t i k : Nat) : Prop :=
  (t = 0 ∧ i = 0 ∧ (k = 8 ∨ k = 9)) ∨ (t = 2 ∧ (k = 7 ∨ k = 10 ∨ k = 11)) ∨ (t = 0 ∧ i = 9 ∧ k = 2) ∨ (t = 0 ∧ (i = 32 ∨ i = 33) ∧ ne ≤ k) ∨ (t = 0 ∧ i = 8 ∧ (k = 0 ∨ k = 2 ∨ k = 3 ∨ k = 5 ∨ k = 7)) ∨ (t = 1 ∧ 5 ≤ k ∧ k ≤ 7) ∨ (t = 3 ∧ 4 ≤ k ∧ k ≤ 10) ∨ (t = 0 ∧ i = 7 ∧ k = 19) ∨
  (t = 10 ∧ i = 0 ∧ (k = 0 ∨ k = 20 ∨ k = 21 ∨ k = 71 ∨ (64 ≤ k ∧ k ≤ 66) ∨ k = 68 ∨ k = 70 ∨ k = 95)) ∨ (t = 9 ∧ (i = 16 ∨ i = 12)) ∨ (t = 9 ∧ (i = 91 ∨ i = 92) ∧ ne ≤ k) ∨ (t = 9 ∧ i = 93 ∧ 3 * ne ≤ k) ∨ (t = 9 ∧ mjR i ∧ 7 * wk ≤ k) ∨ (t = 9 ∧ ((44 ≤ i ∧ i ≤ 49) ∨ i = 51) ∧ k < nt)
def OD (M : Mem) (ad : Nat → Nat → Nat) (nc nb nt nx wk ne kd : Nat) (Q W : Nat → Option Nat) (F : Nat → Nat → Int32) : Prop :=
  (∀ t i k, Ux M ad nc nb nt nx wk t i → ¬ odX ne wk nt t i k → F (ad t i) k = mI M (ad t i) k) ∧
  (F (ad 0 0) 8 = 1 ∧ F (ad 0 0) 9 = 0 ∧ F (ad 0 9) 2 = nI (ne + cnQ Q nc) ∧ F (ad 0 7) 19 = 0 ∧ F (ad 10 0) 21 = 1 ∧ F (ad 10 0) 71 = 1 ∧ F (ad 10 0) 20 = 0 ∧ F (ad 10 0) 95 = nI (ne + cnQ Q nc)) ∧
  (∀ c b, c < nc → Q c = some b → (F (ad 2 b) 7 = 1 ∧ F (ad 2 b) 11 = nI (ne + cnQ Q c) ∧ F (ad 2 b) 10 = cdV (kd + cnQ Q c) ∧ F (ad 0 32) (ne + cnQ Q c) = nI c ∧ F (ad 0 33) (ne + cnQ Q c) = -1) ∧ (F (ad 1 c) 5 = cdV (kd + cnQ Q c) ∧ F (ad 1 c) 6 = mI M (ad 1 c) 5 ∧ F (ad 1 c) 7 = mI M (ad 1 c) 6) ∧ F (ad 9 16) b = 1 ∧ F (ad 9 12) b = cdV (kd + cnQ Q c) ∧ F (ad 9 91) (ne + cnQ Q c) = nI c ∧ F (ad 9 92) (ne + cnQ Q c) = nI b ∧ ∀ th, th < 3 → F (ad 9 93) (3 * (ne + cnQ Q c) + th) = 0) ∧
  (∀ c, c < nc → Q c = none → ∀ s, F (ad 1 c) s = mI M (ad 1 c) s) ∧
  (∀ b, b < nb → (∀ c, c < nc → ¬ Q c = some b) → F (ad 2 b) 7 = mI M (ad 2 b) 7 ∧ F (ad 2 b) 10 = mI M (ad 2 b) 10 ∧ F (ad 2 b) 11 = mI M (ad 2 b) 11) ∧
  (∀ b, (∀ c, c < nc → ¬ Q c = some b) → F (ad 9 16) b = mI M (ad 9 16) b ∧ F (ad 9 12) b = mI M (ad 9 12) b) ∧
  (∀ c b, c < nc → W c = some b → JV M ad wk Q c b (F (ad 6 b)) ∧ F (ad 9 32) (7 * wk + c) = 1 ∧ F (ad 9 33) (7 * wk + c) = 600 ∧ F (ad 9 34) (7 * wk + c) = jDue Q c ∧ F (ad 9 35) (7 * wk + c) = mI M (ad 9 3) c + 3 * mI M (ad 9 8) b + (if mI M (ad 9 14) b = 0 then 0 else 20) ∧ F (ad 9 36) (7 * wk + c) = jLin Q (mI M (ad 9 8)) c ∧ F (ad 9 37) (7 * wk + c) = -1 ∧ F (ad 9 38) (7 * wk + c) = -1 ∧ F (ad 9 42) (7 * wk + c) = mI M (ad 9 8) b ∧ F (ad 9 43) (7 * wk + c) = (if mI M (ad 9 14) b = 0 then 0 else 1)) ∧
  (∀ i k, mjR i → (∀ c b, c < nc → W c = some b → ¬ k = 7 * wk + c) → F (ad 9 i) k = mI M (ad 9 i) k) ∧
  (∀ t, t < nt → (F (ad 3 t) 4 = 0 ∧ F (ad 3 t) 5 = mI M (ad 3 t) 1 ∧ F (ad 3 t) 6 = 0 ∧ F (ad 3 t) 7 = 0 ∧ F (ad 3 t) 8 = -1 ∧ F (ad 3 t) 9 = -1 ∧ F (ad 3 t) 10 = 0) ∧ F (ad 9 44) t = 0 ∧ F (ad 9 45) t = -1 ∧ F (ad 9 46) t = -1 ∧ F (ad 9 47) t = mI M (ad 9 28) t ∧ F (ad 9 48) t = 0 ∧ F (ad 9 49) t = 0 ∧ F (ad 9 51) t = 0) ∧
  (F (ad 0 8) 0 = F (ad 10 0) 64 ∧ F (ad 0 8) 2 = F (ad 10 0) 65 ∧ F (ad 0 8) 3 = F (ad 10 0) 66 ∧ F (ad 0 8) 5 = F (ad 10 0) 68 ∧ F (ad 0 8) 7 = F (ad 10 0) 70)
set_option maxHeartbeats 4000000 in
theorem od_F {M : Mem} {ad : Nat → Nat → Nat} {nc nb nt wk nw nx nl ne nk kd : Nat} {Q W : Nat → Option Nat} {r : Nat → Nat → Option Nat} {f f2 f3 f1 F : Nat → Nat → Int32} (hW : WI M ad nc nb nt wk nw nx nl ne nk kd false) (hQb : ∀ c b, Q c = some b → b < nb) (h : JSb M ad nc nb nt nx wk ne Q W nc M ad r f)
    (hg : GC ad Q (soF f (ad 0 8) (gsO Q (fun b => f (ad 2 b) 2) nc)) kd nc f2) (ht : TD ad f2 nt f3) (hl : MLo ad (moH (up2 f3 (ad 0 7) 19 0) (ad 10 0)) ne kd wk Q W nc nc f1) (hm : MT ad (mlF f1 (ad 10 0) (gsO Q (up2 f3 (ad 0 7) 19 0 (ad 9 8)) nc)) nt F) : OD M ad nc nb nt nx wk ne kd Q W F := by
  obtain ⟨hi, -, ⟨iS, iC, iB, iR, iL, iT⟩, -⟩ := hW
  obtain ⟨hE, h1, h2, hB, hJ', hN, h12⟩ := h
  have nn : ∀ t i t' i', ¬ (t = t' ∧ i = i') → ¬ ad t i = ad t' i' := fun t i t' i' z y => z (hi _ _ _ _ y)
  have lq := iL.1
  simp only [vw] at lq
  have u2 : ∀ b, b < nb → Ux M ad nc nb nt nx wk 2 b := fun b hb => Ux.k2 hb
  have ux9 : ∀ i, u9 i → Ux M ad nc nb nt nx wk 9 i := fun i u => Or.inl (show Us nc nb nt nx 9 i from u)
  have ux10 : Ux M ad nc nb nt nx wk 10 0 := Or.inl (show Us nc nb nt nx 10 0 from rfl)
  -- the chain, class's cells
  have c0 : ∀ t i k, ¬ (t = 2 ∧ k = 10) → ¬ (t = 1 ∧ 5 ≤ k ∧ k ≤ 7) → ¬ (t = 0 ∧ i = 8) → f2 (ad t i) k = f (ad t i) k := fun t i k z1 z2 z3 => by
    rw [hg.1 t i k z1 z2, soF_row (nn t i 0 8 z3)]
  have c3 : ∀ t i k, ¬ t = 3 → f3 (ad t i) k = f2 (ad t i) k := fun t i k z => by rw [ht.1 _ (fun j _ => nn t i 3 j (fun y => z y.1))]
  have cu : ∀ t i k, ¬ (t = 0 ∧ i = 7 ∧ k = 19) → up2 f3 (ad 0 7) 19 0 (ad t i) k = f3 (ad t i) k := fun t i k z => up2_n _ _ (fun y => z ⟨(hi _ _ _ _ y.1).1, (hi _ _ _ _ y.1).2, y.2⟩)
  obtain ⟨F0, hF0⟩ : ∃ F0, up2 f3 (ad 0 7) 19 0 = F0 := ⟨_, rfl⟩
  have e719 : F0 (ad 0 7) 19 = 0 := by rw [← hF0]; exact up2_s _ _ _ _
  rw [hF0] at hl hm cu
  have cH : ∀ t i k, ¬ (t = 10 ∧ i = 0 ∧ (k = 0 ∨ k = 21 ∨ k = 71 ∨ k = 20 ∨ k = 65 ∨ k = 64)) → moH F0 (ad 10 0) (ad t i) k = F0 (ad t i) k := fun t i k z => by
    simp only [moH, up2_ad hi]
    rw [if_neg (by omega), if_neg (by omega), if_neg (by omega), if_neg (by omega), if_neg (by omega), if_neg (by omega)]
  have cM : ∀ t i k, ¬ (t = 9 ∧ ((44 ≤ i ∧ i ≤ 49) ∨ i = 51) ∧ k < nt) → ¬ (t = 10 ∧ i = 0 ∧ (k = 64 ∨ k = 66 ∨ k = 68 ∨ k = 70)) → F (ad t i) k = f1 (ad t i) k := fun t i k z1 z2 => by
    rw [hm.1 t i k z1]
    simp only [mlF, up2_ad hi]
    rw [if_neg (by omega), if_neg (by omega), if_neg (by omega), if_neg (by omega)]
  have cC : ∀ t i k, ¬ t = 9 → ¬ t = 10 → F (ad t i) k = F0 (ad t i) k := fun t i k z1 z2 => by
    rw [cM t i k (fun y => z1 y.1) (fun y => z2 y.1), hl.1 t i k (by unfold mlX; omega), cH t i k (fun y => z2 y.1)]
  -- class cells down to f
  have cf : ∀ t i k, ¬ t = 9 → ¬ t = 10 → ¬ t = 3 → ¬ (t = 0 ∧ i = 7 ∧ k = 19) → ¬ (t = 2 ∧ k = 10) → ¬ (t = 1 ∧ 5 ≤ k ∧ k ≤ 7) → ¬ (t = 0 ∧ i = 8) → F (ad t i) k = f (ad t i) k := fun t i k z1 z2 z3 z4 z5 z6 z7 => by
    rw [cC t i k z1 z2, cu t i k z4, c3 t i k z3, c0 t i k z5 z6 z7]
  have f9 : ∀ i k, u9 i → F0 (ad 9 i) k = mI M (ad 9 i) k := fun i k u => by
    rw [cu 9 i k (by omega), c3 9 i k (by omega), c0 9 i k (by omega) (by omega) (by omega)]
    exact h2 9 i k (ux9 i u) (by omega)
  have f10 : ∀ k, F0 (ad 10 0) k = mI M (ad 10 0) k := fun k => by
    rw [cu 10 0 k (by omega), c3 10 0 k (by omega), c0 10 0 k (by omega) (by omega) (by omega)]
    exact h2 10 0 k ux10 (by omega)
  have f1b : ∀ c, c < nc → ∀ s, f (ad 1 c) s = mI M (ad 1 c) s := fun c hc s => h2 1 c s (Or.inl (show Us nc nb nt nx 1 c from hc)) (by omega)
  have f2b : ∀ b, b < nb → ∀ k, ¬ k = 7 → ¬ k = 11 → f (ad 2 b) k = mI M (ad 2 b) k := fun b hb k z1 z2 => h2 2 b k (u2 b hb) (by omega)
  have m9 : ∀ i k, u9 i → moH F0 (ad 10 0) (ad 9 i) k = mI M (ad 9 i) k := fun i k u => (cH 9 i k (by omega)).trans (f9 i k u)
  have m9f : ∀ i, u9 i → moH F0 (ad 10 0) (ad 9 i) = mI M (ad 9 i) := fun i u => funext (fun k => m9 i k u)
  have fr : ∀ t i k, Ux M ad nc nb nt nx wk t i → ¬ odX ne wk nt t i k → F (ad t i) k = mI M (ad t i) k := fun t i k u z => by
    have zml : ¬ mlX ne wk t i k := fun y => by
      rcases y with y | y | y | y | y
      · exact z (Or.inr (Or.inr (Or.inr (Or.inr (Or.inr (Or.inr (Or.inr (Or.inr (Or.inr (Or.inl y))))))))))
      · exact z (Or.inr (Or.inr (Or.inr (Or.inr (Or.inr (Or.inr (Or.inr (Or.inr (Or.inr (Or.inr (Or.inl y)))))))))))
      · exact z (Or.inr (Or.inr (Or.inr (Or.inr (Or.inr (Or.inr (Or.inr (Or.inr (Or.inr (Or.inr (Or.inr (Or.inl y))))))))))))
      · exact z (Or.inr (Or.inr (Or.inr (Or.inr (Or.inr (Or.inr (Or.inr (Or.inr (Or.inr (Or.inr (Or.inr (Or.inr (Or.inl y)))))))))))))
      · exact z (Or.inr (Or.inr (Or.inr (Or.inr (Or.inr (Or.inr (Or.inr (Or.inr (Or.inl ⟨y.1, y.2.1, by have := y.2.2; omega⟩)))))))))
    have zmt : ¬ (t = 9 ∧ ((44 ≤ i ∧ i ≤ 49) ∨ i = 51) ∧ k < nt) := fun y => z (Or.inr (Or.inr (Or.inr (Or.inr (Or.inr (Or.inr (Or.inr (Or.inr (Or.inr (Or.inr (Or.inr (Or.inr (Or.inr y)))))))))))))
    have z10 : t = 10 → i = 0 → ¬ (k = 0 ∨ k = 20 ∨ k = 21 ∨ k = 71 ∨ (64 ≤ k ∧ k ≤ 66) ∨ k = 68 ∨ k = 70 ∨ k = 95) := fun y1 y2 y3 => z (Or.inr (Or.inr (Or.inr (Or.inr (Or.inr (Or.inr (Or.inr (Or.inr (Or.inl ⟨y1, y2, y3⟩)))))))))
    have zjs : ¬ ((t = 0 ∧ i = 0 ∧ (k = 8 ∨ k = 9)) ∨ (t = 2 ∧ (k = 7 ∨ k = 11)) ∨ (t = 0 ∧ i = 9 ∧ k = 2) ∨ (t = 0 ∧ (i = 32 ∨ i = 33) ∧ ne ≤ k)) := fun y => by
      rcases y with y | y | y | y
      · exact z (Or.inl y)
      · exact z (Or.inr (Or.inl ⟨y.1, by have := y.2; omega⟩))
      · exact z (Or.inr (Or.inr (Or.inl y)))
      · exact z (Or.inr (Or.inr (Or.inr (Or.inl y))))
    have z7 : ¬ (t = 0 ∧ i = 7 ∧ k = 19) := fun y => z (Or.inr (Or.inr (Or.inr (Or.inr (Or.inr (Or.inr (Or.inr (Or.inl y))))))))
    have z2 : ¬ (t = 2 ∧ k = 10) := fun y => z (Or.inr (Or.inl ⟨y.1, Or.inr (Or.inl y.2)⟩))
    have z1 : ¬ (t = 1 ∧ 5 ≤ k ∧ k ≤ 7) := fun y => z (Or.inr (Or.inr (Or.inr (Or.inr (Or.inr (Or.inl y))))))
    have hm2 := h2 t i k u zjs
    by_cases g : t = 9
    · clear zjs hm2
      subst g
      rw [cM 9 i k zmt (fun y => absurd y.1 (by decide)), hl.1 9 i k zml, cH 9 i k (fun y => absurd y.1 (by decide)), cu 9 i k z7, c3 9 i k (by decide), c0 9 i k z2 z1 (fun y => absurd y.1 (by decide))]
      exact h2 9 i k u (by omega)
    · by_cases g10 : t = 10
      · subst g10
        have hi0 : i = 0 := by
          rcases u with u | u
          · exact u
          · exact absurd u.1 (by decide)
        have zk := z10 rfl hi0
        clear zjs hm2 z10 zmt zml z
        subst hi0
        rw [cM 10 0 k (by omega) (by omega), hl.1 10 0 k (by unfold mlX; omega), cH 10 0 k (by omega), cu 10 0 k (by omega), c3 10 0 k (by omega), c0 10 0 k (by omega) (by omega) (by omega)]
        exact h2 10 0 k u (by omega)
      · by_cases g3 : t = 3
        · subst g3
          have hlt : i < nt := by
            rcases u with u | u
            · exact u
            · exact absurd u.1 (by decide)
          have zk : ¬ (4 ≤ k ∧ k ≤ 10) := fun y => z (Or.inr (Or.inr (Or.inr (Or.inr (Or.inr (Or.inr (Or.inl ⟨rfl, y⟩)))))))
          rw [cC 3 i k (by decide) (by decide), cu 3 i k z7, ht.2 i hlt]
          unfold sdT
          clear zjs z10 zmt zml z z7 z2 z1
          rw [up2_n _ _ (by omega), up2_n _ _ (by omega), up2_n _ _ (by omega), up2_n _ _ (by omega), up2_n _ _ (by omega), up2_n _ _ (by omega), up2_n _ _ (by omega), c0 3 i k (by omega) (by omega) (by omega)]
          exact hm2
        · by_cases g8 : t = 0 ∧ i = 8
          · obtain ⟨rfl, rfl⟩ := g8
            have zk : ¬ (k = 0 ∨ k = 2 ∨ k = 3 ∨ k = 5 ∨ k = 7) := fun y => z (Or.inr (Or.inr (Or.inr (Or.inr (Or.inl ⟨rfl, rfl, y⟩)))))
            clear zjs z10 zmt zml z z7 z2 z1
            rw [cC 0 8 k (by omega) (by omega), cu 0 8 k (by omega), c3 0 8 k (by omega), hg.1 0 8 k (by omega) (by omega)]
            unfold soF
            rw [up2_n _ _ (by omega), up2_n _ _ (by omega), up2_n _ _ (by omega), up2_n _ _ (by omega), up2_n _ _ (by omega), up2_n _ _ (by omega)]
            exact hm2
          · rw [cf t i k g g10 g3 z7 z2 z1 g8]
            exact hm2
  obtain ⟨b1, b2, b3, b4⟩ := hB
  have gs : gsO Q (fun b => f (ad 2 b) 2) nc = gsO Q (F0 (ad 9 8)) nc := gsO_congr (fun c b _ hb => by
    show f (ad 2 b) 2 = F0 (ad 9 8) b
    rw [f2b b (hQb c b hb) 2 (by omega) (by omega), f9 8 b (by unfold u9; omega)]
    exact (iB.1 b (hQb c b hb)).1.2.2.1)
  refine ⟨fr, ⟨?_, ?_, ?_, ?_, ?_, ?_, ?_, ?_⟩, fun c b hc hb => ⟨⟨?_, ?_, ?_, ?_, ?_⟩, ⟨?_, ?_, ?_⟩, ?_⟩, fun c hc hb s => ?_, fun b hb hq => ⟨?_, ?_, ?_⟩, fun b hq => ?_, fun c b hc hb => ?_, fun i k hj hk => ?_, fun t hlt => ⟨?_, ?_⟩, ?_⟩
  · rw [cf 0 0 8 (by omega) (by omega) (by omega) (by omega) (by omega) (by omega) (by omega)]; exact b1.1
  · rw [cf 0 0 9 (by omega) (by omega) (by omega) (by omega) (by omega) (by omega) (by omega)]; exact b1.2.1
  · rw [cf 0 9 2 (by omega) (by omega) (by omega) (by omega) (by omega) (by omega) (by omega)]; exact b1.2.2
  · rw [cC 0 7 19 (by omega) (by omega)]; exact e719
  · rw [cM 10 0 21 (by omega) (by omega), hl.1 10 0 21 (by unfold mlX; omega)]
    simp [moH, up2]
  · rw [cM 10 0 71 (by omega) (by omega), hl.1 10 0 71 (by unfold mlX; omega)]
    simp [moH, up2]
  · rw [cM 10 0 20 (by omega) (by omega), hl.1 10 0 20 (by unfold mlX; omega)]
    simp [moH, up2]
  · rw [cM 10 0 95 (by omega) (by omega)]; exact hl.2.1
  · rw [cf 2 b 7 (by omega) (by omega) (by omega) (by omega) (by omega) (by omega) (by omega)]; exact (b2 c b hc hb).2.1
  · rw [cf 2 b 11 (by omega) (by omega) (by omega) (by omega) (by omega) (by omega) (by omega)]; exact (b2 c b hc hb).2.2.1
  · rw [cC 2 b 10 (by omega) (by omega), cu 2 b 10 (by omega), c3 2 b 10 (by omega)]; exact (hg.2.1 c b hc hb).1
  · rw [cf 0 32 _ (by omega) (by omega) (by omega) (by omega) (by omega) (by omega) (by omega)]; exact (b2 c b hc hb).2.2.2.1
  · rw [cf 0 33 _ (by omega) (by omega) (by omega) (by omega) (by omega) (by omega) (by omega)]; exact (b2 c b hc hb).2.2.2.2
  · rw [cC 1 c 5 (by omega) (by omega), cu 1 c 5 (by omega), c3 1 c 5 (by omega)]; exact (hg.2.1 c b hc hb).2.1
  · rw [cC 1 c 6 (by omega) (by omega), cu 1 c 6 (by omega), c3 1 c 6 (by omega), (hg.2.1 c b hc hb).2.2.1, soF_row (nn 1 c 0 8 (by omega))]; exact f1b c hc 5
  · rw [cC 1 c 7 (by omega) (by omega), cu 1 c 7 (by omega), c3 1 c 7 (by omega), (hg.2.1 c b hc hb).2.2.2, soF_row (nn 1 c 0 8 (by omega))]; exact f1b c hc 6
  · rw [cM 9 16 b (by omega) (by omega), cM 9 12 b (by omega) (by omega), cM 9 91 _ (by omega) (by omega), cM 9 92 _ (by omega) (by omega)]
    obtain ⟨y1, y2, y3, y4, y5⟩ := hl.2.2.1 c b hc hb
    exact ⟨y1, y2, y3, y4, fun th hth => by rw [cM 9 93 _ (by omega) (by omega)]; exact y5 th hth⟩
  · rw [cC 1 c s (by omega) (by omega), cu 1 c s (by omega), c3 1 c s (by omega), hg.2.2.1 c (Or.inr hb) s, soF_row (nn 1 c 0 8 (by omega))]; exact f1b c hc s
  · rw [cf 2 b 7 (by omega) (by omega) (by omega) (by omega) (by omega) (by omega) (by omega)]; exact (b4 b hb hq).1
  · rw [cC 2 b 10 (by omega) (by omega), cu 2 b 10 (by omega), c3 2 b 10 (by omega), hg.2.2.2 b hq, soF_row (nn 2 b 0 8 (by omega))]; exact f2b b hb 10 (by omega) (by omega)
  · rw [cf 2 b 11 (by omega) (by omega) (by omega) (by omega) (by omega) (by omega) (by omega)]; exact (b4 b hb hq).2
  · rw [cM 9 16 b (by omega) (by omega), cM 9 12 b (by omega) (by omega), (hl.2.2.2.1 b hq).1, (hl.2.2.2.1 b hq).2, m9 16 b (by unfold u9; omega), m9 12 b (by unfold u9; omega)]
    exact ⟨rfl, rfl⟩
  · have e6 : F (ad 6 b) = f (ad 6 b) := funext (fun k => cf 6 b k (by omega) (by omega) (by omega) (by omega) (by omega) (by omega) (by omega))
    rw [e6]
    refine ⟨(hJ' c b hc hb).2.2.2.2, ?_⟩
    have y := hl.2.2.2.2.1 c b hc hb
    rw [m9f 8 (by unfold u9; omega), m9f 3 (by unfold u9; omega), m9f 14 (by unfold u9; omega)] at y
    rw [cM 9 32 _ (by omega) (by omega), cM 9 33 _ (by omega) (by omega), cM 9 34 _ (by omega) (by omega), cM 9 35 _ (by omega) (by omega), cM 9 36 _ (by omega) (by omega), cM 9 37 _ (by omega) (by omega), cM 9 38 _ (by omega) (by omega), cM 9 42 _ (by omega) (by omega), cM 9 43 _ (by omega) (by omega)]
    exact y
  · have hj2 := hj
    unfold mjR at hj2
    rw [cM 9 i k (by omega) (by omega), hl.2.2.2.2.2 i k hj hk]
    exact m9 i k (by unfold u9; omega)
  · have e3 : ∀ k, F (ad 3 t) k = sdT f2 (ad 3 t) (ad 3 t) k := fun k => by rw [cC 3 t k (by omega) (by omega), cu 3 t k (by omega), ht.2 t hlt]
    rw [e3, e3, e3, e3, e3, e3, e3]
    have e31 : f2 (ad 3 t) 1 = mI M (ad 3 t) 1 := by
      rw [c0 3 t 1 (by omega) (by omega) (by omega)]; exact h2 3 t 1 (Or.inl (show Us nc nb nt nx 3 t from hlt)) (by omega)
    simp [sdT, up2, e31]
  · obtain ⟨y1, y2, y3, y4, y5, y6, y7⟩ := hm.2 t hlt
    refine ⟨y1, y2, y3, ?_, y5, y6, y7⟩
    rw [y4]
    simp only [mlF, up2_ad hi]
    rw [if_neg (by omega), if_neg (by omega), if_neg (by omega), if_neg (by omega), hl.1 9 28 t (by unfold mlX mjR; omega)]
    exact m9 28 t (by unfold u9; omega)
  · have a8 : ∀ k, F (ad 0 8) k = soF f (ad 0 8) (gsO Q (F0 (ad 9 8)) nc) (ad 0 8) k := fun k => by
      rw [cC 0 8 k (by omega) (by omega), cu 0 8 k (by omega), c3 0 8 k (by omega), hg.1 0 8 k (by omega) (by omega), gs]
    have fl : ∀ k, f (ad 0 8) k = mI M (ad 0 8) k := fun k => h2 0 8 k (Ux.k0 (by omega)) (by omega)
    have a10 : ∀ k, F (ad 10 0) k = mlF f1 (ad 10 0) (gsO Q (F0 (ad 9 8)) nc) (ad 10 0) k := fun k => hm.1 10 0 k (by omega)
    have k10 : ∀ k, 63 ≤ k → k ≤ 70 → f1 (ad 10 0) k = moH F0 (ad 10 0) (ad 10 0) k := fun k y1 y2 => hl.1 10 0 k (by unfold mlX; omega)
    obtain ⟨N, hN'⟩ : ∃ N, gsO Q (F0 (ad 9 8)) nc = N := ⟨_, rfl⟩
    rw [hN'] at a8 a10
    rw [a8, a8, a8, a8, a8, a10, a10, a10, a10, a10]
    have w64 : f1 (ad 10 0) 64 = mI M (ad 10 0) 64 + (if mI M (ad 10 0) 65 < mI M (ad 10 0) 63 then mI M (ad 10 0) 65 else mI M (ad 10 0) 63) := by
      rw [k10 64 (by omega) (by omega)]; simp [moH, moW, up2, f10]
    have w65 : f1 (ad 10 0) 65 = mI M (ad 10 0) 65 - (if mI M (ad 10 0) 65 < mI M (ad 10 0) 63 then mI M (ad 10 0) 65 else mI M (ad 10 0) 63) := by
      rw [k10 65 (by omega) (by omega)]; simp [moH, moW, up2, f10]
    have w70 : f1 (ad 10 0) 70 = mI M (ad 10 0) 70 := by
      rw [k10 70 (by omega) (by omega)]; simp [moH, up2, f10]
    have wS : soW f (ad 0 8) = (if mI M (ad 10 0) 65 < mI M (ad 10 0) 63 then mI M (ad 10 0) 65 else mI M (ad 10 0) 63) := by
      unfold soW; rw [fl, fl, lq.2.2.1, lq.2.1]
    have wC : soC f (ad 0 8) = f1 (ad 10 0) 64 := by
      unfold soC; rw [wS, fl, lq.1, w64]
    have wL : soL f (ad 0 8) N = mlL f1 (ad 10 0) N := by
      unfold soL mlL; rw [wC]
    refine ⟨?_, ?_, ?_, ?_, ?_⟩
    · simp [soF, mlF, up2, wC, wL]
    · simp [soF, mlF, up2, wS, w65, fl, lq.2.2.1]
    · simp [soF, mlF, up2, wL]
    · simp [soF, mlF, up2, wL]
    · simp [soF, mlF, up2, wL, fl, lq.2.2.2.2.2.2.2, w70]
