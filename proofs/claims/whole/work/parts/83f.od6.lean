/-! openDay: the state while the jobs are made -/
def Ux (M0 : Mem) (a0 : Nat → Nat → Nat) (nc nb nt nx wk t i : Nat) : Prop := Us nc nb nt nx t i ∨ (t = 6 ∧ i < nb ∧ hJ (vw a0 (mI M0)) wk false i)
def JE (M0 : Mem) (a0 : Nat → Nat → Nat) (nc nb nt nx wk : Nat) (M : Mem) (ad : Nat → Nat → Nat) : Prop :=
  Inj ad ∧ mSc M = mSc M0 ∧ ∀ t i, Ux M0 a0 nc nb nt nx wk t i → ad t i = a0 t i ∧ eqM M0 M (a0 t i) ∧ mR M (a0 t i) = mR M0 (a0 t i)
/-- the stays that have begun -/
def JB (nc nb wk ne : Nat) (Q : Nat → Option Nat) (M : Mem) (ad : Nat → Nat → Nat) (r : Nat → Nat → Option Nat) (f : Nat → Nat → Int32) : Prop :=
  (f (ad 0 0) 8 = 1 ∧ f (ad 0 0) 9 = 0 ∧ f (ad 0 9) 2 = nI (ne + cnQ Q nc)) ∧
  (∀ c' b, c' < nc → Q c' = some b → r (ad 0 4) (7 * wk + c') = some (ad 2 b) ∧ f (ad 2 b) 7 = 1 ∧ f (ad 2 b) 11 = nI (ne + cnQ Q c') ∧ f (ad 0 32) (ne + cnQ Q c') = nI c' ∧ f (ad 0 33) (ne + cnQ Q c') = -1) ∧
  (∀ c', c' < 400 → (nc ≤ c' ∨ Q c' = none) → r (ad 0 4) (7 * wk + c') = mR M (ad 0 4) (7 * wk + c')) ∧
  ∀ b, b < nb → (∀ c', c' < nc → ¬ Q c' = some b) → f (ad 2 b) 7 = mI M (ad 2 b) 7 ∧ f (ad 2 b) 11 = mI M (ad 2 b) 11
theorem JB.congr {nc nb wk ne : Nat} {Q : Nat → Option Nat} {M M' : Mem} {ad ad' : Nat → Nat → Nat} {r r' : Nat → Nat → Option Nat} {f f' : Nat → Nat → Int32} (h : JB nc nb wk ne Q M ad r f) (hQb : ∀ c b, c < nc → Q c = some b → b < nb)
    (e : ∀ t i, (t = 0 ∧ (i = 0 ∨ i = 4 ∨ i = 9 ∨ i = 32 ∨ i = 33)) ∨ (t = 2 ∧ i < nb) → ad' t i = ad t i ∧ ∀ k, (t = 0 → r' (ad t i) k = r (ad t i) k) ∧ f' (ad t i) k = f (ad t i) k ∧ mR M' (ad t i) k = mR M (ad t i) k ∧ mI M' (ad t i) k = mI M (ad t i) k) : JB nc nb wk ne Q M' ad' r' f' := by
  obtain ⟨h1, h2, h3, h4⟩ := h
  have e00 := e 0 0 (by omega)
  have e04 := e 0 4 (by omega)
  have e09 := e 0 9 (by omega)
  have e32 := e 0 32 (by omega)
  have e33 := e 0 33 (by omega)
  refine ⟨?_, fun c' b hc hb => ?_, fun c' hc hq => ?_, fun b hb hq => ?_⟩
  · rw [e00.1, e09.1, (e00.2 8).2.1, (e00.2 9).2.1, (e09.2 2).2.1]
    exact h1
  · have e2 := e 2 b (Or.inr ⟨rfl, hQb c' b hc hb⟩)
    rw [e04.1, e2.1, e32.1, e33.1, (e04.2 _).1 rfl, (e2.2 7).2.1, (e2.2 11).2.1, (e32.2 _).2.1, (e33.2 _).2.1]
    exact h2 c' b hc hb
  · rw [e04.1, (e04.2 _).1 rfl, (e04.2 _).2.2.1]
    exact h3 c' hc hq
  · have e2 := e 2 b (Or.inr ⟨rfl, hb⟩)
    rw [e2.1, (e2.2 7).2.1, (e2.2 11).2.1, (e2.2 7).2.2.2, (e2.2 11).2.2.2]
    exact h4 b hb hq
def jDue (Q : Nat → Option Nat) (c : Nat) : Int32 := match Q c with | none => 1440 | some _ => 960
def jLin (Q : Nat → Option Nat) (G : Nat → Int32) (c : Nat) : Int32 := match Q c with | none => 0 | some b => G b
/-- the fields of a new job -/
def JV (M0 : Mem) (a0 : Nat → Nat → Nat) (wk : Nat) (Q : Nat → Option Nat) (c b : Nat) (j : Nat → Int32) : Prop :=
  j 1 = nI c ∧ j 2 = nI wk ∧ j 3 = jDue Q c ∧ j 4 = jLin Q (mI M0 (a0 9 8)) c ∧ j 5 = 600 ∧ j 6 = mI M0 (a0 9 3) c + 3 * mI M0 (a0 9 8) b + (if mI M0 (a0 9 14) b = 0 then 0 else 20) ∧ j 7 = -1 ∧ j 8 = -1 ∧ j 9 = -1 ∧ j 10 = 0 ∧ j 11 = 0
def JSb (M0 : Mem) (a0 : Nat → Nat → Nat) (nc nb nt nx wk ne : Nat) (Q W : Nat → Option Nat) (c : Nat) (M : Mem) (ad : Nat → Nat → Nat) (r : Nat → Nat → Option Nat) (f : Nat → Nat → Int32) : Prop :=
  JE M0 a0 nc nb nt nx wk M ad ∧
  (∀ t i k, Ux M0 a0 nc nb nt nx wk t i → ¬ (t = 0 ∧ i = 4 ∧ 7 * wk ≤ k) → ¬ (t = 0 ∧ i = 5) → ¬ (t = 2 ∧ k = 12) → r (ad t i) k = mR M (ad t i) k) ∧
  (∀ t i k, Ux M0 a0 nc nb nt nx wk t i → ¬ ((t = 0 ∧ i = 0 ∧ (k = 8 ∨ k = 9)) ∨ (t = 2 ∧ (k = 7 ∨ k = 11)) ∨ (t = 0 ∧ i = 9 ∧ k = 2) ∨ (t = 0 ∧ (i = 32 ∨ i = 33) ∧ ne ≤ k)) → f (ad t i) k = mI M (ad t i) k) ∧
  JB nc nb wk ne Q M ad r f ∧
  (∀ c' b, c' < c → W c' = some b → ob M (ad 6 b) 3 ∧ r (ad 0 5) c' = some (ad 6 b) ∧ r (ad 2 b) 12 = some (ad 6 b) ∧ r (ad 6 b) 0 = some (ad 2 b) ∧ JV M0 a0 wk Q c' b (f (ad 6 b))) ∧
  (∀ c', c' < c → W c' = none → r (ad 0 5) c' = none) ∧
  ∀ b, b < nb → (∀ c', c' < c → ¬ W c' = some b) → r (ad 2 b) 12 = mR M (ad 2 b) 12
section
variable {M0 M : Mem} {a0 ad : Nat → Nat → Nat} {nc nb nt nx wk ne c b q : Nat} {Q W : Nat → Option Nat} {r : Nat → Nat → Option Nat} {f : Nat → Nat → Int32}
theorem Ux.u {t i : Nat} (h : Us nc nb nt nx t i) : Ux M0 a0 nc nb nt nx wk t i := Or.inl h
theorem Ux.k0 {i : Nat} (h : i < 41) : Ux M0 a0 nc nb nt nx wk 0 i := Or.inl (show Us nc nb nt nx 0 i from h)
theorem Ux.k2 {i : Nat} (h : i < nb) : Ux M0 a0 nc nb nt nx wk 2 i := Or.inl (show Us nc nb nt nx 2 i from h)
theorem Ux.n6 (hbJ : ¬ hJ (vw a0 (mI M0)) wk false b) {t i : Nat} (u : Ux M0 a0 nc nb nt nx wk t i) : ¬ (t = 6 ∧ i = b) := by
  rintro ⟨rfl, rfl⟩
  rcases u with u | u
  · exact u
  · exact hbJ u.2.2
theorem JE.inL (h : JE M0 a0 nc nb nt nx wk M ad) {t i : Nat} (u : Ux M0 a0 nc nb nt nx wk t i) : ad t i ∈ mL M := by
  rw [(h.2.2 t i u).1]; exact (h.2.2 t i u).2.1.1
/-- a place for the job is taken -/
theorem JSb.al (h : JSb M0 a0 nc nb nt nx wk ne Q W c M ad r f) (hQb : ∀ c b, c < nc → Q c = some b → b < nb) (hWb : ∀ c' b, c' < c → W c' = some b → b < nb) (hq : q ∉ mL M) (hbJ : ¬ hJ (vw a0 (mI M0)) wk false b) (hu : ∀ c', c' < c → ¬ W c' = some b) :
    JSb M0 a0 nc nb nt nx wk ne Q W c (alO M q 3) (swp ad q 6 b) (va_up r q (fun _ => none)) (va_up f q (fun _ => 0)) := by
  obtain ⟨hE, h1, h2, hB, hJ', hN, h12⟩ := h
  have nq : ∀ a, a ∈ mL M → ¬ a = q := fun a ha z => hq (z ▸ ha)
  have nqx : ∀ t i, Ux M0 a0 nc nb nt nx wk t i → ¬ ad t i = q := fun t i u => nq _ (hE.inL u)
  have sw : ∀ t i, Ux M0 a0 nc nb nt nx wk t i → swp ad q 6 b t i = ad t i := fun t i u => swp_old (Ux.n6 hbJ u) (nqx t i u)
  have w6 : ∀ c' b', c' < c → W c' = some b' → swp ad q 6 b 6 b' = ad 6 b' ∧ ¬ ad 6 b' = q := fun c' b' hc hb' => by
    have z := nq _ (hJ' c' b' hc hb').1.1
    exact ⟨swp_old (fun y => hu c' hc (by rw [← y.2]; exact hb')) z, z⟩
  have mRo : ∀ a, ¬ a = q → mR (alO M q 3) a = mR M a := fun a ha => va_up_o ha
  have mIo : ∀ a, ¬ a = q → mI (alO M q 3) a = mI M a := fun a ha => va_up_o ha
  refine ⟨⟨swp_inj hE.1 q 6 b, hE.2.1, fun t i u => ?_⟩, fun t i k u z1 z2 z3 => ?_, fun t i k u z => ?_, hB.congr hQb (fun t i u => ?_), fun c' b' hc hb' => ?_, fun c' hc hb' => ?_, fun b' hb' hn => ?_⟩
  · obtain ⟨e1, e2, e3⟩ := hE.2.2 t i u
    have n0 : ¬ a0 t i = q := by rw [← e1]; exact nqx t i u
    refine ⟨(sw t i u).trans e1, ⟨List.mem_append_left _ e2.1, ?_, e2.2.2.1, ?_, ?_⟩, ?_⟩
    · exact (va_up_o n0).trans e2.2.1
    · exact (va_up_o n0).trans e2.2.2.2.1
    · exact (va_up_o n0).trans e2.2.2.2.2
    · exact (va_up_o n0).trans e3
  · rw [sw t i u, va_up_o (nqx t i u), mRo _ (nqx t i u)]
    exact h1 t i k u z1 z2 z3
  · rw [sw t i u, va_up_o (nqx t i u), mIo _ (nqx t i u)]
    exact h2 t i k u z
  · have ux : Ux M0 a0 nc nb nt nx wk t i := by
      rcases u with ⟨rfl, u⟩ | ⟨rfl, u⟩
      · exact Ux.k0 (by omega)
      · exact Ux.k2 u
    exact ⟨sw t i ux, fun k => ⟨fun _ => congrFun (va_up_o (nqx t i ux)) k, congrFun (va_up_o (nqx t i ux)) k, congrFun (mRo _ (nqx t i ux)) k, congrFun (mIo _ (nqx t i ux)) k⟩⟩
  · obtain ⟨j1, j2, j3, j4, j5⟩ := hJ' c' b' hc hb'
    obtain ⟨s1, s2⟩ := w6 c' b' hc hb'
    have u5 : Ux M0 a0 nc nb nt nx wk 0 5 := Ux.k0 (by omega)
    have u2 : Ux M0 a0 nc nb nt nx wk 2 b' := Ux.k2 (hWb c' b' hc hb')
    rw [s1, sw 0 5 u5, sw 2 b' u2, va_up_o (nqx _ _ u5), va_up_o (nqx _ _ u2), va_up_o s2, va_up_o s2]
    exact ⟨alO_old j1 s2, j2, j3, j4, j5⟩
  · have u5 : Ux M0 a0 nc nb nt nx wk 0 5 := Ux.k0 (by omega)
    rw [sw 0 5 u5, va_up_o (nqx _ _ u5)]
    exact hN c' hc hb'
  · have u2 : Ux M0 a0 nc nb nt nx wk 2 b' := Ux.k2 hb'
    rw [sw 2 b' u2, va_up_o (nqx _ _ u2), mRo _ (nqx _ _ u2)]
    exact h12 b' hb' hn
/-- the place of the job is emptied -/
theorem JSb.nul (hi : Inj ad) (h : JSb M0 a0 nc nb nt nx wk ne Q W c M ad r f) (hQb : ∀ c b, c < nc → Q c = some b → b < nb) : JSb M0 a0 nc nb nt nx wk ne Q W c M ad (up2 r (ad 0 5) c none) f := by
  obtain ⟨hE, h1, h2, hB, hJ', hN, h12⟩ := h
  have n5 : ∀ t i, ¬ (t = 0 ∧ i = 5) → ¬ ad t i = ad 0 5 := fun t i z y => z (hi _ _ _ _ y)
  refine ⟨hE, fun t i k u z1 z2 z3 => ?_, h2, hB.congr hQb (fun t i u => ⟨rfl, fun k => ⟨fun _ => ?_, rfl, rfl, rfl⟩⟩), fun c' b' hc hb' => ?_, fun c' hc hb' => ?_, fun b' hb' hn => ?_⟩
  · rw [up2_n _ _ (fun y => n5 t i z2 y.1)]
    exact h1 t i k u z1 z2 z3
  · rw [up2_n _ _ (fun y => n5 t i (by omega) y.1)]
  · rw [up2_n _ _ (fun y => by have := y.2; omega), up2_n _ _ (fun y => n5 2 b' (by omega) y.1), up2_n _ _ (fun y => n5 6 b' (by omega) y.1)]
    exact hJ' c' b' hc hb'
  · rw [up2_n _ _ (fun y => by have := y.2; omega)]
    exact hN c' hc hb'
  · rw [up2_n _ _ (fun y => n5 2 b' (by omega) y.1)]
    exact h12 b' hb' hn
end
