/-! openDay: a job is written -/
section
variable {M0 M : Mem} {a0 ad : Nat → Nat → Nat} {nc nb nt nx wk ne c b : Nat} {Q W : Nat → Option Nat} {r : Nat → Nat → Option Nat} {f f' : Nat → Nat → Int32}
theorem JSb.skip (h : JSb M0 a0 nc nb nt nx wk ne Q W c M ad r f) (hn : W c = none) (hr : r (ad 0 5) c = none) : JSb M0 a0 nc nb nt nx wk ne Q W (c + 1) M ad r f := by
  obtain ⟨hE, h1, h2, hB, hJ', hN, h12⟩ := h
  refine ⟨hE, h1, h2, hB, fun c' b' hc hb' => ?_, fun c' hc hb' => ?_, fun b' hb' hq => h12 b' hb' (fun c' hc => hq c' (by omega))⟩
  · by_cases e : c' = c
    · rw [e, hn] at hb'; cases hb'
    · exact hJ' c' b' (by omega) hb'
  · by_cases e : c' = c
    · rw [e]; exact hr
    · exact hN c' (by omega) hb'
theorem JSb.job (h : JSb M0 a0 nc nb nt nx wk ne Q W c M ad r f) (hQb : ∀ c b, c < nc → Q c = some b → b < nb) (hb : W c = some b) (hbJ : ¬ hJ (vw a0 (mI M0)) wk false b) (hu : ∀ c', c' < c → ¬ W c' = some b) (hO : ob M (ad 6 b) 3) (hf : ∀ a, ¬ a = ad 6 b → f' a = f a) (hv : JV M0 a0 wk Q c b (f' (ad 6 b))) :
    JSb M0 a0 nc nb nt nx wk ne Q W (c + 1) M ad (up2 (up2 (up2 r (ad 6 b) 0 (some (ad 2 b))) (ad 2 b) 12 (some (ad 6 b))) (ad 0 5) c (some (ad 6 b))) f' := by
  obtain ⟨hE, h1, h2, hB, hJ', hN, h12⟩ := h
  have hi := hE.1
  have n6x : ∀ t i, Ux M0 a0 nc nb nt nx wk t i → ¬ ad t i = ad 6 b := fun t i u y => Ux.n6 hbJ u (hi _ _ _ _ y)
  have nn : ∀ t i t' i', ¬ (t = t' ∧ i = i') → ¬ ad t i = ad t' i' := fun t i t' i' z y => z (hi _ _ _ _ y)
  refine ⟨hE, fun t i k u z1 z2 z3 => ?_, fun t i k u z => ?_, hB.congr hQb (fun t i u => ⟨rfl, fun k => ⟨fun ht => ?_, ?_, rfl, rfl⟩⟩), fun c' b' hc hb' => ?_, fun c' hc hb' => ?_, fun b' hb' hq => ?_⟩
  · rw [up2_n _ _ (fun y => nn _ _ _ _ z2 y.1), up2_n _ _ (fun y => z3 ⟨(hi _ _ _ _ y.1).1, y.2⟩), up2_n _ _ (fun y => n6x t i u y.1)]
    exact h1 t i k u z1 z2 z3
  · rw [hf _ (n6x t i u)]
    exact h2 t i k u z
  · rw [up2_n _ _ (fun y => nn t i 0 5 (by omega) y.1), up2_n _ _ (fun y => nn t i 2 b (by omega) y.1), up2_n _ _ (fun y => nn t i 6 b (by omega) y.1)]
  · rw [hf _ (nn t i 6 b (by omega))]
  · by_cases e : c' = c
    · subst e
      rw [hb] at hb'
      cases hb'
      refine ⟨hO, up2_s _ _ _ _, ?_, ?_, hv⟩
      · rw [up2_n _ _ (fun y => nn 2 b 0 5 (by omega) y.1), up2_s]
      · rw [up2_n _ _ (fun y => nn 6 b 0 5 (by omega) y.1), up2_n _ _ (fun y => nn 6 b 2 b (by omega) y.1), up2_s]
    · have hbb : ¬ b' = b := fun z => hu c' (by omega) (by rw [← z]; exact hb')
      rw [hf _ (nn 6 b' 6 b (by omega))]
      rw [up2_n (a := ad 0 5) (b := ad 0 5) _ _ (fun y => e y.2), up2_n (a := ad 2 b) (b := ad 0 5) _ _ (fun y => nn 0 5 2 b (by omega) y.1), up2_n (a := ad 6 b) (b := ad 0 5) _ _ (fun y => nn 0 5 6 b (by omega) y.1)]
      rw [up2_n (a := ad 0 5) (b := ad 2 b') _ _ (fun y => nn 2 b' 0 5 (by omega) y.1), up2_n (a := ad 2 b) (b := ad 2 b') _ _ (fun y => nn 2 b' 2 b (by omega) y.1), up2_n (a := ad 6 b) (b := ad 2 b') _ _ (fun y => nn 2 b' 6 b (by omega) y.1)]
      rw [up2_n (a := ad 0 5) (b := ad 6 b') _ _ (fun y => nn 6 b' 0 5 (by omega) y.1), up2_n (a := ad 2 b) (b := ad 6 b') _ _ (fun y => nn 6 b' 2 b (by omega) y.1), up2_n (a := ad 6 b) (b := ad 6 b') _ _ (fun y => nn 6 b' 6 b (by omega) y.1)]
      exact hJ' c' b' (by omega) hb'
  · have e : ¬ c' = c := fun z => by rw [z, hb] at hb'; cases hb'
    rw [up2_n _ _ (fun y => e y.2), up2_n _ _ (fun y => nn 0 5 2 b (by omega) y.1), up2_n _ _ (fun y => nn 0 5 6 b (by omega) y.1)]
    exact hN c' (by omega) hb'
  · have hbb : ¬ b' = b := fun z => hq c (by omega) (by rw [z]; exact hb)
    rw [up2_n _ _ (fun y => nn 2 b' 0 5 (by omega) y.1), up2_n _ _ (fun y => nn 2 b' 2 b (by omega) y.1), up2_n _ _ (fun y => nn 2 b' 6 b (by omega) y.1)]
    exact h12 b' hb' (fun c' hc => hq c' (by omega))
end
theorem JS_zero {M : Mem} {ad : Nat → Nat → Nat} {nc nb nt wk nw nx nl ne nk kd : Nat} {W : Nat → Option Nat} {r : Nat → Nat → Option Nat} {f : Nat → Nat → Int32} (hW : WI M ad nc nb nt wk nw nx nl ne nk kd false) (h : BS M ad nb wk ne nc r f) : JSb M ad nc nb nt nx wk ne (cmO (fun i k => mI M (ad 9 i) k) nb wk) W 0 M ad r f := by
  obtain ⟨h1, h2, h3, h4, h5, h6⟩ := h
  refine ⟨⟨hW.1, rfl, fun t i u => ⟨rfl, ⟨?_, rfl, rfl, rfl, rfl⟩, rfl⟩⟩, fun t i k _ z1 _ _ => h1 t i k z1, fun t i k _ z => h2 t i k z, ⟨h3, h4, h5, fun b _ hq => h6 b hq⟩, fun c' b hc => absurd hc (by omega), fun c' hc => absurd hc (by omega), fun b _ _ => h1 2 b 12 (by omega)⟩
  rcases u with u | ⟨rfl, u1, u2⟩
  · exact hW.at u
  · exact hW.at6 u1 u2
theorem JE_wi {M0 M : Mem} {a0 ad : Nat → Nat → Nat} {nc nb nt wk nw nx nl ne nk kd : Nat} (hW : WI M0 a0 nc nb nt wk nw nx nl ne nk kd false) (h : JE M0 a0 nc nb nt nx wk M ad) : WI M ad nc nb nt wk nw nx nl ne nk kd false :=
  hW.re h.1 (fun t i u => (h.2.2 t i (Or.inl u)).1) (fun b hb hj => (h.2.2 6 b (Or.inr ⟨rfl, hb, hj⟩)).1) (fun t i u => (h.2.2 t i (Or.inl u)).2.1) (fun b hb hj => (h.2.2 6 b (Or.inr ⟨rfl, hb, hj⟩)).2.1) (fun t i k u _ => congrFun (h.2.2 t i (Or.inl u)).2.2 k) (fun b k hb hj => congrFun (h.2.2 6 b (Or.inr ⟨rfl, hb, hj⟩)).2.2 k)
