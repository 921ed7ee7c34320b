/-! openDay: guestsWhoCome, giveCodes -/
def gsO (Q : Nat → Option Nat) (G : Nat → Int32) : Nat → Int32
  | 0 => 0
  | c + 1 => gsO Q G c + (match Q c with | none => 0 | some b => G b)
theorem gsO_n {Q : Nat → Option Nat} {G : Nat → Int32} {c : Nat} (h : Q c = none) : gsO Q G (c + 1) = gsO Q G c + 0 := by
  show _ + (match Q c with | none => 0 | some b => G b) = _
  rw [h]
theorem gsO_s {Q : Nat → Option Nat} {G : Nat → Int32} {c b : Nat} (h : Q c = some b) : gsO Q G (c + 1) = gsO Q G c + G b := by
  show _ + (match Q c with | none => 0 | some b => G b) = _
  rw [h]
/-- how many come below c -/
def cnQ (Q : Nat → Option Nat) : Nat → Nat := ctB (fun c => (Q c).isSome)
theorem cnQ_n {Q : Nat → Option Nat} {c : Nat} (h : Q c = none) : cnQ Q (c + 1) = cnQ Q c := by
  show _ + (if (Q c).isSome = true then 1 else 0) = _
  rw [h]; rfl
theorem cnQ_s {Q : Nat → Option Nat} {c b : Nat} (h : Q c = some b) : cnQ Q (c + 1) = cnQ Q c + 1 := by
  show _ + (if (Q c).isSome = true then 1 else 0) = _
  rw [h]; rfl
theorem cnQ_mono (Q : Nat → Option Nat) : ∀ {a b : Nat}, a ≤ b → cnQ Q a ≤ cnQ Q b
  | a, 0, h => by rw [show a = 0 by omega]; exact Nat.le_refl _
  | a, b + 1, h => by
    by_cases e : a = b + 1
    · rw [e]; exact Nat.le_refl _
    · have := cnQ_mono Q (show a ≤ b by omega)
      exact Nat.le_trans this (Nat.le_add_right _ _)
/-- the codes given for the cottages below c -/
def GC (ad : Nat → Nat → Nat) (Q : Nat → Option Nat) (f0 : Nat → Nat → Int32) (kd c : Nat) (f : Nat → Nat → Int32) : Prop :=
  (∀ t i k, ¬ (t = 2 ∧ k = 10) → ¬ (t = 1 ∧ 5 ≤ k ∧ k ≤ 7) → f (ad t i) k = f0 (ad t i) k) ∧
  (∀ c' b, c' < c → Q c' = some b → f (ad 2 b) 10 = cdV (kd + cnQ Q c') ∧ f (ad 1 c') 5 = cdV (kd + cnQ Q c') ∧ f (ad 1 c') 6 = f0 (ad 1 c') 5 ∧ f (ad 1 c') 7 = f0 (ad 1 c') 6) ∧
  (∀ c', (c ≤ c' ∨ Q c' = none) → ∀ s, f (ad 1 c') s = f0 (ad 1 c') s) ∧
  ∀ b, (∀ c', c' < c → ¬ Q c' = some b) → f (ad 2 b) 10 = f0 (ad 2 b) 10
theorem GC.zero (ad : Nat → Nat → Nat) (Q : Nat → Option Nat) (f0 : Nat → Nat → Int32) (kd : Nat) : GC ad Q f0 kd 0 f0 := ⟨fun _ _ _ _ _ => rfl, fun c' b h => absurd h (by omega), fun _ _ _ => rfl, fun _ _ => rfl⟩
theorem GC.skip {ad : Nat → Nat → Nat} {Q : Nat → Option Nat} {f0 f : Nat → Nat → Int32} {kd c : Nat} (h : GC ad Q f0 kd c f) (hn : Q c = none) : GC ad Q f0 kd (c + 1) f := by
  obtain ⟨h1, h2, h3, h4⟩ := h
  refine ⟨h1, fun c' b hc hb => ?_, fun c' hq => ?_, fun b hb => h4 b (fun c' hc => hb c' (by omega))⟩
  · by_cases e : c' = c
    · rw [e, hn] at hb; cases hb
    · exact h2 c' b (by omega) hb
  · by_cases e : c' = c
    · exact h3 c' (Or.inl (by omega))
    · exact h3 c' (by rcases hq with q | q; exact Or.inl (by omega); exact Or.inr q)
theorem GC.add {ad : Nat → Nat → Nat} {Q : Nat → Option Nat} {f0 f : Nat → Nat → Int32} {kd c b : Nat} (hi : Inj ad) (hu : ∀ c' b, c' < c → Q c' = some b → ¬ Q c = some b) (h : GC ad Q f0 kd c f) (hb : Q c = some b) : GC ad Q f0 kd (c + 1) (up2 (up2 (up2 (up2 f (ad 2 b) 10 (cdV (kd + cnQ Q c))) (ad 1 c) 7 (f (ad 1 c) 6)) (ad 1 c) 6 (f (ad 1 c) 5)) (ad 1 c) 5 (cdV (kd + cnQ Q c))) := by
  obtain ⟨h1, h2, h3, h4⟩ := h
  have n12 : ∀ i j, ¬ ad 1 i = ad 2 j := fun i j y => absurd (hi _ _ _ _ y).1 (by decide)
  have n21 : ∀ i j, ¬ ad 2 i = ad 1 j := fun i j y => absurd (hi _ _ _ _ y).1 (by decide)
  have e2 : ∀ b' k v1 v2 v3, up2 (up2 (up2 (up2 f (ad 2 b) 10 (cdV (kd + cnQ Q c))) (ad 1 c) 7 v1) (ad 1 c) 6 v2) (ad 1 c) 5 v3 (ad 2 b') k = up2 f (ad 2 b) 10 (cdV (kd + cnQ Q c)) (ad 2 b') k := fun b' k v1 v2 v3 => by
    rw [up2_n _ _ (fun y => n21 _ _ y.1), up2_n _ _ (fun y => n21 _ _ y.1), up2_n _ _ (fun y => n21 _ _ y.1)]
  have e1 : ∀ c' k v1 v2 v3, ¬ c' = c → up2 (up2 (up2 (up2 f (ad 2 b) 10 (cdV (kd + cnQ Q c))) (ad 1 c) 7 v1) (ad 1 c) 6 v2) (ad 1 c) 5 v3 (ad 1 c') k = f (ad 1 c') k := fun c' k v1 v2 v3 z => by
    rw [up2_n _ _ (fun y => z (hi _ _ _ _ y.1).2), up2_n _ _ (fun y => z (hi _ _ _ _ y.1).2), up2_n _ _ (fun y => z (hi _ _ _ _ y.1).2), up2_n _ _ (fun y => n12 _ _ y.1)]
  refine ⟨fun t i k z1 z2 => ?_, fun c' b' hc hb' => ?_, fun c' hq s => ?_, fun b' hb' => ?_⟩
  · rw [up2_n _ _ (fun y => z2 ⟨(hi _ _ _ _ y.1).1, by omega⟩), up2_n _ _ (fun y => z2 ⟨(hi _ _ _ _ y.1).1, by omega⟩), up2_n _ _ (fun y => z2 ⟨(hi _ _ _ _ y.1).1, by omega⟩), up2_n _ _ (fun y => z1 ⟨(hi _ _ _ _ y.1).1, y.2⟩)]
    exact h1 t i k z1 z2
  · by_cases e : c' = c
    · subst e
      rw [hb] at hb'
      cases hb'
      refine ⟨by rw [e2, up2_s], up2_s _ _ _ _, ?_, ?_⟩
      · rw [up2_n _ _ (fun y => absurd y.2 (by decide)), up2_s]; exact h3 c' (Or.inl (Nat.le_refl _)) 5
      · rw [up2_n _ _ (fun y => absurd y.2 (by decide)), up2_n _ _ (fun y => absurd y.2 (by decide)), up2_s]; exact h3 c' (Or.inl (Nat.le_refl _)) 6
    · have hbb : ¬ b' = b := fun z => hu c' b' (by omega) hb' (by rw [z]; exact hb)
      rw [e2, e1 _ _ _ _ _ e, e1 _ _ _ _ _ e, e1 _ _ _ _ _ e, up2_n _ _ (fun y => hbb (hi _ _ _ _ y.1).2)]
      exact h2 c' b' (by omega) hb'
  · by_cases e : c' = c
    · rcases hq with q | q
      · omega
      · rw [e, hb] at q; cases q
    · rw [e1 _ _ _ _ _ e]
      exact h3 c' (by rcases hq with q | q; exact Or.inl (by omega); exact Or.inr q) s
  · rw [e2, up2_n _ _ (fun y => hb' c (by omega) (by rw [(hi _ _ _ _ y.1).2]; exact hb))]
    exact h4 b' (fun c' hc => hb' c' (by omega))

set_option maxHeartbeats 4000000 in
set_option maxRecDepth 100000 in
theorem s_CY_guestsWhoCome {d : Nat} {M : Mem} {f : Nat → Nat → Int32} {g : Nat → Nat → Int64} {ad : Nat → Nat → Nat} {R : Option Value → Mem → Prop} {nc nb wk : Nat} {Q : Nat → Option Nat} (hd : 3 ≤ d) (hF : Fx M ad) (hC : Cs M ad nc) (hB : Bs M ad nb) (nc3 : nc ≤ 7) (hwk : wk < 52) (hQ : ∀ c, c < nc → mR M (ad 0 4) (7 * wk + c) = (Q c).map (ad 2)) (hQb : ∀ c b, c < nc → Q c = some b → b < nb) (nc1 : f (ad 0 0) 1 = nI nc) (wk1 : f (ad 0 0) 7 = nI wk) (hR : R (some (.int (gsO Q (fun b => f (ad 2 b) 2) nc))) (mm M f g)) : Call d 173 [.ref (ad 0 0)] (mm M f g) R := by
  have key : ∀ c, c ≤ nc → ∀ u3, Go d 173 0 0 4 [.ref (ad 0 0), .int (gsO Q (fun b => f (ad 2 b) 2) c), .int (nI c), u3] [] (mm M f g) R := by
    refine up_ind (P := fun c => ∀ u3, Go d 173 0 0 4 [.ref (ad 0 0), .int (gsO Q (fun b => f (ad 2 b) 2) c), .int (nI c), u3] [] (mm M f g) R) nc (fun u3 => ?_) (fun c hc ih u3 => ?_)
    ·
      show Go d 173 0 0 4 [.ref (ad 0 0), .int (gsO Q (fun b => f (ad 2 b) 2) nc), .int (nI nc), u3] [] (mm M f g) R
      refine go_blk 3 [some (.int (nI nc))] (pc' := 9) (vs' := [.ref (ad 0 0), .int (gsO Q (fun b => f (ad 2 b) 2) nc), .int (nI nc), u3]) (st' := [.int (nI nc), .int (nI nc)]) (M' := mm M f g) (ps := [ob (mm M f g) (ad 0 0) 11, (Value.int (f (ad 0 0) 1)) = .int (nI nc)]) rfl ⟨(hF.o 0), congrArg Value.int nc1, trivial⟩ ?_
      refine go_icmp rfl (fun _ => ?_) (fun (z : ¬ (nI nc ≤ (nI nc))) => absurd (show nI nc ≤ (nI nc) from Int32.le_refl _) z)
      refine go_blk 1 [] (pc' := 44) (vs' := [.ref (ad 0 0), .int (gsO Q (fun b => f (ad 2 b) 2) nc), .int (nI nc), u3]) (st' := [.int (gsO Q (fun b => f (ad 2 b) 2) nc)]) (M' := mm M f g) (ps := []) rfl trivial ?_
      refine go_iret rfl rfl ?_
      exact hR
    · have hr := hQ c hc
      cases hq : Q c with
      | none =>
        rw [hq] at hr
        replace ih := fun u => ih u
        rw [gsO_n hq] at ih
        show Go d 173 0 0 4 [.ref (ad 0 0), .int (gsO Q (fun b => f (ad 2 b) 2) c), .int (nI c), u3] [] (mm M f g) R
        refine go_blk 3 [some (.int (nI nc))] (pc' := 9) (vs' := [.ref (ad 0 0), .int (gsO Q (fun b => f (ad 2 b) 2) c), .int (nI c), u3]) (st' := [.int (nI nc), .int (nI c)]) (M' := mm M f g) (ps := [ob (mm M f g) (ad 0 0) 11, (Value.int (f (ad 0 0) 1)) = .int (nI nc)]) rfl ⟨(hF.o 0), congrArg Value.int nc1, trivial⟩ ?_
        refine go_icmp rfl (fun (z : nI nc ≤ (nI c)) => absurd z (show ¬ (nI nc ≤ (nI c)) from (Int32.not_le.mpr ((nI_lts (a := c) (b := nc) (by omega) (by omega)).mpr hc)))) (fun _ => ?_)
        refine go_blk 4 [some (.int (nI wk))] (pc' := 18) (vs' := [.ref (ad 0 0), .int (gsO Q (fun b => f (ad 2 b) 2) c), .int (nI c), u3]) (st' := [.int (nI c), .int (nI wk), .ref (ad 0 0)]) (M' := mm M f g) (ps := [ob (mm M f g) (ad 0 0) 11, (Value.int (f (ad 0 0) 7)) = .int (nI wk)]) rfl ⟨(hF.o 0), congrArg Value.int wk1, trivial⟩ ?_
        refine go_callV rfl rfl rfl (by omega) rfl (by decide) (by decide) (hF.o 0) ?_
        refine s_CY_stayAt (q := none) (by omega) hF hC nc1 nc3 hwk hc hr ⟨ne_0, ?_⟩
        show Go d 173 0 0 21 [.ref (ad 0 0), .int (gsO Q (fun b => f (ad 2 b) 2) c), .int (nI c), u3] [.null] (mm M f g) R
        refine go_blk 3 [] (pc' := 24) (vs' := [.ref (ad 0 0), .int (gsO Q (fun b => f (ad 2 b) 2) c), .int (nI c), .null]) (st' := [.null, .int (gsO Q (fun b => f (ad 2 b) 2) c)]) (M' := mm M f g) (ps := []) rfl trivial ?_
        refine go_ifnon0 rfl ?_
        refine go_blk 6 [] (pc' := 4) (vs' := [.ref (ad 0 0), .int ((gsO Q (fun b => f (ad 2 b) 2) c) + 0), .int ((nI c) + 1), .null]) (st' := []) (M' := mm M f g) (ps := []) rfl trivial ?_
        rw [show nI c + 1 = nI (c + 1) from nI_add c 1]
        exact ih _
      | some b =>
        have hb := hQb c b hc hq
        rw [hq] at hr
        replace ih := fun u => ih u
        rw [gsO_s hq] at ih
        show Go d 173 0 0 4 [.ref (ad 0 0), .int (gsO Q (fun b => f (ad 2 b) 2) c), .int (nI c), u3] [] (mm M f g) R
        refine go_blk 3 [some (.int (nI nc))] (pc' := 9) (vs' := [.ref (ad 0 0), .int (gsO Q (fun b => f (ad 2 b) 2) c), .int (nI c), u3]) (st' := [.int (nI nc), .int (nI c)]) (M' := mm M f g) (ps := [ob (mm M f g) (ad 0 0) 11, (Value.int (f (ad 0 0) 1)) = .int (nI nc)]) rfl ⟨(hF.o 0), congrArg Value.int nc1, trivial⟩ ?_
        refine go_icmp rfl (fun (z : nI nc ≤ (nI c)) => absurd z (show ¬ (nI nc ≤ (nI c)) from (Int32.not_le.mpr ((nI_lts (a := c) (b := nc) (by omega) (by omega)).mpr hc)))) (fun _ => ?_)
        refine go_blk 4 [some (.int (nI wk))] (pc' := 18) (vs' := [.ref (ad 0 0), .int (gsO Q (fun b => f (ad 2 b) 2) c), .int (nI c), u3]) (st' := [.int (nI c), .int (nI wk), .ref (ad 0 0)]) (M' := mm M f g) (ps := [ob (mm M f g) (ad 0 0) 11, (Value.int (f (ad 0 0) 7)) = .int (nI wk)]) rfl ⟨(hF.o 0), congrArg Value.int wk1, trivial⟩ ?_
        refine go_callV rfl rfl rfl (by omega) rfl (by decide) (by decide) (hF.o 0) ?_
        refine s_CY_stayAt (q := some (ad 2 b)) (by omega) hF hC nc1 nc3 hwk hc hr ⟨ne_a, ?_⟩
        show Go d 173 0 0 21 [.ref (ad 0 0), .int (gsO Q (fun b => f (ad 2 b) 2) c), .int (nI c), u3] [.ref (ad 2 b)] (mm M f g) R
        refine go_blk 3 [] (pc' := 24) (vs' := [.ref (ad 0 0), .int (gsO Q (fun b => f (ad 2 b) 2) c), .int (nI c), .ref (ad 2 b)]) (st' := [.ref (ad 2 b), .int (gsO Q (fun b => f (ad 2 b) 2) c)]) (M' := mm M f g) (ps := []) rfl trivial ?_
        refine go_ifnon1 rfl ?_
        refine go_blk 6 [] (pc' := 4) (vs' := [.ref (ad 0 0), .int ((gsO Q (fun b => f (ad 2 b) 2) c) + (f (ad 2 b) 2)), .int ((nI c) + 1), .ref (ad 2 b)]) (st' := []) (M' := mm M f g) (ps := [ob (mm M f g) (ad 2 b) 0]) rfl ⟨(hB b (by assumption)).2, trivial⟩ ?_
        rw [show nI c + 1 = nI (c + 1) from nI_add c 1]
        exact ih _
  show Go d 173 0 0 0 [.ref (ad 0 0), .retAddr 0, .retAddr 0, .retAddr 0] [] (mm M f g) R
  refine go_blk 4 [] (pc' := 4) (vs' := [.ref (ad 0 0), .int 0, .int 0, .retAddr 0]) (st' := []) (M' := mm M f g) (ps := []) rfl trivial ?_
  exact key 0 (Nat.zero_le _) _

set_option maxHeartbeats 4000000 in
set_option maxRecDepth 100000 in
theorem s_CY_giveCodes {d : Nat} {M : Mem} {f0 : Nat → Nat → Int32} {g : Nat → Nat → Int64} {ad : Nat → Nat → Nat} {R : Option Value → Mem → Prop} {nc nb wk kd : Nat} {Q : Nat → Option Nat} (hd : 3 ≤ d) (hi : Inj ad) (hF : Fx M ad) (hC : Cs M ad nc) (hB : Bs M ad nb) (nc3 : nc ≤ 7) (hwk : wk < 52) (hQ : ∀ c, c < nc → mR M (ad 0 4) (7 * wk + c) = (Q c).map (ad 2)) (hQb : ∀ c b, c < nc → Q c = some b → b < nb) (hu : ∀ c c' b, c < nc → c' < c → Q c' = some b → ¬ Q c = some b) (hkd : kd + cnQ Q nc ≤ 61) (hk : g (ad 0 0) 12 = cdS kd) (h0 : ∀ c, c < nc → ∀ s, 5 ≤ s → s ≤ 7 → f0 (ad 1 c) s = -1 ∨ ∃ k, k < kd ∧ f0 (ad 1 c) s = cdV k) (nc1 : f0 (ad 0 0) 1 = nI nc) (wk1 : f0 (ad 0 0) 7 = nI wk) (hR : ∀ f, GC ad Q f0 kd nc f → R none (mm M f (up2 g (ad 0 0) 12 (cdS (kd + cnQ Q nc))))) : Call d 174 [.ref (ad 0 0)] (mm M f0 g) R := by
  have key : ∀ c, c ≤ nc → ∀ f u2, GC ad Q f0 kd c f → Go d 174 0 0 2 [.ref (ad 0 0), .int (nI c), u2] [] (mm M f (up2 g (ad 0 0) 12 (cdS (kd + cnQ Q c)))) R := by
    refine up_ind (P := fun c => ∀ f u2, GC ad Q f0 kd c f → Go d 174 0 0 2 [.ref (ad 0 0), .int (nI c), u2] [] (mm M f (up2 g (ad 0 0) 12 (cdS (kd + cnQ Q c)))) R) nc (fun f u2 h => ?_) (fun c hc ih f u2 h => ?_)
    ·
      show Go d 174 0 0 2 [.ref (ad 0 0), .int (nI nc), u2] [] (mm M f (up2 g (ad 0 0) 12 (cdS (kd + cnQ Q nc)))) R
      refine go_blk 3 [some (.int (nI nc))] (pc' := 7) (vs' := [.ref (ad 0 0), .int (nI nc), u2]) (st' := [.int (nI nc), .int (nI nc)]) (M' := mm M f (up2 g (ad 0 0) 12 (cdS (kd + cnQ Q nc)))) (ps := [ob (mm M f (up2 g (ad 0 0) 12 (cdS (kd + cnQ Q nc)))) (ad 0 0) 11, (Value.int (f (ad 0 0) 1)) = .int (nI nc)]) rfl ⟨(hF.o 0), congrArg Value.int ((h.1 0 0 1 (by omega) (by omega)).trans nc1), trivial⟩ ?_
      refine go_icmp rfl (fun _ => ?_) (fun (z : ¬ (nI nc ≤ (nI nc))) => absurd (show nI nc ≤ (nI nc) from Int32.le_refl _) z)
      refine go_vret rfl rfl ?_
      exact hR f h
    · have hr := hQ c hc
      have fnc := (h.1 0 0 1 (by omega) (by omega)).trans nc1
      cases hq : Q c with
      | none =>
        rw [hq] at hr
        rw [cnQ_n hq] at ih
        show Go d 174 0 0 2 [.ref (ad 0 0), .int (nI c), u2] [] (mm M f (up2 g (ad 0 0) 12 (cdS (kd + cnQ Q c)))) R
        refine go_blk 3 [some (.int (nI nc))] (pc' := 7) (vs' := [.ref (ad 0 0), .int (nI c), u2]) (st' := [.int (nI nc), .int (nI c)]) (M' := mm M f (up2 g (ad 0 0) 12 (cdS (kd + cnQ Q c)))) (ps := [ob (mm M f (up2 g (ad 0 0) 12 (cdS (kd + cnQ Q c)))) (ad 0 0) 11, (Value.int (f (ad 0 0) 1)) = .int (nI nc)]) rfl ⟨(hF.o 0), congrArg Value.int ((h.1 0 0 1 (by omega) (by omega)).trans nc1), trivial⟩ ?_
        refine go_icmp rfl (fun (z : nI nc ≤ (nI c)) => absurd z (show ¬ (nI nc ≤ (nI c)) from (Int32.not_le.mpr ((nI_lts (a := c) (b := nc) (by omega) (by omega)).mpr hc)))) (fun _ => ?_)
        refine go_blk 4 [some (.int (nI wk))] (pc' := 16) (vs' := [.ref (ad 0 0), .int (nI c), u2]) (st' := [.int (nI c), .int (nI wk), .ref (ad 0 0)]) (M' := mm M f (up2 g (ad 0 0) 12 (cdS (kd + cnQ Q c)))) (ps := [ob (mm M f (up2 g (ad 0 0) 12 (cdS (kd + cnQ Q c)))) (ad 0 0) 11, (Value.int (f (ad 0 0) 7)) = .int (nI wk)]) rfl ⟨(hF.o 0), congrArg Value.int ((h.1 0 0 7 (by omega) (by omega)).trans wk1), trivial⟩ ?_
        refine go_callV rfl rfl rfl (by omega) rfl (by decide) (by decide) (hF.o 0) ?_
        refine s_CY_stayAt (q := none) (by omega) hF hC fnc nc3 hwk hc hr ⟨ne_0, ?_⟩
        show Go d 174 0 0 19 [.ref (ad 0 0), .int (nI c), u2] [.null] (mm M f (up2 g (ad 0 0) 12 (cdS (kd + cnQ Q c)))) R
        refine go_blk 2 [] (pc' := 21) (vs' := [.ref (ad 0 0), .int (nI c), .null]) (st' := [.null]) (M' := mm M f (up2 g (ad 0 0) 12 (cdS (kd + cnQ Q c)))) (ps := []) rfl trivial ?_
        refine go_ifnull0 rfl ?_
        refine go_blk 2 [] (pc' := 2) (vs' := [.ref (ad 0 0), .int ((nI c) + 1), .null]) (st' := []) (M' := mm M f (up2 g (ad 0 0) 12 (cdS (kd + cnQ Q c)))) (ps := []) rfl trivial ?_
        rw [show nI c + 1 = nI (c + 1) from nI_add c 1]
        exact ih f _ (h.skip hq)
      | some b =>
        have hb := hQb c b hc hq
        have hm := cnQ_mono Q (show c + 1 ≤ nc by omega)
        rw [cnQ_s hq] at hm
        have h5 : ∀ s, 5 ≤ s → s ≤ 7 → ¬ cdV (kd + cnQ Q c) = f (ad 1 c) s := fun s s1 s2 z => by
          rw [h.2.2.1 c (Or.inl (Nat.le_refl _)) s] at z
          rcases h0 c hc s s1 s2 with e | ⟨k, k1, k2⟩
          · exact cdV_m (by omega) (z.trans e)
          · exact cdV_n (by omega) (by omega) (z.trans k2)
        have hadd := GC.add hi (fun c' b => hu c c' b hc) h hq
        rw [hq] at hr
        rw [cnQ_s hq] at ih
        show Go d 174 0 0 2 [.ref (ad 0 0), .int (nI c), u2] [] (mm M f (up2 g (ad 0 0) 12 (cdS (kd + cnQ Q c)))) R
        refine go_blk 3 [some (.int (nI nc))] (pc' := 7) (vs' := [.ref (ad 0 0), .int (nI c), u2]) (st' := [.int (nI nc), .int (nI c)]) (M' := mm M f (up2 g (ad 0 0) 12 (cdS (kd + cnQ Q c)))) (ps := [ob (mm M f (up2 g (ad 0 0) 12 (cdS (kd + cnQ Q c)))) (ad 0 0) 11, (Value.int (f (ad 0 0) 1)) = .int (nI nc)]) rfl ⟨(hF.o 0), congrArg Value.int ((h.1 0 0 1 (by omega) (by omega)).trans nc1), trivial⟩ ?_
        refine go_icmp rfl (fun (z : nI nc ≤ (nI c)) => absurd z (show ¬ (nI nc ≤ (nI c)) from (Int32.not_le.mpr ((nI_lts (a := c) (b := nc) (by omega) (by omega)).mpr hc)))) (fun _ => ?_)
        refine go_blk 4 [some (.int (nI wk))] (pc' := 16) (vs' := [.ref (ad 0 0), .int (nI c), u2]) (st' := [.int (nI c), .int (nI wk), .ref (ad 0 0)]) (M' := mm M f (up2 g (ad 0 0) 12 (cdS (kd + cnQ Q c)))) (ps := [ob (mm M f (up2 g (ad 0 0) 12 (cdS (kd + cnQ Q c)))) (ad 0 0) 11, (Value.int (f (ad 0 0) 7)) = .int (nI wk)]) rfl ⟨(hF.o 0), congrArg Value.int ((h.1 0 0 7 (by omega) (by omega)).trans wk1), trivial⟩ ?_
        refine go_callV rfl rfl rfl (by omega) rfl (by decide) (by decide) (hF.o 0) ?_
        refine s_CY_stayAt (q := some (ad 2 b)) (by omega) hF hC fnc nc3 hwk hc hr ⟨ne_a, ?_⟩
        show Go d 174 0 0 19 [.ref (ad 0 0), .int (nI c), u2] [.ref (ad 2 b)] (mm M f (up2 g (ad 0 0) 12 (cdS (kd + cnQ Q c)))) R
        refine go_blk 2 [] (pc' := 21) (vs' := [.ref (ad 0 0), .int (nI c), .ref (ad 2 b)]) (st' := [.ref (ad 2 b)]) (M' := mm M f (up2 g (ad 0 0) 12 (cdS (kd + cnQ Q c)))) (ps := []) rfl trivial ?_
        refine go_ifnull1 rfl ?_
        refine go_blk 6 [some (.ref (ad 0 1)), some (.ref (ad 1 c))] (pc' := 32) (vs' := [.ref (ad 0 0), .int (nI c), .ref (ad 2 b)]) (st' := [.ref (ad 1 c), .ref (ad 0 0), .ref (ad 2 b)]) (M' := mm M f (up2 g (ad 0 0) 12 (cdS (kd + cnQ Q c)))) (ps := [ob (mm M f (up2 g (ad 0 0) 12 (cdS (kd + cnQ Q c)))) (ad 0 0) 11, mR (mm M f (up2 g (ad 0 0) 12 (cdS (kd + cnQ Q c)))) (ad 0 0) 0 = some (ad 0 1), va_rf (some (ad 0 1)) = .ref (ad 0 1), ob (mm M f (up2 g (ad 0 0) 12 (cdS (kd + cnQ Q c)))) (ad 0 1) 18, 17 ≤ 18 ∧ 18 < 22, vp_in (nI c) (mN (mm M f (up2 g (ad 0 0) 12 (cdS (kd + cnQ Q c)))) (ad 0 1)), mR (mm M f (up2 g (ad 0 0) 12 (cdS (kd + cnQ Q c)))) (ad 0 1) ((nI c).toNatClampNeg) = some (ad 1 c), va_rf (some (ad 1 c)) = .ref (ad 1 c)]) rfl ⟨(hF.o 0), (hF.r 0 0 1), rfl, (hF.o 1), (by decide), (vpi (hF.n 1) (show _ < 7 by omega)), (cl_rf rfl (by omega) (hC c (by assumption)).1), rfl, trivial⟩ ?_
        refine go_callV rfl rfl rfl (by omega) rfl (by decide) (by decide) (hF.o 0) ?_
        refine s_CY_nextCode (k := kd + cnQ Q c) (by omega) hF hC hc (up2_s _ _ _ _) (cdV_m (by omega)) (h5 5 (by omega) (by omega)) (h5 6 (by omega) (by omega)) (h5 7 (by omega) (by omega)) ⟨ne_i, ?_⟩
        show Go d 174 0 0 35 [.ref (ad 0 0), .int (nI c), .ref (ad 2 b)] [.int (cdV (kd + cnQ Q c)), .ref (ad 2 b)] (mm M f (up2 (up2 g (ad 0 0) 12 (cdS (kd + cnQ Q c))) (ad 0 0) 12 (cdS (kd + cnQ Q c + 1)))) R
        refine go_blk 7 [some (.ref (ad 0 1)), some (.ref (ad 1 c)), some (.int (cdV (kd + cnQ Q c)))] (pc' := 48) (vs' := [.ref (ad 0 0), .int (nI c), .ref (ad 2 b)]) (st' := [.int (cdV (kd + cnQ Q c)), .ref (ad 1 c)]) (M' := mm M (up2 f (ad 2 b) 10 (cdV (kd + cnQ Q c))) (up2 (up2 g (ad 0 0) 12 (cdS (kd + cnQ Q c))) (ad 0 0) 12 (cdS (kd + cnQ Q c + 1)))) (ps := [ob (mm M f (up2 (up2 g (ad 0 0) 12 (cdS (kd + cnQ Q c))) (ad 0 0) 12 (cdS (kd + cnQ Q c + 1)))) (ad 2 b) 0, ob (mm M (up2 f (ad 2 b) 10 (cdV (kd + cnQ Q c))) (up2 (up2 g (ad 0 0) 12 (cdS (kd + cnQ Q c))) (ad 0 0) 12 (cdS (kd + cnQ Q c + 1)))) (ad 0 0) 11, mR (mm M (up2 f (ad 2 b) 10 (cdV (kd + cnQ Q c))) (up2 (up2 g (ad 0 0) 12 (cdS (kd + cnQ Q c))) (ad 0 0) 12 (cdS (kd + cnQ Q c + 1)))) (ad 0 0) 0 = some (ad 0 1), va_rf (some (ad 0 1)) = .ref (ad 0 1), ob (mm M (up2 f (ad 2 b) 10 (cdV (kd + cnQ Q c))) (up2 (up2 g (ad 0 0) 12 (cdS (kd + cnQ Q c))) (ad 0 0) 12 (cdS (kd + cnQ Q c + 1)))) (ad 0 1) 18, 17 ≤ 18 ∧ 18 < 22, vp_in (nI c) (mN (mm M (up2 f (ad 2 b) 10 (cdV (kd + cnQ Q c))) (up2 (up2 g (ad 0 0) 12 (cdS (kd + cnQ Q c))) (ad 0 0) 12 (cdS (kd + cnQ Q c + 1)))) (ad 0 1)), mR (mm M (up2 f (ad 2 b) 10 (cdV (kd + cnQ Q c))) (up2 (up2 g (ad 0 0) 12 (cdS (kd + cnQ Q c))) (ad 0 0) 12 (cdS (kd + cnQ Q c + 1)))) (ad 0 1) ((nI c).toNatClampNeg) = some (ad 1 c), va_rf (some (ad 1 c)) = .ref (ad 1 c), ob (mm M (up2 f (ad 2 b) 10 (cdV (kd + cnQ Q c))) (up2 (up2 g (ad 0 0) 12 (cdS (kd + cnQ Q c))) (ad 0 0) 12 (cdS (kd + cnQ Q c + 1)))) (ad 2 b) 0, (Value.int ((up2 f (ad 2 b) 10 (cdV (kd + cnQ Q c))) (ad 2 b) 10)) = .int (cdV (kd + cnQ Q c))]) rfl ⟨(hB b (by assumption)).2, (hF.o 0), (hF.r 0 0 1), rfl, (hF.o 1), (by decide), (vpi (hF.n 1) (show _ < 7 by omega)), (cl_rf rfl (by omega) (hC c (by assumption)).1), rfl, (hB b (by assumption)).2, congrArg Value.int (up2_s _ _ _ _), trivial⟩ ?_
        refine go_callV rfl rfl rfl (by omega) rfl (by decide) (by decide) (hC c (by assumption)).2 ?_
        refine s_Co_keepCode (by omega) hC hc ⟨ne_v, ?_⟩
        show Go d 174 0 0 51 [.ref (ad 0 0), .int (nI c), .ref (ad 2 b)] [] (mm M (up2 (up2 (up2 (up2 f (ad 2 b) 10 (cdV (kd + cnQ Q c))) (ad 1 c) 7 ((up2 f (ad 2 b) 10 (cdV (kd + cnQ Q c))) (ad 1 c) 6)) (ad 1 c) 6 ((up2 f (ad 2 b) 10 (cdV (kd + cnQ Q c))) (ad 1 c) 5)) (ad 1 c) 5 (cdV (kd + cnQ Q c))) (up2 (up2 g (ad 0 0) 12 (cdS (kd + cnQ Q c))) (ad 0 0) 12 (cdS (kd + cnQ Q c + 1)))) R
        refine go_blk 2 [] (pc' := 2) (vs' := [.ref (ad 0 0), .int ((nI c) + 1), .ref (ad 2 b)]) (st' := []) (M' := mm M (up2 (up2 (up2 (up2 f (ad 2 b) 10 (cdV (kd + cnQ Q c))) (ad 1 c) 7 ((up2 f (ad 2 b) 10 (cdV (kd + cnQ Q c))) (ad 1 c) 6)) (ad 1 c) 6 ((up2 f (ad 2 b) 10 (cdV (kd + cnQ Q c))) (ad 1 c) 5)) (ad 1 c) 5 (cdV (kd + cnQ Q c))) (up2 (up2 g (ad 0 0) 12 (cdS (kd + cnQ Q c))) (ad 0 0) 12 (cdS (kd + cnQ Q c + 1)))) (ps := []) rfl trivial ?_
        rw [show nI c + 1 = nI (c + 1) from nI_add c 1]
        rw [up2_up2, up2_n f _ (fun y => absurd (hi _ _ _ _ y.1).1 (by decide)), up2_n f _ (fun y => absurd (hi _ _ _ _ y.1).1 (by decide))]
        exact ih _ _ hadd
  show Go d 174 0 0 0 [.ref (ad 0 0), .retAddr 0, .retAddr 0] [] (mm M f0 g) R
  refine go_blk 2 [] (pc' := 2) (vs' := [.ref (ad 0 0), .int 0, .retAddr 0]) (st' := []) (M' := mm M f0 g) (ps := []) rfl trivial ?_
  have hg : g = up2 g (ad 0 0) 12 (cdS (kd + cnQ Q 0)) := (up2_self hk).symm
  rw [hg]
  exact key 0 (Nat.zero_le _) f0 _ (GC.zero ad Q f0 kd)

