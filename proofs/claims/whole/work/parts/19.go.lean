/-! 'run' grows with its fuel, its depth, its budgets and its end; walks over it -/
theorem swR_mono {x : Int32} {f g : Nat → Prop} {a : Nat} (h : ∀ t, f t → g t) : ∀ {ts : List (Int32 × Nat)}, swR x f a ts → swR x g a ts
  | [], q => h _ q
  | (_, _) :: _, q => ⟨fun z => h _ (q.1 z), fun z => swR_mono h (q.2 z)⟩
def mat (z : ZStp) (P : List Prop → Nat → List Value → List Value → Mem → Prop) : Prop := match z with
  | some (ps, pc', vs', st', M') => P ps pc' vs' st' M'
  | none => False
theorem mat_mono {P Q : List Prop → Nat → List Value → List Value → Mem → Prop} (h : ∀ a b c d e, P a b c d e → Q a b c d e) (z : ZStp) : mat z P → mat z Q := by
  cases z with
  | none => exact fun q => q
  | some r => exact fun q => h _ _ _ _ _ q
set_option maxHeartbeats 4000000 in
theorem runF_mono {P P' : PT} (hPP : ∀ (d k bc bs pc : Nat) (vs st : List Value) (M : Mem) (R : Option Value → Mem → Prop), P d k bc bs pc vs st M R → P' d k bc bs pc vs st M R) (hm : Mon P') (d d' k bc bc' bs bs' pc : Nat) (vs st : List Value) (M : Mem) (R R' : Option Value → Mem → Prop) (hd : d ≤ d') (hc : bc ≤ bc') (hs : bs ≤ bs') (hR : ∀ v M', R v M' → R' v M') (h : runF P d k bc bs pc vs st M R) : runF P' d' k bc' bs' pc vs st M R' := by
    have J : ∀ {pc' : Nat} {vs' st' : List Value} {M' : Mem}, P d k bc bs pc' vs' st' M' R → P' d' k bc' bs' pc' vs' st' M' R' := fun h => hm d d' k bc bc' bs bs' _ _ _ _ R R' hd hc hs hR (hPP _ _ _ _ _ _ _ _ _ h)
    have J2 : ∀ {x y pc' : Nat} {vs' st' : List Value} {M' : Mem}, P d k (bc - x) (bs - y) pc' vs' st' M' R → P' d' k (bc' - x) (bs' - y) pc' vs' st' M' R' := fun h => hm d d' k _ _ _ _ _ _ _ _ R R' hd (by omega) (by omega) hR (hPP _ _ _ _ _ _ _ _ _ h)
    unfold runF at h ⊢
    split at h
    · exact absurd h (fun z => z)
    rename_i p0 ins len a b t x0 w0 ts hf
    have fin : ∀ o : Option Nat, mat (stp o (p0, ins, len, a, b, t, x0, w0, ts) pc vs st M) (fun ps pc' vs' st' M' => allP ps ∧ P d k bc bs pc' vs' st' M' R) → mat (stp o (p0, ins, len, a, b, t, x0, w0, ts) pc vs st M) (fun ps pc' vs' st' M' => allP ps ∧ P' d' k bc' bs' pc' vs' st' M' R') := fun o => mat_mono (fun _ _ _ _ _ q => ⟨q.1, J q.2⟩) _
    cases ins with
    | ifCond cnd off =>
      dsimp only at h ⊢
      split at h
      · exact ⟨fun z => J (h.1 z), fun z => J (h.2 z)⟩
      · exact absurd h (fun z => z)
    | if_icmp cnd off =>
      dsimp only at h ⊢
      split at h
      · exact ⟨fun z => J (h.1 z), fun z => J (h.2 z)⟩
      · exact absurd h (fun z => z)
    | if_acmp cnd off =>
      cases cnd with
      | eq =>
        obtain ⟨o, h⟩ := h
        split at h
        · rename_i hs; cases hs
        · exact absurd h (fun z => z)
      | ne =>
        dsimp only at h ⊢
        split at h
        · obtain ⟨rx, ry, e1, e2, h1, h2⟩ := h
          exact ⟨rx, ry, e1, e2, fun z => J (h1 z), fun z => J (h2 z)⟩
        · exact absurd h (fun z => z)
    | ifnull off =>
      dsimp only at h ⊢
      split at h
      · exact J h
      · exact J h
      · exact absurd h (fun z => z)
    | ifnonnull off =>
      dsimp only at h ⊢
      split at h
      · exact J h
      · exact J h
      · exact absurd h (fun z => z)
    | tableswitch _ _ _ _ =>
      dsimp only at h ⊢
      split at h
      · exact swR_mono (fun _ z => J z) h
      · exact absurd h (fun z => z)
    | lookupswitch _ _ =>
      dsimp only at h ⊢
      split at h
      · exact swR_mono (fun _ z => J z) h
      · exact absurd h (fun z => z)
    | new ix =>
      dsimp only at h ⊢
      split at h
      · exact ⟨h.1, hR _ _ h.2⟩
      · exact ⟨by omega, by omega, fun q hq => J2 (h.2.2 q hq)⟩
    | newarray _ =>
      dsimp only at h ⊢
      split at h
      · obtain ⟨h1, h2, h3, h4, h5⟩ := h
        exact ⟨h1, h2, by omega, by omega, fun q hq => J2 (h5 q hq)⟩
      · exact absurd h (fun z => z)
    | anewarray _ =>
      dsimp only at h ⊢
      split at h
      · obtain ⟨h1, h2, h3, h4, h5⟩ := h
        exact ⟨h1, h2, by omega, by omega, fun q hq => J2 (h5 q hq)⟩
      · exact absurd h (fun z => z)
    | invokespecial ix =>
      dsimp only at h ⊢
      split at h
      · split at h
        · exact ⟨by omega, h.2.1, J h.2.2⟩
        · exact absurd h (fun z => z)
      · split at h
        · rename_i q as hst
          obtain ⟨h1, h2, h3, h4, h5⟩ := h
          exact ⟨by omega, h2, by omega, by omega, hm (d - 1) (d' - 1) a _ _ _ _ _ _ _ _ _ _ (by omega) (Nat.le_refl _) (Nat.le_refl _) (fun v M' z => ⟨z.1, J2 z.2⟩) (hPP _ _ _ _ _ _ _ _ _ h5)⟩
        · exact absurd h (fun z => z)
    | invokevirtual ix =>
      dsimp only at h ⊢
      split at h
      · rename_i q as hst
        obtain ⟨h1, h2, h3, h4, h6, h5⟩ := h
        exact ⟨by omega, h2, by omega, by omega, h6, hm (d - 1) (d' - 1) a _ _ _ _ _ _ _ _ _ _ (by omega) (Nat.le_refl _) (Nat.le_refl _) (fun v M' z => ⟨z.1, J2 z.2⟩) (hPP _ _ _ _ _ _ _ _ _ h5)⟩
      · exact absurd h (fun z => z)
    | invokestatic ix =>
      dsimp only at h ⊢
      split at h
      · split at h
        · obtain ⟨h1, h2, h3, h4, h5, h6, h7, h8, h9, h10⟩ := h
          exact ⟨by omega, h2, h3, h4, h5, h6, h7, h8, h9, J h10⟩
        · exact absurd h (fun z => z)
      · split at h
        · exact ⟨by omega, h.2.1, J h.2.2⟩
        · exact absurd h (fun z => z)
      · split at h
        · obtain ⟨h1, h2, h3, h4, h5, h6, h7, h8⟩ := h
          refine ⟨by omega, h2, by omega, by omega, h5, h6, h7, hm (d - 10) (d' - 10) 137 _ _ _ _ _ _ _ _ _ _ (by omega) (Nat.le_refl _) (Nat.le_refl _) (fun v M' z => ?_) (hPP _ _ _ _ _ _ _ _ _ h8)⟩
          rcases z with ⟨y, z1, zu, z2⟩ | ⟨z1, z2⟩
          · exact Or.inl ⟨y, z1, zu, J2 z2⟩
          · exact Or.inr ⟨z1, J2 z2⟩
        · exact absurd h (fun z => z)
      · obtain ⟨h1, h2, h3, h4, h5⟩ := h
        exact ⟨by omega, h2, by omega, by omega, hm (d - 1) (d' - 1) a _ _ _ _ _ _ _ _ _ _ (by omega) (Nat.le_refl _) (Nat.le_refl _) (fun v M' z => ⟨z.1, J2 z.2⟩) (hPP _ _ _ _ _ _ _ _ _ h5)⟩
    | ireturn =>
      dsimp only at h ⊢
      split at h
      · exact ⟨h.1, hR _ _ h.2⟩
      · exact absurd h (fun z => z)
    | lreturn =>
      dsimp only at h ⊢
      split at h
      · exact ⟨h.1, hR _ _ h.2⟩
      · exact absurd h (fun z => z)
    | areturn =>
      dsimp only at h ⊢
      split at h
      · exact ⟨h.1, hR _ _ h.2⟩
      · exact ⟨h.1, hR _ _ h.2⟩
      · exact absurd h (fun z => z)
    | return_ =>
      exact ⟨h.1, h.2.1, hR _ _ h.2.2⟩
    | _ =>
      obtain ⟨o, h⟩ := h
      exact ⟨o, fin o h⟩
theorem Go.mon : Mon Go := fun d d' k bc bc' bs bs' pc vs st M R R' hd hc hs hR h P hP hF => hP d d' k bc bc' bs bs' pc vs st M R R' hd hc hs hR (h P hP hF)
theorem go_fold {d k bc bs pc : Nat} {vs st : List Value} {M : Mem} {R : Option Value → Mem → Prop} (h : runF Go d k bc bs pc vs st M R) : Go d k bc bs pc vs st M R := fun P hP hF =>
  hF _ _ _ _ _ _ _ _ _ (runF_mono (fun _ _ _ _ _ _ _ _ _ q => q P hP hF) hP d d k bc bc bs bs pc vs st M R R (Nat.le_refl _) (Nat.le_refl _) (Nat.le_refl _) (fun _ _ q => q) h)
/-- a whole method, from its arguments -/
def Call (d a : Nat) (av : List Value) (M : Mem) (R : Option Value → Mem → Prop) : Prop := Go d a (pMc (tbl a)) (pMs (tbl a)) 0 (padV (pL (tbl a)) (ent av)) [] M R
theorem Go.mono {d d' k bc bc' bs bs' pc : Nat} {vs st : List Value} {M : Mem} {R R' : Option Value → Mem → Prop} (h : Go d k bc bs pc vs st M R) (hd : d ≤ d') (hc : bc ≤ bc') (hs : bs ≤ bs') (hR : ∀ v M', R v M' → R' v M') : Go d' k bc' bs' pc vs st M R' := Go.mon _ _ _ _ _ _ _ _ _ _ _ _ _ hd hc hs hR h
theorem Call.mono {d d' a : Nat} {av : List Value} {M : Mem} {R R' : Option Value → Mem → Prop} (h : Call d a av M R) (hd : d ≤ d') (hR : ∀ v M', R v M' → R' v M') : Call d' a av M R' := Go.mono h hd (Nat.le_refl _) (Nat.le_refl _) hR
/-- what a block loads: the value that is told, if it is told -/
def isLd (i : Instr) : Bool := match i with
  | .getfield _ => true | .iaload => true | .laload => true | .baload => true | .aaload => true
  | _ => false
def rawR (i : Ins) (st : List Value) (M : Mem) : Option Nat := match i with
  | (_, ins, _, _, b, _, _, _, _) => match ins, st with
    | .getfield _, .ref q :: _ => mR M q b
    | .aaload, .int x :: .ref q :: _ => mR M q x.toNatClampNeg
    | _, _ => none
def asR (v : Value) : Option Nat := match v with
  | .ref a => some a
  | _ => none
def blk : Nat → List (Option Value) → Nat → Nat → List Value → List Value → Mem → ZStp
  | 0, _, _, pc, vs, st, M => some ([], pc, vs, st, M)
  | n + 1, os, k, pc, vs, st, M => match fet k pc with
    | none => none
    | some i => match isLd i.2.1, os with
      | true, some v :: os' => (match stp (asR v) i pc vs st M with
        | some (ps, pc', vs', w :: st', M') => (match blk n os' k pc' vs' (v :: st') M' with
          | some (qs, r) => some (ps ++ (w = v) :: qs, r)
          | none => none)
        | _ => none)
      | true, none :: os' => (match stp (rawR i st M) i pc vs st M with
        | some (ps, pc', vs', st', M') => (match blk n os' k pc' vs' st' M' with
          | some (qs, r) => some (ps ++ qs, r)
          | none => none)
        | _ => none)
      | true, [] => (match stp (rawR i st M) i pc vs st M with
        | some (ps, pc', vs', st', M') => (match blk n [] k pc' vs' st' M' with
          | some (qs, r) => some (ps ++ qs, r)
          | none => none)
        | _ => none)
      | false, os => (match stp none i pc vs st M with
        | some (ps, pc', vs', st', M') => (match blk n os k pc' vs' st' M' with
          | some (qs, r) => some (ps ++ qs, r)
          | none => none)
        | _ => none)
theorem allP_app : ∀ {ps qs : List Prop}, allP (ps ++ qs) → allP ps ∧ allP qs
  | [], _, h => ⟨trivial, h⟩
  | _ :: _, _, h => ⟨⟨h.1, (allP_app h.2).1⟩, (allP_app h.2).2⟩
theorem stp_go {d k bc bs pc : Nat} {vs st : List Value} {M : Mem} {R : Option Value → Mem → Prop} {i : Ins} {o : Option Nat} {ps : List Prop} {pc' : Nat} {vs' st' : List Value} {M' : Mem} (hf : fet k pc = some i) (hs : stp o i pc vs st M = some (ps, pc', vs', st', M')) (hp : allP ps) (h : Go d k bc bs pc' vs' st' M' R) : Go d k bc bs pc vs st M R := by
  refine go_fold ?_
  unfold runF
  rw [hf]
  obtain ⟨p0, ins, len, a, b, t, x0, w0, ts⟩ := i
  cases ins with
  | ifCond _ _ => cases hs
  | if_icmp _ _ => cases hs
  | if_acmp c _ => cases hs
  | ifnull _ => cases hs
  | ifnonnull _ => cases hs
  | tableswitch _ _ _ _ => cases hs
  | lookupswitch _ _ => cases hs
  | new _ => cases hs
  | newarray _ => cases hs
  | anewarray _ => cases hs
  | invokespecial _ => cases hs
  | invokevirtual _ => cases hs
  | invokestatic _ => cases hs
  | ireturn => cases hs
  | lreturn => cases hs
  | areturn => cases hs
  | return_ => cases hs
  | _ =>
    refine ⟨o, ?_⟩
    simp only [hs]
    exact ⟨hp, h⟩
theorem blk_go : ∀ (N : Nat) {os : List (Option Value)} {d k bc bs pc : Nat} {vs st : List Value} {M : Mem} {R : Option Value → Mem → Prop} {ps : List Prop} {pc' : Nat} {vs' st' : List Value} {M' : Mem}, blk N os k pc vs st M = some (ps, pc', vs', st', M') → allP ps → Go d k bc bs pc' vs' st' M' R → Go d k bc bs pc vs st M R := by
  intro N
  induction N with
  | zero => intro os d k bc bs pc vs st M R ps pc' vs' st' M' h hp hr; cases h; exact hr
  | succ N ih =>
    intro os d k bc bs pc vs st M R ps pc' vs' st' M' h hp hr
    unfold blk at h
    split at h
    · cases h
    rename_i i hf
    split at h
    · split at h
      · rename_i hs
        split at h
        · rename_i hbk
          cases h
          obtain ⟨p1, p2, p3⟩ := allP_app hp
          have := ih hbk p3 hr
          rw [← p2] at this
          exact stp_go hf hs p1 this
        · cases h
      · cases h
    · split at h
      · rename_i hs
        split at h
        · rename_i hbk
          cases h
          obtain ⟨p1, p2⟩ := allP_app hp
          exact stp_go hf hs p1 (ih hbk p2 hr)
        · cases h
      · cases h
    · split at h
      · rename_i hs
        split at h
        · rename_i hbk
          cases h
          obtain ⟨p1, p2⟩ := allP_app hp
          exact stp_go hf hs p1 (ih hbk p2 hr)
        · cases h
      · cases h
    · split at h
      · rename_i hs
        split at h
        · rename_i hbk
          cases h
          obtain ⟨p1, p2⟩ := allP_app hp
          exact stp_go hf hs p1 (ih hbk p2 hr)
        · cases h
      · cases h
theorem go_blk (N : Nat) (os : List (Option Value)) {d k bc bs pc : Nat} {vs st : List Value} {M : Mem} {R : Option Value → Mem → Prop} {ps : List Prop} {pc' : Nat} {vs' st' : List Value} {M' : Mem} (h : blk N os k pc vs st M = some (ps, pc', vs', st', M')) (hp : allP ps) (hr : Go d k bc bs pc' vs' st' M' R) : Go d k bc bs pc vs st M R := by
  exact blk_go N h hp hr
