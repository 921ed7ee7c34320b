/-! what 'run' says holds of the machine -/
def rmD (d mc ms : Nat) : Room := { frames := d, cells := mc, slots := ms, locals := 64 * d }
def wsP (k : Nat) : List Cond := Cond.code (pY (tbl k)) (pB (tbl k)) (pL (tbl k)) (pRet (tbl k)) :: zTb
def PcM (D : va_G) (cy : Nat → ClassId) (B : Nat) (Hb : Heap) (sc : Nat × Nat × (Nat → Int32)) (M : Mem) (av : List Value) : Array Value → State → Prop :=
  va_Pc av (fun U => AB D cy B M U.heap ∧ KK D cy B Hb sc U ∧ B ≤ U.heap.size ∧ ∀ q : Nat, q < B → U.heap[q]? = Hb[q]?)
def QcM (D : va_G) (cy : Nat → ClassId) (B : Nat) (sc : Nat × Nat × (Nat → Int32)) (R : Option Value → Mem → Prop) : Array Value → State → Outcome → State → Prop := fun _ st oc t =>
  (∃ (v : Option Value) (M' : Mem), oc = .returned v ∧ R v M' ∧ mSc M' = sc ∧ AB D cy B M' t.heap) ∧ va_F (zA B) st t
theorem KK.moved {D : va_G} {cy : Nat → ClassId} {B : Nat} {Hb : Heap} {sc : Nat × Nat × (Nat → Int32)} {u U : State} (hW : u.WarmedH U.vm) (h : KK D cy B Hb sc u) : KK D cy B Hb sc U := by
  obtain ⟨h1, h2, h3, h4, h5, hx⟩ := h
  refine ⟨va_K.moved hW.alike h1, fun w hw => ?_, fun C hC => va_AO.moved hW.alike (h3 C hC), va_X.moved hW.alike h4, h5, hx.moved hW⟩
  have h6 := (List.mem_filter.mp hw).2
  have h7 := h2 w hw
  cases w <;> first | (cases h6; done) | exact va_Nw.warmM hW h7
theorem KK.same {D : va_G} {cy : Nat → ClassId} {B : Nat} {Hb : Heap} {sc : Nat × Nat × (Nat → Int32)} {u U : State} (hv : u.vm = U.vm) (h : KK D cy B Hb sc u) : KK D cy B Hb sc U := by
  obtain ⟨h1, h2, h3, h4, h5, hx⟩ := h
  have ha : u.vm.Alike U.vm := by rw [hv]; exact Vm.Alike.refl _
  refine ⟨va_K.moved ha h1, fun w hw => ?_, fun C hC => va_AO.moved ha (h3 C hC), va_X.moved ha h4, h5, hx.same hv⟩
  have h6 := (List.mem_filter.mp hw).2
  have h7 := h2 w hw
  cases w <;> first | (cases h6; done) | exact va_Nw.same rfl hv h7
theorem PcM.blind {D : va_G} {cy : Nat → ClassId} {B : Nat} {Hb : Heap} {sc : Nat × Nat × (Nat → Int32)} {M : Mem} {av : List Value} : FrameBlind (PcM D cy B Hb sc M av) := by
  intro a U g mk h
  obtain ⟨h0, h1, h2, h3⟩ := h
  exact ⟨h0, h1, KK.same (u := U) (U := U.calling g mk a) rfl h2, h3⟩
theorem good_wsP {j : Nat} (hj : j < 276) : GoodIn zTb (wsP j) := by
  intro w hw
  rcases List.mem_cons.mp hw with rfl | h
  · exact ⟨tb_in (mcd hj) rfl, Or.inl rfl⟩
  · exact ⟨h, good_of_word (List.mem_filter.mp h).2⟩
theorem ent_len (vs : List Value) : (lg_sl vs).length = (ent vs).length := by
  induction vs with
  | nil => rfl
  | cons v r ih =>
    have h : lg_sl (v :: r) = (if v.category = 2 then [.val v, .second] else [.val v]) ++ lg_sl r := by simp [lg_sl]
    rw [h, List.length_append, ih]
    cases v <;> simp [ent, Value.category] <;> omega
theorem padV_len : ∀ (n : Nat) (vs : List Value), (padV n vs).length = n
  | 0, _ => rfl
  | n + 1, [] => by simp [padV, padV_len n]
  | n + 1, v :: r => by simp [padV, padV_len n]
theorem padV_get : ∀ (n : Nat) (vs : List Value) (i : Nat) (v : Value), (padV n vs)[i]? = some v → (∀ r, v ≠ .retAddr r) → vs[i]? = some v
  | 0, _, i, v, h, _ => by simp [padV] at h
  | n + 1, [], 0, v, h, hr => by simp only [padV, List.getElem?_cons_zero, Option.some.injEq] at h; exact absurd h.symm (hr 0)
  | n + 1, [], i + 1, v, h, hr => by simp only [padV, List.getElem?_cons_succ] at h; exact padV_get n [] i v h hr
  | n + 1, x :: r, 0, v, h, hr => by simpa [padV] using h
  | n + 1, x :: r, i + 1, v, h, hr => by simp only [padV, List.getElem?_cons_succ] at h; simpa using padV_get n r i v h hr
theorem ent_args : ∀ (vs : List Value) (i o : Nat) (v : Value), (ent vs)[i]? = some v → (∀ r, v ≠ .retAddr r) → (o + i, v) ∈ lv_args o vs
  | [], i, o, v, h, _ => by simp [ent] at h
  | x :: r, i, o, v, h, hr => by
    have two : ∀ y : Value, y.category = 2 → (y :: .retAddr 1 :: ent r)[i]? = some v → (o + i, v) ∈ lv_args o (y :: r) := by
      intro y hy h
      unfold lv_args
      rw [if_pos hy]
      match i, h with
      | 0, h => simp only [List.getElem?_cons_zero, Option.some.injEq] at h; subst h; exact List.mem_cons_self
      | 1, h => simp only [List.getElem?_cons_succ, List.getElem?_cons_zero, Option.some.injEq] at h; exact absurd h.symm (hr 1)
      | i + 2, h =>
        simp only [List.getElem?_cons_succ] at h
        have h1 := ent_args r i (o + 2) v h hr
        rw [show o + (i + 2) = o + 2 + i by omega]
        exact List.mem_cons_of_mem _ h1
    have one : ∀ y : Value, ¬ y.category = 2 → (y :: ent r)[i]? = some v → (o + i, v) ∈ lv_args o (y :: r) := by
      intro y hy h
      unfold lv_args
      rw [if_neg hy]
      match i, h with
      | 0, h => simp only [List.getElem?_cons_zero, Option.some.injEq] at h; subst h; exact List.mem_cons_self
      | i + 1, h =>
        simp only [List.getElem?_cons_succ] at h
        have h1 := ent_args r i (o + 1) v h hr
        rw [show o + (i + 1) = o + 1 + i by omega]
        exact List.mem_cons_of_mem _ h1
    cases x with
    | long w => exact two _ rfl h
    | double w => exact two _ rfl h
    | int w => exact one _ (by simp [Value.category]) h
    | float w => exact one _ (by simp [Value.category]) h
    | null => exact one _ (by simp [Value.category]) h
    | ref w => exact one _ (by simp [Value.category]) h
    | retAddr w => exact one _ (by simp [Value.category]) h
theorem entry_lv {vs : List Value} {n : Nat} (h : (ent vs).length ≤ n) : lvOK ((lg_sl vs ++ List.replicate (n - (lg_sl vs).length) Slot.unset).toArray) n (padV n (ent vs)) := by
  have h1 := lv_entry vs (n := n) (by rw [ent_len]; exact h)
  refine ⟨padV_len _ _, h1.1, h1.2.1, fun q hq => ?_⟩
  obtain ⟨i, v⟩ := q
  obtain ⟨g1, g2⟩ := mem_lvl.mp hq
  have hr : ∀ r, v ≠ .retAddr r := fun r z => by subst z; cases g2
  have := ent_args vs i 0 v (padV_get _ _ _ _ g1 hr) hr
  rw [Nat.zero_add] at this
  exact h1.2.2 (i, v) this
/-- which return instruction brings an answer -/
def retI (k pc : Nat) (v : Option Value) : Prop := match v with
  | none => decode (pB (tbl k)) pc = .ok (.return_, 1) ∧ pRet (tbl k) = none
  | some (.int x) => decode (pB (tbl k)) pc = .ok (.ireturn, 1) ∧ retP (pRet (tbl k)) x
  | some (.long _) => decode (pB (tbl k)) pc = .ok (.lreturn, 1) ∧ pRet (tbl k) = some .long
  | some (.ref _) => decode (pB (tbl k)) pc = .ok (.areturn, 1) ∧ isObjTy (pRet (tbl k))
  | some .null => decode (pB (tbl k)) pc = .ok (.areturn, 1) ∧ isObjTy (pRet (tbl k))
  | _ => False
section RUN
variable {p : Program} {l : Launch} {e : Env} {R0 : Room} {s : State} {m : MethodId} {args : Array Value} {below : List Frame} {meth : Method} {c : Code} {H : Heap} {locs : List Loc} {cells slots : Nat} {Q : State → Prop} {D : va_G} {cy : Nat → ClassId} {B : Nat} {Hb : Heap} {sc : Nat × Nat × (Nat → Int32)} {k : Nat}
theorem call_W {R' : Option Value → Mem → Prop} {a : Array Value} {pc mc ms : Nat} {ls : Array Slot} {st0 rest : List Value} (hr : va_Run p l e R0 s m args below meth c H locs cells slots mc ms (F0 m pc ls st0) rest (QcM D cy B sc R' a) (zA B)) (hS : va_S (zA B) s.heap H locs)
    (kk : ∀ (v : Option Value) (M' : Mem) (H1 : Heap) (locs1 : List Loc), R' v M' → mSc M' = sc → AB D cy B M' H1 → va_S (zA B) s.heap H1 locs1 → W p l e R0 s m args below meth c H1 locs1 (cells + mc) (slots + ms) Q (F0 m (pc + 3) ls (v.toList ++ rest))) : W p l e R0 s m args below meth c H locs cells slots Q (F0 m pc ls st0) := by
  intro T hT X
  obtain ⟨v, st₀, t, T', L, h0, X', hL, e1, e2, ⟨⟨v', M', hv, hR, hc, hA⟩, hz, hk⟩, st⟩ := hr T hT X
  cases hv
  rw [h0] at hz hk
  obtain ⟨t2, a1, b1⟩ := kk v M' T'.heap (locs ++ L) hR hc (by rw [e1]; exact hA) ⟨Nat.le_trans hS.1 (by rw [e1]; exact hz), fun q h1 h2 => by rw [e1, hk q (Nat.lt_of_lt_of_le h1 hS.1) h2]; exact hS.2.1 q h1 h2, fun q hq => by
      rcases List.mem_append.mp hq with h | h
      · exact hS.2.2 q h
      · exact hL q h⟩ T' rfl X'
  exact ⟨t2, st t2 a1, b1⟩
theorem sw_table {x : Int32} {lo : Int} : ∀ {pc : Nat} {os : List Int} {ts : List (Int32 × Nat)} {f : Nat → Prop} {a : Nat} {lo : Int}, swT pc lo os ts = true → swR x f a ts →
    (∀ (j : Nat) (o : Int), os[j]? = some o → x.toInt = lo + j → ∃ t : Nat, (pc : Int) + o = t ∧ f t) ∧ ((x.toInt < lo ∨ lo + os.length ≤ x.toInt) → f a) := by
  intro pc os
  induction os with
  | nil =>
    intro ts f a lo h hs
    cases ts with
    | nil => exact ⟨fun j o h => by simp at h, fun _ => hs⟩
    | cons t r => simp [swT] at h
  | cons o os ih =>
    intro ts f a lo h hs
    cases ts with
    | nil => simp [swT] at h
    | cons t r =>
      obtain ⟨v, t⟩ := t
      simp only [swT, Bool.and_eq_true, decide_eq_true_eq] at h
      obtain ⟨⟨⟨h1, h2⟩, h3⟩, h4⟩ := h
      obtain ⟨s1, s2⟩ := hs
      refine ⟨fun j o' hj hx => ?_, fun hx => ?_⟩
      · cases j with
        | zero =>
          simp only [List.getElem?_cons_zero, Option.some.injEq] at hj
          subst hj
          refine ⟨t, h3, s1 (Int32.toInt_inj.mp ?_)⟩
          rw [hx, h2]; simp
        | succ j =>
          simp only [List.getElem?_cons_succ] at hj
          have hne : ¬ x = v := fun q => by rw [q, h2] at hx; omega
          exact (ih (lo := lo + 1) h4 (s2 hne)).1 j o' hj (by rw [hx]; omega)
      · have hne : ¬ x = v := fun q => by
          rw [q, h2] at hx
          simp only [List.length_cons] at hx
          omega
        refine (ih (lo := lo + 1) h4 (s2 hne)).2 ?_
        simp only [List.length_cons] at hx
        have : x.toInt ≠ lo := fun q => hne (Int32.toInt_inj.mp (by rw [q, h2]))
        omega
theorem sw_look {x : Int32} : ∀ {pc : Nat} {ps : List (Int × Int)} {ts : List (Int32 × Nat)} {f : Nat → Prop} {a : Nat} {d : Int}, swL pc ps ts = true → (pc : Int) + d = (a : Int) → swR x f a ts → ∃ t : Nat, (pc : Int) + Op.lookupswitch.offset ps d x.toInt = t ∧ f t := by
  intro pc ps
  induction ps with
  | nil =>
    intro ts f a d h hd hs
    cases ts with
    | nil => exact ⟨a, by simpa [Op.lookupswitch.offset] using hd, hs⟩
    | cons t r => simp [swL] at h
  | cons o os ih =>
    intro ts f a d h hd hs
    obtain ⟨k0, o⟩ := o
    cases ts with
    | nil => simp [swL] at h
    | cons t r =>
      obtain ⟨v, t⟩ := t
      simp only [swL, Bool.and_eq_true, decide_eq_true_eq] at h
      obtain ⟨⟨h2, h3⟩, h4⟩ := h
      obtain ⟨s1, s2⟩ := hs
      by_cases hx : x = v
      · refine ⟨t, ?_, s1 hx⟩
        subst hx
        rw [← h3]
        simp [Op.lookupswitch.offset, h2]
      · rw [lv_osw (k := v) hx h2]
        exact ih h4 hd (s2 hx)
end RUN
