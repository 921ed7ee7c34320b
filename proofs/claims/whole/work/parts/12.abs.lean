/-! the pure memory as the machine's heap -/
def fvl (M : Mem) (a c j : Nat) : Value := match zfT c j with
  | 3 => .long (mJ M a j)
  | 4 => va_rf (mR M a j)
  | _ => .int (mI M a j)
def fls (M : Mem) (a c : Nat) : List Value := (List.range (clNn c)).map (fvl M a c)
def eE (cy : Nat → ClassId) (M : Mem) (a : Nat) : va_E :=
  if mK M a < 13 then .inr (mK M a, fls M a (mK M a))
  else .inl (cy (mK M a), mN M a, if mK M a = 16 then .inr (.inl (mJ M a)) else if 17 ≤ mK M a then .inr (.inr (.inr (.inr (mR M a)))) else .inl (mI M a))
def mSc (M : Mem) : Nat × Nat × (Nat → Int32) := M.2.2.2.2.2.2
def tysL (cy : Nat → ClassId) : List (ClassId × FieldType) := [(cy 13, .boolean), (cy 14, .byte), (cy 15, .int), (cy 16, .long), (cy 17, .object (zaC.getD 0 "")), (cy 18, .object (zaC.getD 1 "")), (cy 19, .object (zaC.getD 2 "")), (cy 20, .object (zaC.getD 3 "")), (cy 21, .object (zaC.getD 4 ""))]
def nestW : List Cond := tables_1.filter (fun w => match w with | .methodLinkNest _ _ _ _ => true | _ => false)
def zTb : List Cond := lw_tbl.filter goodWord
def zA (B : Nat) : Nat → Prop := fun q => B ≤ q
def AB (D : va_G) (cy : Nat → ClassId) (B : Nat) (M : Mem) (H : Heap) : Prop := va_P D zcl (va_pl (mL M) (eE cy M)) H ∧ va_D (zA B) (va_pl (mL M) (eE cy M))
/-- what else the start's heap Hb holds: the letters' text, the JDK's own values -/
def KX (B : Nat) (Hb : Heap) (U : State) : Prop :=
  (∃ adK adV : Nat → Nat, vk_S 1 [6] [[99, 108, 114, 103, 100, 104]] adK adV (zA B) U Hb ∧ vk_R "CottageYear$Text" 25 "clrgdh" (adK 0) U) ∧ va_Z "java/lang/String" "COMPACT_STRINGS" "Z" (.int 1) (zA B) U Hb ∧
  vx_Zq Bundle.tN "UNASSIGNED_STACK" Bundle.steD (zA B) U Hb ∧ vx_Zq Bundle.tN "SUPPRESSED_SENTINEL" Bundle.listD (zA B) U Hb ∧
  va_Nw (.castable "java/util/NoSuchElementException" "java/util/NoSuchElementException") U ∧ va_Nw (.declares ⟨"java/lang/RuntimeException", "<init>", "()V"⟩) U ∧ va_Nw (.declares ⟨"java/lang/Exception", "<init>", "()V"⟩) U ∧ va_Nw (.declares ⟨"java/lang/Throwable", "<init>", "()V"⟩) U
theorem KX.moved {B : Nat} {Hb : Heap} {u U : State} (hW : u.WarmedH U.vm) (h : KX B Hb u) : KX B Hb U := by
  obtain ⟨⟨adK, adV, h1, h2⟩, h3, h4, h5, h6, h7, h8, h9⟩ := h
  exact ⟨⟨adK, adV, vk_S.moved hW.alike h1, vk_R.warm hW h2⟩, va_Z.moved hW.alike h3, vx_Zq.moved hW.alike h4, vx_Zq.moved hW.alike h5, va_Nw.warmC hW h6, va_Nw.warmD hW h7, va_Nw.warmD hW h8, va_Nw.warmD hW h9⟩
theorem KX.same {B : Nat} {Hb : Heap} {u U : State} (hv : u.vm = U.vm) (h : KX B Hb u) : KX B Hb U := by
  obtain ⟨⟨adK, adV, h1, h2⟩, h3, h4, h5, h6, h7, h8, h9⟩ := h
  have ha : u.vm.Alike U.vm := by rw [hv]; exact Vm.Alike.refl _
  exact ⟨⟨adK, adV, vk_S.moved ha h1, vk_R.same hv.symm h2⟩, va_Z.moved ha h3, vx_Zq.moved ha h4, vx_Zq.moved ha h5, va_Nw.same rfl hv h6, va_Nw.same rfl hv h7, va_Nw.same rfl hv h8, va_Nw.same rfl hv h9⟩
def KK (D : va_G) (cy : Nat → ClassId) (B : Nat) (Hb : Heap) (sc : Nat × Nat × (Nat → Int32)) (U : State) : Prop :=
  va_K D zcl (tysL cy) U ∧ (∀ w ∈ nestW, va_Nw w U) ∧ (∀ C ∈ zaC, va_AO C U) ∧ va_X sc.1 sc.2.1 sc.2.2 U Hb ∧ sc.1 < B ∧ KX B Hb U
theorem map_set {g g' : Nat → Value} {N j : Nat} {v : Value} (hv : g' j = v) (ho : ∀ i, i ≠ j → g' i = g i) : (List.range N).map g' = ((List.range N).map g).set j v := by
  apply List.ext_getElem?
  intro i
  rw [List.getElem?_set]
  by_cases h : j = i
  · subst h
    by_cases hN : j < N
    · simp [hN, hv]
    · simp [hN]
  · rw [if_neg h]
    by_cases hN : i < N
    · simp [hN, ho i (fun q => h q.symm)]
    · simp [hN]
theorem fls_len (M : Mem) (a c : Nat) : (fls M a c).length = clNn c := by simp [fls]
theorem fls_get {M : Mem} {a c j : Nat} (h : j < clNn c) : (fls M a c)[j]? = some (fvl M a c j) := by simp [fls, h]
theorem eE_obj {cy : Nat → ClassId} {M : Mem} {a c : Nat} (h : mK M a = c) (hc : c < 13) : eE cy M a = .inr (c, fls M a c) := by
  unfold eE; rw [h, if_pos hc]
theorem eE_int {cy : Nat → ClassId} {M : Mem} {a c : Nat} (h : mK M a = c) (hc : c = 13 ∨ c = 14 ∨ c = 15) : eE cy M a = .inl (cy c, mN M a, .inl (mI M a)) := by
  unfold eE; rw [h, if_neg (by omega), if_neg (by omega), if_neg (by omega)]
theorem eE_long {cy : Nat → ClassId} {M : Mem} {a : Nat} (h : mK M a = 16) : eE cy M a = .inl (cy 16, mN M a, .inr (.inl (mJ M a))) := by
  unfold eE; rw [h, if_neg (by omega), if_pos rfl]
theorem eE_ref {cy : Nat → ClassId} {M : Mem} {a c : Nat} (h : mK M a = c) (hc : 17 ≤ c) : eE cy M a = .inl (cy c, mN M a, .inr (.inr (.inr (.inr (mR M a))))) := by
  unfold eE; rw [h, if_neg (by omega), if_neg (by omega), if_pos hc]
theorem up_row {α : Type} {f : Nat → α} {q b : Nat} {x : α} (h : b ≠ q) : va_up f q x b = f b := by simp only [va_up, if_neg h]
theorem up_at {α : Type} {f : Nat → α} {q : Nat} {x : α} : va_up f q x q = x := by simp only [va_up, if_pos]
theorem up2_s {α : Type} (f : Nat → Nat → α) (a j : Nat) (v : α) : up2 f a j v a j = v := by simp [up2]
theorem up2_n {α : Type} (f : Nat → Nat → α) {a j b i : Nat} (v : α) (h : ¬ (b = a ∧ i = j)) : up2 f a j v b i = f b i := by simp only [up2, if_neg h]
theorem eE_sI_o {cy : Nat → ClassId} {M : Mem} {q c j : Nat} {x : Int32} (h : mK M q = c) (hc : c < 13) (ht : zfT c j ≠ 3 ∧ zfT c j ≠ 4) : eE cy (sI M q j x) = va_up (eE cy M) q (.inr (c, (fls M q c).set j (.int x))) := by
  funext b
  by_cases hb : b = q
  · subst hb
    rw [up_at, eE_obj (c := c) (M := sI M b j x) h hc]
    refine congrArg (fun l => Sum.inr (c, l)) (map_set ?_ (fun i hi => ?_))
    · unfold fvl
      split
      · exact absurd ‹_› ht.1
      · exact absurd ‹_› ht.2
      · exact congrArg Value.int (up2_s _ _ _ _)
    · unfold fvl
      split
      · rfl
      · rfl
      · exact congrArg Value.int (up2_n _ _ (fun z => hi z.2))
  · rw [up_row hb]
    have e1 : fls (sI M q j x) b (mK M b) = fls M b (mK M b) := by
      refine List.map_congr_left (fun i _ => ?_)
      unfold fvl
      split
      · rfl
      · rfl
      · exact congrArg Value.int (up2_n _ _ (fun z => hb z.1))
    have e2 : mI (sI M q j x) b = mI M b := by funext i; exact up2_n _ _ (fun z => hb z.1)
    show (if mK M b < 13 then Sum.inr (mK M b, fls (sI M q j x) b (mK M b)) else Sum.inl (cy (mK M b), mN M b, if mK M b = 16 then .inr (.inl (mJ M b)) else if 17 ≤ mK M b then .inr (.inr (.inr (.inr (mR M b)))) else .inl (mI (sI M q j x) b))) = eE cy M b
    rw [e1, e2]; rfl
theorem eE_sJ_o {cy : Nat → ClassId} {M : Mem} {q c j : Nat} {x : Int64} (h : mK M q = c) (hc : c < 13) (ht : zfT c j = 3) : eE cy (sJ M q j x) = va_up (eE cy M) q (.inr (c, (fls M q c).set j (.long x))) := by
  funext b
  by_cases hb : b = q
  · subst hb
    rw [up_at, eE_obj (c := c) (M := sJ M b j x) h hc]
    refine congrArg (fun l => Sum.inr (c, l)) (map_set ?_ (fun i hi => ?_))
    · unfold fvl
      rw [ht]
      exact congrArg Value.long (up2_s _ _ _ _)
    · unfold fvl
      split
      · exact congrArg Value.long (up2_n _ _ (fun z => hi z.2))
      · rfl
      · rfl
  · rw [up_row hb]
    have e1 : fls (sJ M q j x) b (mK M b) = fls M b (mK M b) := by
      refine List.map_congr_left (fun i _ => ?_)
      unfold fvl
      split
      · exact congrArg Value.long (up2_n _ _ (fun z => hb z.1))
      · rfl
      · rfl
    have e2 : mJ (sJ M q j x) b = mJ M b := by funext i; exact up2_n _ _ (fun z => hb z.1)
    show (if mK M b < 13 then Sum.inr (mK M b, fls (sJ M q j x) b (mK M b)) else Sum.inl (cy (mK M b), mN M b, if mK M b = 16 then .inr (.inl (mJ (sJ M q j x) b)) else if 17 ≤ mK M b then .inr (.inr (.inr (.inr (mR M b)))) else .inl (mI M b))) = eE cy M b
    rw [e1, e2]; rfl
theorem eE_sR_o {cy : Nat → ClassId} {M : Mem} {q c j : Nat} {x : Option Nat} (h : mK M q = c) (hc : c < 13) (ht : zfT c j = 4) : eE cy (sR M q j x) = va_up (eE cy M) q (.inr (c, (fls M q c).set j (va_rf x))) := by
  funext b
  by_cases hb : b = q
  · subst hb
    rw [up_at, eE_obj (c := c) (M := sR M b j x) h hc]
    refine congrArg (fun l => Sum.inr (c, l)) (map_set ?_ (fun i hi => ?_))
    · unfold fvl
      rw [ht]
      exact congrArg va_rf (up2_s _ _ _ _)
    · unfold fvl
      split
      · rfl
      · exact congrArg va_rf (up2_n _ _ (fun z => hi z.2))
      · rfl
  · rw [up_row hb]
    have e1 : fls (sR M q j x) b (mK M b) = fls M b (mK M b) := by
      refine List.map_congr_left (fun i _ => ?_)
      unfold fvl
      split
      · rfl
      · exact congrArg va_rf (up2_n _ _ (fun z => hb z.1))
      · rfl
    have e2 : mR (sR M q j x) b = mR M b := by funext i; exact up2_n _ _ (fun z => hb z.1)
    show (if mK M b < 13 then Sum.inr (mK M b, fls (sR M q j x) b (mK M b)) else Sum.inl (cy (mK M b), mN M b, if mK M b = 16 then .inr (.inl (mJ M b)) else if 17 ≤ mK M b then .inr (.inr (.inr (.inr (mR (sR M q j x) b)))) else .inl (mI M b))) = eE cy M b
    rw [e1, e2]; rfl
theorem eE_row {cy : Nat → ClassId} {M M' : Mem} {q : Nat} {e : va_E} (hk : mK M' = mK M) (hn : mN M' = mN M) (h1 : ∀ b, b ≠ q → mI M' b = mI M b) (h2 : ∀ b, b ≠ q → mJ M' b = mJ M b) (h3 : ∀ b, b ≠ q → mR M' b = mR M b) (hq : eE cy M' q = e) : eE cy M' = va_up (eE cy M) q e := by
  funext b
  by_cases hb : b = q
  · subst hb
    simp only [va_up, if_pos]
    exact hq
  · simp only [va_up, if_neg hb]
    have e1 : fls M' b (mK M b) = fls M b (mK M b) := by
      refine List.map_congr_left (fun i _ => ?_)
      unfold fvl
      rw [h1 b hb, h2 b hb, h3 b hb]
    unfold eE
    rw [hk, hn, h1 b hb, h2 b hb, h3 b hb, e1]
theorem sI_row (M : Mem) (q j : Nat) (x : Int32) : mI (sI M q j x) q = upd (mI M q) j x := by
  funext i
  by_cases h : i = j
  · subst h; simp [sI, mI, up2, upd]
  · simp [sI, mI, up2, upd, h]
theorem sI_oth (M : Mem) (q j : Nat) (x : Int32) : ∀ b, b ≠ q → mI (sI M q j x) b = mI M b := fun b hb => by funext i; exact up2_n _ _ (fun z => hb z.1)
theorem sJ_row (M : Mem) (q j : Nat) (x : Int64) : mJ (sJ M q j x) q = vp_updL (mJ M q) j x := by
  funext i
  by_cases h : i = j
  · subst h; simp [sJ, mJ, up2, vp_updL]
  · simp [sJ, mJ, up2, vp_updL, h]
theorem sJ_oth (M : Mem) (q j : Nat) (x : Int64) : ∀ b, b ≠ q → mJ (sJ M q j x) b = mJ M b := fun b hb => by funext i; exact up2_n _ _ (fun z => hb z.1)
theorem sR_row (M : Mem) (q j : Nat) (x : Option Nat) : mR (sR M q j x) q = va_up (mR M q) j x := by
  funext i
  by_cases h : i = j
  · subst h; simp [sR, mR, up2, va_up]
  · simp [sR, mR, up2, va_up, h]
theorem sR_oth (M : Mem) (q j : Nat) (x : Option Nat) : ∀ b, b ≠ q → mR (sR M q j x) b = mR M b := fun b hb => by funext i; exact up2_n _ _ (fun z => hb z.1)
theorem eE_sI_a {cy : Nat → ClassId} {M : Mem} {q c j : Nat} {x : Int32} (h : mK M q = c) (hc : c = 13 ∨ c = 14 ∨ c = 15) : eE cy (sI M q j x) = va_up (eE cy M) q (.inl (cy c, mN M q, .inl (upd (mI M q) j x))) :=
  eE_row (M := M) rfl rfl (sI_oth M q j x) (fun _ _ => rfl) (fun _ _ => rfl) (by rw [eE_int (M := sI M q j x) (c := c) h hc, sI_row]; rfl)
theorem eE_sJ_a {cy : Nat → ClassId} {M : Mem} {q j : Nat} {x : Int64} (h : mK M q = 16) : eE cy (sJ M q j x) = va_up (eE cy M) q (.inl (cy 16, mN M q, .inr (.inl (vp_updL (mJ M q) j x)))) :=
  eE_row (M := M) rfl rfl (fun _ _ => rfl) (sJ_oth M q j x) (fun _ _ => rfl) (by rw [eE_long (M := sJ M q j x) h, sJ_row]; rfl)
theorem eE_sR_a {cy : Nat → ClassId} {M : Mem} {q c j : Nat} {x : Option Nat} (h : mK M q = c) (hc : 17 ≤ c) : eE cy (sR M q j x) = va_up (eE cy M) q (.inl (cy c, mN M q, .inr (.inr (.inr (.inr (va_up (mR M q) j x)))))) :=
  eE_row (M := M) rfl rfl (fun _ _ => rfl) (fun _ _ => rfl) (sR_oth M q j x) (by rw [eE_ref (M := sR M q j x) (c := c) h hc, sR_row]; rfl)
theorem eE_cpI {cy : Nat → ClassId} {M : Mem} {a0 q sp dp n : Nat} (h : mK M q = 15) : eE cy (cpI M a0 q sp dp n) = va_up (eE cy M) q (.inl (cy 15, mN M q, .inl (va_cpy (mI M a0) (mI M q) sp dp n))) :=
  eE_row (M := M) rfl rfl (fun _ hb => up_row hb) (fun _ _ => rfl) (fun _ _ => rfl) (by rw [eE_int (M := cpI M a0 q sp dp n) (c := 15) h (by omega)]; exact congrArg (fun f => Sum.inl (cy 15, mN M q, Sum.inl f)) up_at)
def nilF (c : Nat) : List Value := (List.range (clNn c)).map (fun j => match zfT c j with | 3 => .long 0 | 4 => .null | _ => .int 0)
theorem eE_alO {cy : Nat → ClassId} {M : Mem} {q c : Nat} (hc : c < 13) : eE cy (alO M q c) = va_up (eE cy M) q (.inr (c, nilF c)) := by
  funext b
  by_cases hb : b = q
  · subst hb
    rw [up_at, eE_obj (c := c) (M := alO M b c) up_at hc]
    refine congrArg (fun l => Sum.inr (c, l)) (List.map_congr_left (fun i _ => ?_))
    unfold fvl
    split
    · exact congrArg Value.long (congrFun (up_at (f := mJ M)) i)
    · exact congrArg va_rf (congrFun (up_at (f := mR M)) i)
    · exact congrArg Value.int (congrFun (up_at (f := mI M)) i)
  · rw [up_row hb]
    have k1 : mK (alO M q c) b = mK M b := up_row hb
    have i1 : mI (alO M q c) b = mI M b := up_row hb
    have i2 : mJ (alO M q c) b = mJ M b := up_row hb
    have i3 : mR (alO M q c) b = mR M b := up_row hb
    have e1 : fls (alO M q c) b (mK M b) = fls M b (mK M b) := by
      refine List.map_congr_left (fun i _ => ?_)
      unfold fvl
      rw [i1, i2, i3]
    unfold eE
    rw [k1, i1, i2, i3, e1]; rfl
theorem eE_alA {cy : Nat → ClassId} {M : Mem} {q c n : Nat} (hc : 13 ≤ c) : eE cy (alA M q c n) = va_up (eE cy M) q (.inl (cy c, n, if c = 16 then .inr (.inl (fun _ => 0)) else if 17 ≤ c then .inr (.inr (.inr (.inr (fun _ => none)))) else .inl (fun _ => 0))) := by
  funext b
  by_cases hb : b = q
  · subst hb
    have k1 : mK (alA M b c n) b = c := up_at
    have n1 : mN (alA M b c n) b = n := up_at
    have i1 : mI (alA M b c n) b = fun _ => 0 := up_at
    have i2 : mJ (alA M b c n) b = fun _ => 0 := up_at
    have i3 : mR (alA M b c n) b = fun _ => none := up_at
    rw [up_at]
    unfold eE
    rw [k1, n1, i1, i2, i3, if_neg (by omega)]
  · rw [up_row hb]
    have k1 : mK (alA M q c n) b = mK M b := up_row hb
    have n1 : mN (alA M q c n) b = mN M b := up_row hb
    have i1 : mI (alA M q c n) b = mI M b := up_row hb
    have i2 : mJ (alA M q c n) b = mJ M b := up_row hb
    have i3 : mR (alA M q c n) b = mR M b := up_row hb
    have e1 : fls (alA M q c n) b (mK M b) = fls M b (mK M b) := by
      refine List.map_congr_left (fun i _ => ?_)
      unfold fvl
      rw [i1, i2, i3]
    unfold eE
    rw [k1, n1, i1, i2, i3, e1]
theorem pl_get {L : List Nat} {f : Nat → va_E} {a : Nat} (h : a ∈ L) : ∃ k : Nat, (va_pl L f)[k]? = some (a, f a) := va_pl_get (X := []) h
theorem pl_set {A : Nat → Prop} {L : List Nat} {f : Nat → va_E} {a k : Nat} {e : va_E} (hD : va_D A (va_pl L f)) (h : a ∈ L) (hk : (va_pl L f)[k]? = some (a, f a)) : (va_pl L f).set k (a, e) = va_pl L (va_up f a e) := va_pl_set (X := []) hD h hk
/-- claims on the locals -/
def lvc (v : Value) (w : Option Value) : Bool := match v with
  | .retAddr _ => false
  | .long _ => (match w with | some (.retAddr _) => true | _ => false)
  | .float _ => false
  | .double _ => false
  | _ => true
def lvl (vs : List Value) : List (Nat × Value) := (List.range vs.length).filterMap (fun i => match vs[i]? with
  | some v => if lvc v vs[i + 1]? = true then some (i, v) else none
  | none => none)
theorem mem_lvl {vs : List Value} {i : Nat} {v : Value} : (i, v) ∈ lvl vs ↔ vs[i]? = some v ∧ lvc v vs[i + 1]? = true := by
  unfold lvl
  rw [List.mem_filterMap]
  constructor
  · rintro ⟨j, -, h⟩
    split at h
    · split at h
      · cases h
        exact ⟨‹_›, ‹_›⟩
      · cases h
    · cases h
  · rintro ⟨h1, h2⟩
    refine ⟨i, List.mem_range.mpr (List.getElem?_eq_some_iff.mp h1).1, ?_⟩
    rw [h1]
    simp only [h2, if_true]
def lvOK (ls : Array Slot) (nL : Nat) (vs : List Value) : Prop := vs.length = nL ∧ lv_has ls nL (lvl vs)
theorem lvOK.at {ls : Array Slot} {nL : Nat} {vs : List Value} (h : lvOK ls nL vs) {i : Nat} {v : Value} (h1 : vs[i]? = some v) (h2 : lvc v vs[i + 1]? = true) : ls[i]? = some (.val v) := h.2.2.2 (i, v) (mem_lvl.mpr ⟨h1, h2⟩)
theorem nth_get {vs : List Value} {i : Nat} {v : Value} (h : nth vs i = v) (hv : ∀ r, v ≠ .retAddr r) : vs[i]? = some v := by
  induction vs generalizing i with
  | nil => exact absurd h.symm (hv 0)
  | cons x r ih =>
    cases i with
    | zero => exact congrArg some h
    | succ i => exact ih h
theorem nth_ra {vs : List Value} {i z : Nat} (h : nth vs i = .retAddr z) : vs[i]? = some (.retAddr z) ∨ vs.length ≤ i := by
  induction vs generalizing i with
  | nil => exact Or.inr (Nat.zero_le _)
  | cons x r ih =>
    cases i with
    | zero => exact Or.inl (congrArg some h)
    | succ i =>
      rcases ih h with q | q
      · exact Or.inl q
      · exact Or.inr (by simp only [List.length_cons]; omega)
theorem stL_get (vs : List Value) (i : Nat) (v : Value) (j : Nat) : (stL vs i v)[j]? = if j = i ∧ i < vs.length then some v else vs[j]? := by
  induction vs generalizing i j with
  | nil => simp [stL]
  | cons x r ih =>
    cases i with
    | zero =>
      cases j with
      | zero => simp [stL]
      | succ j => simp [stL]
    | succ i =>
      cases j with
      | zero => simp [stL]
      | succ j => simp [stL, ih]
theorem stL_len (vs : List Value) (i : Nat) (v : Value) : (stL vs i v).length = vs.length := by
  induction vs generalizing i with
  | nil => rfl
  | cons x r ih => cases i with
    | zero => rfl
    | succ i => simp [stL, ih]

theorem lvOK.st1 {ls : Array Slot} {nL : Nat} {vs : List Value} {i : Nat} {v : Value} (hlen : vs.length = nL) (hi : i < nL) (hr : ∀ r, v ≠ .retAddr r) (h : lv_has ls nL ((i, v) :: (lvl vs).filter (fun q => !(q.1 == i) && !(q.1 + 1 == i && q.2.category == 2)))) : lvOK ls nL (stL vs i v) := by
  refine ⟨(stL_len _ _ _).trans hlen, h.1, h.2.1, fun q hq => ?_⟩
  obtain ⟨j, u⟩ := q
  obtain ⟨h1, h2⟩ := mem_lvl.mp hq
  refine h.2.2 (j, u) ?_
  rw [stL_get] at h1 h2
  by_cases hj : j = i
  · subst hj
    rw [if_pos ⟨rfl, by omega⟩] at h1
    cases h1
    exact List.mem_cons_self
  · rw [if_neg (fun z => hj z.1)] at h1
    refine List.mem_cons_of_mem _ (List.mem_filter.mpr ?_)
    by_cases hn : j + 1 = i
    · rw [if_pos ⟨hn, by omega⟩] at h2
      have hu : u.category ≠ 2 ∧ lvc u vs[j + 1]? = true := by
        cases u with
        | long w =>
          cases v with
          | retAddr r => exact absurd rfl (hr r)
          | _ => cases h2
        | double w => cases h2
        | float w => cases h2
        | retAddr w => cases h2
        | int w => exact ⟨by simp [Value.category], rfl⟩
        | null => exact ⟨by simp [Value.category], rfl⟩
        | ref w => exact ⟨by simp [Value.category], rfl⟩
      exact ⟨mem_lvl.mpr ⟨h1, hu.2⟩, by simp [hj, hu.1]⟩
    · rw [if_neg (fun z => hn z.1)] at h2
      exact ⟨mem_lvl.mpr ⟨h1, h2⟩, by simp [hj, hn]⟩
theorem lvOK.st2 {ls : Array Slot} {nL : Nat} {vs : List Value} {i : Nat} {w : Int64} (hlen : vs.length = nL) (hi : i + 1 < nL) (h : lv_has ls nL ((i, .long w) :: (lvl vs).filter (fun q => !(q.1 == i) && (!(q.1 == i + 1) && !(q.1 + 1 == i && q.2.category == 2))))) : lvOK ls nL (stL (stL vs i (.long w)) (i + 1) (.retAddr 1)) := by
  refine ⟨(stL_len _ _ _).trans ((stL_len _ _ _).trans hlen), h.1, h.2.1, fun q hq => ?_⟩
  obtain ⟨j, u⟩ := q
  obtain ⟨h1, h2⟩ := mem_lvl.mp hq
  refine h.2.2 (j, u) ?_
  rw [stL_get, stL_get, stL_len] at h1 h2
  by_cases hj1 : j = i + 1
  · subst hj1
    rw [if_pos ⟨rfl, by omega⟩] at h1
    cases h1
    cases h2
  · rw [if_neg (fun z => hj1 z.1)] at h1
    by_cases hj : j = i
    · subst hj
      rw [if_pos ⟨rfl, by omega⟩] at h1
      cases h1
      exact List.mem_cons_self
    · rw [if_neg (fun z => hj z.1)] at h1
      rw [if_neg (show ¬ (j + 1 = i + 1 ∧ _) from fun z => hj (by omega))] at h2
      refine List.mem_cons_of_mem _ (List.mem_filter.mpr ?_)
      by_cases hn : j + 1 = i
      · rw [if_pos ⟨hn, by omega⟩] at h2
        have hu : u.category ≠ 2 ∧ lvc u vs[j + 1]? = true := by
          cases u with
          | long w => cases h2
          | double w => cases h2
          | float w => cases h2
          | retAddr w => cases h2
          | int w => exact ⟨by simp [Value.category], rfl⟩
          | null => exact ⟨by simp [Value.category], rfl⟩
          | ref w => exact ⟨by simp [Value.category], rfl⟩
        exact ⟨mem_lvl.mpr ⟨h1, hu.2⟩, by simp [hj, hj1, hu.1]⟩
      · rw [if_neg (fun z => hn z.1)] at h2
        exact ⟨mem_lvl.mpr ⟨h1, h2⟩, by simp [hj, hj1, hn]⟩
