/-! every method, by induction on the fuel -/
theorem inst_ok {c : Nat} {q : vw_C} (h : zcl[c]? = some q) : Cond.instantiable q.1 q.2.2 ∈ tables_1 ∧ Cond.initialized q.1 ∈ tables_1 := by
  match c, h with
  | 0, h => cases h; exact ⟨List.mem_of_getElem? (i := 430) (by decide +kernel), List.mem_of_getElem? (i := 12) (by decide +kernel)⟩
  | 1, h => cases h; exact ⟨List.mem_of_getElem? (i := 205) (by decide +kernel), List.mem_of_getElem? (i := 7) (by decide +kernel)⟩
  | 2, h => cases h; exact ⟨List.mem_of_getElem? (i := 370) (by decide +kernel), List.mem_of_getElem? (i := 11) (by decide +kernel)⟩
  | 3, h => cases h; exact ⟨List.mem_of_getElem? (i := 678) (by decide +kernel), List.mem_of_getElem? (i := 16) (by decide +kernel)⟩
  | 4, h => cases h; exact ⟨List.mem_of_getElem? (i := 172) (by decide +kernel), List.mem_of_getElem? (i := 6) (by decide +kernel)⟩
  | 5, h => cases h; exact ⟨List.mem_of_getElem? (i := 44) (by decide +kernel), List.mem_of_getElem? (i := 2) (by decide +kernel)⟩
  | 6, h => cases h; exact ⟨List.mem_of_getElem? (i := 84) (by decide +kernel), List.mem_of_getElem? (i := 3) (by decide +kernel)⟩
  | 7, h => cases h; exact ⟨List.mem_of_getElem? (i := 90) (by decide +kernel), List.mem_of_getElem? (i := 4) (by decide +kernel)⟩
  | 8, h => cases h; exact ⟨List.mem_of_getElem? (i := 591) (by decide +kernel), List.mem_of_getElem? (i := 15) (by decide +kernel)⟩
  | 9, h => cases h; exact ⟨List.mem_of_getElem? (i := 238) (by decide +kernel), List.mem_of_getElem? (i := 9) (by decide +kernel)⟩
  | 10, h => cases h; exact ⟨List.mem_of_getElem? (i := 232) (by decide +kernel), List.mem_of_getElem? (i := 8) (by decide +kernel)⟩
  | 11, h => cases h; exact ⟨List.mem_of_getElem? (i := 28) (by decide +kernel), List.mem_of_getElem? (i := 1) (by decide +kernel)⟩
  | 12, h => cases h; exact ⟨List.mem_of_getElem? (i := 1428) (by decide +kernel), List.mem_of_getElem? (i := 10) (by decide +kernel)⟩
  | c + 13, h => simp [zcl] at h
theorem acp_ok : Cond.native arraycopyName ∈ tables_1 ∧ Cond.static arraycopyName ∈ tables_1 ∧ Cond.initialized "java/lang/System" ∈ tables_1 := ⟨List.mem_of_getElem? (i := 554) (by decide +kernel), List.mem_of_getElem? (i := 553) (by decide +kernel), List.mem_of_getElem? (i := 13) (by decide +kernel)⟩
theorem obi_ok : Cond.instanceMethod objectInit ∈ tables_1 ∧ Cond.code objectInit ⟨#[0xb1]⟩ 1 none ∈ tables_1 := ⟨List.mem_of_getElem? (i := 33) (by decide +kernel), List.mem_of_getElem? (i := 34) (by decide +kernel)⟩
theorem arr_ok : Cond.arrayClass .boolean ∈ tables_1 ∧ Cond.arrayClass .byte ∈ tables_1 ∧ Cond.arrayClass .int ∈ tables_1 ∧ Cond.arrayClass .long ∈ tables_1 := ⟨List.mem_of_getElem? (i := 81) (by decide +kernel), List.mem_of_getElem? (i := 1218) (by decide +kernel), List.mem_of_getElem? (i := 82) (by decide +kernel), List.mem_of_getElem? (i := 170) (by decide +kernel)⟩
def nilV (c j : Nat) : Value := match zfT c j with
  | 3 => .long 0
  | 4 => .null
  | _ => .int 0
theorem dv_all : (List.range 13).all (fun c => (List.range (clNn c)).all (fun j => decide (defaultValue (zFy c j) = nilV c j))) = true := by decide +kernel
theorem dv_at {c j : Nat} (hc : c < 13) (hj : j < clNn c) : defaultValue (zFy c j) = nilV c j := of_decide_eq_true (List.all_eq_true.mp (List.all_eq_true.mp dv_all c (List.mem_range.mpr hc)) j (List.mem_range.mpr hj))
theorem nilF_at {c j : Nat} (hj : j < clNn c) : vp_V (nilF c) j = nilV c j := by
  unfold vp_V nilF
  rw [List.getD_eq_getElem?_getD, List.getElem?_map, List.getElem?_range hj]
  rfl
theorem AB.push {D : va_G} {cy : Nat → ClassId} {B : Nat} {M M' : Mem} {H1 : Heap} {q : Nat} {x : va_E} (hL : mL M' = mL M ++ [q]) (he : eE cy M' = va_up (eE cy M) q x) (hP : va_P D zcl (va_pl (mL M) (eE cy M) ++ [(q, x)]) H1) (hD : va_D (zA B) (va_pl (mL M) (eE cy M) ++ [(q, x)])) : AB D cy B M' H1 ∧ q ∉ mL M := by
  have hq : q ∉ mL M := va_pl_fresh2 (X := []) hD
  unfold AB
  rw [hL, he, ← va_pl_push hq]
  exact ⟨⟨hP, hD⟩, hq⟩

def SWp (l : Launch) (D : va_G) (cy : Nat → ClassId) (B : Nat) (Hb : Heap) (sc : Nat × Nat × (Nat → Int32)) : PT := fun d k bc bs pc vs st M R =>
  ∀ (p : Program) (e : Env) (R0 : Room) (s : State) (m : MethodId) (args : Array Value) (below : List Frame) (meth : Method) (c : Code) (H : Heap) (locs : List Loc) (cells slots : Nat) (Q : State → Prop) (ls : Array Slot),
    CX D cy B Hb sc k p s m args meth c → AB D cy B M H → mSc M = sc → va_S (zA B) s.heap H locs → lvOK ls (pL (tbl k)) vs → d ≤ R0.frames → 64 * d ≤ R0.locals → cells + bc ≤ R0.cells → slots + bs ≤ R0.slots →
    (∀ (v : Option Value) (M' : Mem) (H' : Heap) (locs' : List Loc) (cells' slots' : Nat) (ls' : Array Slot) (pc' : Nat), R v M' → mSc M' = sc → AB D cy B M' H' → va_S (zA B) s.heap H' locs' → cells' ≤ cells + bc → slots' ≤ slots + bs → retI k pc' v → W p l e R0 s m args below meth c H' locs' cells' slots' Q (F0 m pc' ls' v.toList)) →
    (∀ (M' : Mem) (H' : Heap) (locs' : List Loc) (cells' slots' : Nat) (ls' : Array Slot) (pc' ix : Nat), R (some (.retAddr 7)) M' → mSc M' = sc → AB D cy B M' H' → va_S (zA B) s.heap H' locs' → cells' ≤ cells + bc → slots' ≤ slots + bs → decode (pB (tbl k)) pc' = .ok (.new ix, 3) → Cond.classLink (pOwn (tbl k)) ix "java/util/NoSuchElementException" ∈ tables_1 → fet k pc' ≠ none → ls'.size = pL (tbl k) → W p l e R0 s m args below meth c H' locs' cells' slots' Q (F0 m pc' ls' [])) →
    W p l e R0 s m args below meth c H locs cells slots Q (F0 m pc ls st)
set_option maxHeartbeats 4000000 in
theorem met_of {l : Launch} {D : va_G} {cy : Nat → ClassId} {B : Nat} {Hb : Heap} {sc : Nat × Nat × (Nat → Int32)} {d a : Nat} {as : List Value} {M : Mem} {R' : Option Value → Mem → Prop} (ha : a < 276)
    (hr : SWp l D cy B Hb sc d a (pMc (tbl a)) (pMs (tbl a)) 0 (padV (pL (tbl a)) (ent as)) [] M R') (hc : mSc M = sc) (hln : (ent as).length ≤ pL (tbl a)) (hnt : ∀ M', ¬ R' (some (.retAddr 7)) M') : Met l (pY (tbl a)) (wsP a) (rmD d (pMc (tbl a)) (pMs (tbl a))) (PcM D cy B Hb sc M as) (QcM D cy B sc R') (pMc (tbl a)) (pMs (tbl a)) (zA B) := by
  obtain ⟨q, hq⟩ := mok ha
  unfold mOK at hq
  simp only [Bool.and_eq_true, decide_eq_true_eq] at hq
  refine va_MetF (cc := pB (tbl a)) (maxL := pL (tbl a)) (ret := pRet (tbl a)) hq.1.1.1.1.1.1.2 rfl ?_
  intro p e s m args below meth c s₁ B0 hml hv
  obtain ⟨rfl, hA, hKK, hB, hO⟩ := hv
  have hts := atoms_spec (ws := wsP a) B0.pre
  have hown : s.vm.findClass (pY (tbl a)).cls = some m.cls := findClass_of_methodNamed B0.named
  have hlocks := B0.notSynchronized
  have hnm : meth.name = (pY (tbl a)).name := (name_of_methodNamed B0.named B0.method).1
  have X : CX D cy B Hb sc a p s m as.toArray meth c := ⟨B0.exec, B0.bytes, B0.returns, hml, by rw [hq.1.1.2]; exact hown, fun w hw => hts w (List.mem_cons_of_mem _ hw), hlocks, fun h => hnm.trans (of_decide_eq_true h), hKK, hB, hO⟩
  have hx := B0.exec
  have hb := B0.bytes
  have hrt := B0.returns
  rw [lg_entry_eq]
  refine hr p e _ s m _ below meth c s.heap [] 0 0 _ _ X hA hc va_S.rf (entry_lv hln) (Nat.le_refl d) (Nat.le_refl (64 * d)) (Nat.le_of_eq (Nat.zero_add _)) (Nat.le_of_eq (Nat.zero_add _)) ?_ (fun M' _ _ _ _ _ _ _ h => absurd h (hnt M'))
  intro v M' H' locs' cells' slots' ls' pc' hR hc' hA' hS' h1 h2 hri
  refine W.widen (k := pMc (tbl a)) (n := pMs (tbl a)) (by omega) (by omega) ?_
  have hq1 : ∀ t : State, t.heap = H' → s.WarmedH t.vm → QcM D cy B sc R' as.toArray s (.returned v) t := fun t ht hW => ⟨⟨v, M', rfl, hR, hc', by rw [ht]; exact hA'⟩, hS'.F ht⟩
  match v, hri, hq1 with
  | none, hri, hq1 => exact W.vret hx hb (hrt.trans hri.2) hq1 hS'.2.2 hri.1
  | some (.int x), hri, hq1 =>
    rcases hri.2 with h | ⟨h, h'⟩
    · exact W.iret hx hb (hrt.trans h) hq1 hS'.2.2 hri.1
    · exact W.zret hx hb (hrt.trans h) (by rcases h' with z | z <;> (rw [z]; rfl)) hq1 hS'.2.2 hri.1
  | some (.long x), hri, hq1 => exact W.lret hx hb (hrt.trans hri.2) hq1 hS'.2.2 hri.1
  | some (.ref x), hri, hq1 =>
    obtain ⟨C, hC⟩ := hri.2
    exact W.aret hx hb (hrt.trans hC) (Or.inl ⟨C, rfl⟩) (Or.inr ⟨x, rfl⟩) hq1 hS'.2.2 hri.1
  | some .null, hri, hq1 =>
    obtain ⟨C, hC⟩ := hri.2
    exact W.aret hx hb (hrt.trans hC) (Or.inl ⟨C, rfl⟩) (Or.inl rfl) hq1 hS'.2.2 hri.1
  | some (.float x), hri, _ => exact absurd hri (fun z => z)
  | some (.double x), hri, _ => exact absurd hri (fun z => z)
  | some (.retAddr x), hri, _ => exact absurd hri (fun z => z)
/-- the call of Text.isLetter, and of the law's own 'about': rules of their own -/
def LET (l : Launch) (D : va_G) (cy : Nat → ClassId) (B : Nat) (Hb : Heap) (sc : Nat × Nat × (Nat → Int32)) : Prop :=
  ∀ (d k pc ix t : Nat) (r : List Value) (x : Int32) (M : Mem) (p : Program) (e : Env) (R0 : Room) (s : State) (m : MethodId) (args : Array Value) (below : List Frame) (meth : Method) (c : Code) (H : Heap) (locs : List Loc) (cells slots : Nat) (Q : State → Prop) (ls : Array Slot),
    CX D cy B Hb sc k p s m args meth c → AB D cy B M H → mSc M = sc → va_S (zA B) s.heap H locs → ls.size = pL (tbl k) → 30 ≤ d → d ≤ R0.frames → 64 * d ≤ R0.locals → cells ≤ R0.cells → slots ≤ R0.slots → wsum r ≤ 8 → decode (pB (tbl k)) pc = .ok (.invokestatic ix, 3) → Cond.methodLink (pOwn (tbl k)) ix (yM 86) ∈ tables_1 →
    W p l e R0 s m args below meth c H locs cells slots Q (F0 m (pc + 3) ls (.int (letV x) :: r)) → W p l e R0 s m args below meth c H locs cells slots Q (F0 m pc ls (.int x :: r))
def ABT (l : Launch) (D : va_G) (cy : Nat → ClassId) (B : Nat) (Hb : Heap) (sc : Nat × Nat × (Nat → Int32)) : Prop :=
  ∀ (d k pc ix : Nat) (r : List Value) (u q : Nat) (w z : Int32) (M : Mem) (R' : Option Value → Mem → Prop) (p : Program) (e : Env) (R0 : Room) (s : State) (m : MethodId) (args : Array Value) (below : List Frame) (meth : Method) (c : Code) (H : Heap) (locs : List Loc) (cells slots : Nat) (Q : State → Prop) (ls : Array Slot),
    CX D cy B Hb sc k p s m args meth c → AB D cy B M H → mSc M = sc → va_S (zA B) s.heap H locs → ls.size = pL (tbl k) → 30 ≤ d → d ≤ R0.frames → 64 * d ≤ R0.locals → cells + 100 ≤ R0.cells → slots + 1000 ≤ R0.slots → wsum r ≤ 8 → decode (pB (tbl k)) pc = .ok (.invokestatic ix, 3) → Cond.methodLink (pOwn (tbl k)) ix (yM 276) ∈ tables_1 → ob M u 16 → 1 ≤ mN M u → ob M q 11 →
    SWp l D cy B Hb sc (d - 10) 137 0 0 0 (padV (pL (tbl 137)) (ent [.ref q, .int z, .int w])) [] M R' → (∀ (y : Int32) (M' : Mem), R' (some (.int y)) M' → ob M' u 16 ∧ 1 ≤ mN M' u) →
    (∀ (v : Option Value) (M' : Mem) (H' : Heap) (locs' : List Loc), R' v M' → mSc M' = sc → va_S (zA B) s.heap H' locs' → ((∀ y : Int32, v = some (.int y) ∧ AB D cy B (sJ M' u 0 y.toInt64) H' → W p l e R0 s m args below meth c H' locs' (cells + 100) (slots + 1000) Q (F0 m (pc + 3) ls (.int 0 :: r))) ∧ (v = some (.retAddr 7) ∧ AB D cy B M' H' → W p l e R0 s m args below meth c H' locs' (cells + 100) (slots + 1000) Q (F0 m (pc + 3) ls (.int 1 :: r))))) →
    W p l e R0 s m args below meth c H locs cells slots Q (F0 m pc ls (.ref u :: .int w :: .int z :: .ref q :: r))

