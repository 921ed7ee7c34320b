/-! the law's own 'about': the class throws, the law catches -/
def rI (R' : Option Value → Mem → Prop) : Option Value → Mem → Prop := fun v M' => R' v M' ∧ ∃ y : Int32, v = some (.int y)
def aXC (D : va_G) (cy : Nat → ClassId) (B : Nat) (sc : Nat × Nat × (Nat → Int32)) (R' : Option Value → Mem → Prop) : String → State → State → Prop :=
  vx_X (S := Mem) (fun M' => R' (some (.retAddr 7)) M' ∧ mSc M' = sc) (fun E M' t => E = "java/util/NoSuchElementException" ∧ AB D cy B M' t.heap) (zA B)
theorem AB.grown {D : va_G} {cy : Nat → ClassId} {B : Nat} {M : Mem} {H H1 : Heap} (h : AB D cy B M H) (hq : ∀ q : Nat, q < H.size → H1[q]? = H[q]?) : AB D cy B M H1 := ⟨h.1.kept (fun k q hk => hq _ (vx_lt h.1 hk)), h.2⟩
theorem KX.sent {B : Nat} {Hb : Heap} {s : State} (h : KX B Hb s) (hO : ∀ q : Nat, q < B → s.heap[q]? = Hb[q]?) : vx_Zq Bundle.tN "UNASSIGNED_STACK" Bundle.steD (zA B) s s.heap ∧ vx_Zq Bundle.tN "SUPPRESSED_SENTINEL" Bundle.listD (zA B) s s.heap := by
  obtain ⟨-, -, h4, h5, -⟩ := h
  exact ⟨vx_Zq.kept h4 (fun a _ ha => hO a (Nat.not_le.mp ha)), vx_Zq.kept h5 (fun a _ ha => hO a (Nat.not_le.mp ha))⟩
theorem abt_new : (List.range 64).all (fun pc => match decode prog_1_method_23_code pc with
  | .ok (.new ix, _) => decide (pc = 26) && decide (ix = 248)
  | _ => true) = true := by decide +kernel
theorem abt_pc {pc ix : Nat} (hd : decode (pB (tbl 137)) pc = .ok (.new ix, 3)) (hf : fet 137 pc ≠ none) : pc = 26 ∧ ix = 248 := by
  have h64 : pc < 64 := by
    refine Nat.lt_of_not_le fun h => hf ?_
    have h1 : (pCd (tbl 137)).getD (pc / 64) [] = [] := by
      rw [List.getD_eq_getElem?_getD, List.getElem?_eq_none (show (pCd (tbl 137)).length ≤ pc / 64 from Nat.le_trans (show (pCd (tbl 137)).length ≤ 1 by decide +kernel) (by omega))]
      rfl
    unfold fet
    rw [h1]
    rfl
  have h := List.all_eq_true.mp abt_new pc (List.mem_range.mpr h64)
  rw [show decode prog_1_method_23_code pc = .ok (.new ix, 3) from hd] at h
  simpa using h
def abtW : List Cond := vx_at0 "CottageYear" 250 "java/util/NoSuchElementException" ["java/lang/RuntimeException", "java/lang/Exception"]
theorem abt_in : ∀ w ∈ abtW.filter goodWord, w ∈ tables_1.take 40 ++ tables_1.drop 1354 := by decide +kernel
theorem abt_ng : ∀ w ∈ abtW.filter (fun w => !goodWord w), w ∈ ([.castable "java/util/NoSuchElementException" "java/util/NoSuchElementException", .declares ⟨"java/lang/RuntimeException", "<init>", "()V"⟩, .declares ⟨"java/lang/Exception", "<init>", "()V"⟩, .declares ⟨"java/lang/Throwable", "<init>", "()V"⟩] : List Cond) := by decide +kernel
theorem abt_ot : ∀ w ∈ Cond.classLink "CottageYear" 248 "java/util/NoSuchElementException" :: Cond.initialized "java/util/NoSuchElementException" :: abtW, vx_ot w = true := by decide +kernel
theorem abt_mem {w : Cond} (h : w ∈ tables_1.take 40 ++ tables_1.drop 1354) : w ∈ tables_1 := by
  rcases List.mem_append.mp h with h | h
  · exact List.mem_of_mem_take h
  · exact List.mem_of_mem_drop h
theorem abt_at {args : Array Value} {s : State} {B : Nat} {Hb : Heap} (hts : ∀ w ∈ zTb, w.before args s = true) (h : KX B Hb s) : ∀ w ∈ abtW, w.before args s = true := by
  obtain ⟨-, -, -, -, h6, h7, h8, h9⟩ := h
  exact vx_hat (fun w hw => hts w (tb_in (abt_mem (abt_in w hw)) (List.mem_filter.mp hw).2)) abt_ng (vx_c (va_Nw.use rfl h6) (vx_c (va_Nw.use rfl h7) (vx_c (va_Nw.use rfl h8) (vx_c (va_Nw.use rfl h9) vx_n))))
section ABTS
variable {l : Launch} {D : va_G} {cy : Nat → ClassId} {B : Nat} {Hb : Heap} {sc : Nat × Nat × (Nat → Int32)}
set_option maxHeartbeats 4000000 in
set_option maxRecDepth 100000 in
/-- the class's about: an answer, or a throw -/
theorem abt_met {d q : Nat} {z w : Int32} {M : Mem} {R' : Option Value → Mem → Prop} (htr : l.stackTraces = false) (hd : 20 ≤ d) (hr : SWp l D cy B Hb sc d 137 0 0 0 (padV (pL (tbl 137)) (ent [.ref q, .int z, .int w])) [] M R') (hc : mSc M = sc) :
    vx_Met l (pY (tbl 137)) (wsP 137) (rmD d 1 6) (PcM D cy B Hb sc M [.ref q, .int z, .int w]) (QcM D cy B sc (rI R')) (aXC D cy B sc R') 1 6 (zA B) := by
  obtain ⟨q9, hq⟩ := mok (k := 137) (by decide)
  unfold mOK at hq
  simp only [Bool.and_eq_true, decide_eq_true_eq] at hq
  refine vx_ofW (cc := pB (tbl 137)) (maxL := pL (tbl 137)) (ret := pRet (tbl 137)) hq.1.1.1.1.1.1.2 rfl ?_
  intro p e s m args below meth c s₁ B0 hml hex hv
  obtain ⟨rfl, hA, hKK, hB, hO⟩ := hv
  have hts := atoms_spec (ws := wsP 137) B0.pre
  have hown : s.vm.findClass (pY (tbl 137)).cls = some m.cls := findClass_of_methodNamed B0.named
  have hlocks := B0.notSynchronized
  have hnm : meth.name = (pY (tbl 137)).name := (name_of_methodNamed B0.named B0.method).1
  have hz : ∀ w9 ∈ zTb, w9.before ([.ref q, .int z, .int w] : List Value).toArray s = true := fun w hw => hts w (List.mem_cons_of_mem _ hw)
  have X : CX D cy B Hb sc 137 p s m ([.ref q, .int z, .int w] : List Value).toArray meth c := ⟨B0.exec, B0.bytes, B0.returns, hml, by rw [hq.1.1.2]; exact hown, hz, hlocks, fun h => hnm.trans (of_decide_eq_true h), hKK, hB, hO⟩
  have hx := B0.exec
  have hb := B0.bytes
  have hrt := B0.returns
  rw [lg_entry_eq]
  refine hr p e _ s m _ below meth c s.heap [] 0 0 _ _ X hA hc va_S.rf (entry_lv (show 3 ≤ pL (tbl 137) by decide +kernel)) (Nat.le_refl d) (Nat.le_refl (64 * d)) (Nat.zero_le _) (Nat.zero_le _) ?_ ?_
  · intro v M' H' locs' cells' slots' ls' pc' hR hc' hA' hS' h1 h2 hri
    refine vx_ret ?_
    refine W.widen (k := 1) (n := 6) (by omega) (by omega) ?_
    match v, hri, hR with
    | none, hri, _ => exact absurd (show (some FieldType.int : Option FieldType) = none from hri.2) (by decide)
    | some (.int x), hri, hR =>
      have hq1 : ∀ t : State, t.heap = H' → s.WarmedH t.vm → QcM D cy B sc (rI R') ([.ref q, .int z, .int w] : List Value).toArray s (.returned (some (.int x))) t := fun t ht hW => ⟨⟨some (.int x), M', rfl, ⟨hR, x, rfl⟩, hc', by rw [ht]; exact hA'⟩, hS'.F ht⟩
      exact W.iret hx hb (hrt.trans rfl) hq1 hS'.2.2 hri.1
    | some (.long x), hri, _ => exact absurd (show (some FieldType.int : Option FieldType) = some .long from hri.2) (by decide)
    | some (.ref x), hri, _ =>
      obtain ⟨C, hC⟩ := hri.2
      exact absurd (show (some FieldType.int : Option FieldType) = some (.object C) from hC) (by simp)
    | some .null, hri, _ =>
      obtain ⟨C, hC⟩ := hri.2
      exact absurd (show (some FieldType.int : Option FieldType) = some (.object C) from hC) (by simp)
    | some (.float x), hri, _ => exact absurd hri (fun z => z)
    | some (.double x), hri, _ => exact absurd hri (fun z => z)
    | some (.retAddr x), hri, _ => exact absurd hri (fun z => z)
  · intro M' H' locs' cells' slots' ls' pc' ix hR hc' hA' hS' h1 h2 hdn hcl hft hsz
    obtain ⟨rfl, rfl⟩ := abt_pc hdn hft
    have hKX := hKK.2.2.2.2.2
    obtain ⟨hU, hN⟩ := hKX.sent hO
    refine vx_throw0 (cc := pB (tbl 137)) (pc := 26) (own := "CottageYear") (cls := "java/util/NoSuchElementException") (names := ["java/lang/RuntimeException", "java/lang/Exception"]) (ik := 248) (ic := 250) (A := zA B) hx hb htr hown (by decide +kernel) (by decide +kernel) (hz _ (tw 1362 (by decide +kernel) rfl)) (hz _ (tw 20 (by decide +kernel) rfl)) (abt_at hz hKX) abt_ot hU hN hS' (hsz.trans hml.symm) (by decide +kernel) (by decide +kernel) (by decide +kernel) (by decide +kernel) (fun x hx9 => absurd (hex x hx9) (fun z => z)) (show 2 + 3 < d by omega) (show 0 + (13 * (2 + 1) + 42) ≤ 64 * d by omega) (show cells' + 1 ≤ 1 by omega) (show slots' + 6 ≤ 6 by omega) hlocks (fun t hW hsz9 hk => ?_) hS'.2.2 (by omega) (by omega)
    exact ⟨M', ⟨hR, hc'⟩, ⟨rfl, hA'.grown hk⟩, Nat.le_trans hS'.1 hsz9, fun q9 hq9 hn9 => (hk q9 (Nat.lt_of_lt_of_le hq9 hS'.1)).trans (hS'.2.1 q9 hq9 hn9)⟩
theorem abt_call {p : Program} {e : Env} {R0 : Room} {s : State} {m : MethodId} {args : Array Value} {below : List Frame} {meth : Method} {c : Code} {H : Heap} {locs : List Loc} {cells slots : Nat} {Q : State → Prop} {R' : Option Value → Mem → Prop} {a : Array Value} {pc mc ms : Nat} {ls : Array Slot} {st0 rest : List Value}
    (hr : vx_Run p l e R0 s m args below meth c H locs cells slots mc ms (F0 m pc ls st0) rest (QcM D cy B sc (rI R') a) (aXC D cy B sc R') (zA B)) (hS : va_S (zA B) s.heap H locs)
    (kx : ∀ (ce : Cell) (q9 : Addr) (M' : Mem) (H1 : Heap) (locs1 : List Loc), R' (some (.retAddr 7)) M' → mSc M' = sc → AB D cy B M' H1 → va_S (zA B) s.heap H1 locs1 → H1[q9]? = some ce → ce.vm = .none → s.vm.findClass "java/util/NoSuchElementException" = some ce.cls → vx_W p l e R0 s m args below meth c H1 locs1 (cells + mc) (slots + ms) Q (F0 m pc ls rest) q9)
    (kk : ∀ (y : Int32) (M' : Mem) (H1 : Heap) (locs1 : List Loc), R' (some (.int y)) M' → mSc M' = sc → AB D cy B M' H1 → va_S (zA B) s.heap H1 locs1 → W p l e R0 s m args below meth c H1 locs1 (cells + mc) (slots + ms) Q (F0 m (pc + 3) ls (.int y :: rest))) : W p l e R0 s m args below meth c H locs cells slots Q (F0 m pc ls st0) := by
  intro T hT X
  rcases hr T hT X with ⟨v, st₀, t, T', L, h0, X', hL, e1, e2, ⟨⟨v', M', hv, ⟨hR, y, hy⟩, hc, hA⟩, hF⟩, st⟩ | ⟨q, st₀, t, T', L, E, ce, h0, X', hL, e1, e2, ⟨M', ⟨hR, hc⟩, ⟨hE, hA⟩, hF⟩, hce, hcv, hcl, st⟩
  · cases hv
    subst hy
    obtain ⟨k1, k2, k3⟩ := vx_keep h0 e1 hS (fun q _ h => h) (fun q h => h) hL hF
    obtain ⟨t2, a1, b1⟩ := kk y M' T'.heap (locs ++ L) hR hc (by rw [e1]; exact hA) k3 T' rfl X'
    exact ⟨t2, st t2 a1, b1⟩
  · subst hE
    obtain ⟨k1, k2, k3⟩ := vx_keep h0 e1 hS (fun q _ h => h) (fun q h => h) hL hF
    obtain ⟨t2, a1, b1⟩ := kx ce q M' T'.heap (locs ++ L) hR hc (by rw [e1]; exact hA) k3 (by rw [e1]; exact hce) hcv hcl T' rfl X'
    exact ⟨t2, st.trans a1, b1⟩
def yA : MethodName := ⟨"CottageYearLaw", "about", "(LCottageYear;II[J)I"⟩
def wsA : List Cond := Cond.codeWith yA method_3_code 5 (some .int) [(0, 10, 13, 13)] :: zTb
def QA (D : va_G) (cy : Nat → ClassId) (B : Nat) (sc : Nat × Nat × (Nat → Int32)) (R' : Option Value → Mem → Prop) (u : Nat) : Array Value → State → Outcome → State → Prop := fun _ st oc t =>
  (∃ (x : Int32) (v : Option Value) (M' : Mem), oc = .returned (some (.int x)) ∧ R' v M' ∧ mSc M' = sc ∧ ((x = 0 ∧ ∃ y : Int32, v = some (.int y) ∧ AB D cy B (sJ M' u 0 y.toInt64) t.heap) ∨ (x = 1 ∧ v = some (.retAddr 7) ∧ AB D cy B M' t.heap))) ∧ va_F (zA B) st t
theorem zero_in {n : Nat} (h : 1 ≤ n) : vp_in 0 n := fun z => by
  rcases z with z | z
  · exact absurd z (by decide)
  · rw [show (0 : Int32).toNatClampNeg = 0 from by decide] at z
    omega
set_option maxHeartbeats 4000000 in
set_option maxRecDepth 100000 in
theorem abt_law {d q u : Nat} {z w : Int32} {M : Mem} {R' : Option Value → Mem → Prop} (htr : l.stackTraces = false) (hd : 20 ≤ d) (hr : SWp l D cy B Hb sc d 137 0 0 0 (padV (pL (tbl 137)) (ent [.ref q, .int z, .int w])) [] M R') (hc : mSc M = sc) (hoq : ob M q 11)
    (hM' : ∀ (y : Int32) (M' : Mem), R' (some (.int y)) M' → ob M' u 16 ∧ 1 ≤ mN M' u) :
    Met l yA wsA (rmD (d + 1) 1 6) (PcM D cy B Hb sc M [.ref q, .int z, .int w, .ref u]) (QA D cy B sc R' u) 1 6 (zA B) := by
  refine va_MetW (cc := method_3_code) (maxL := 5) (ret := some .int) (hh := [(0, 10, 13, 13)]) (by decide +kernel) rfl ?_
  intro p e s m args below meth c s₁ B0 hml hv
  obtain ⟨rfl, hA, hKK, hB, hO⟩ := hv
  have hx := B0.exec
  have hb := B0.bytes
  have hrt := B0.returns
  have hts0 := atoms_spec (ws := wsA) B0.pre
  have hts : ∀ w9 ∈ zTb, w9.before ([.ref q, .int z, .int w, .ref u] : List Value).toArray s = true := fun w hw => hts0 w (List.mem_cons_of_mem _ hw)
  have hown : s.vm.findClass "CottageYearLaw" = some m.cls := findClass_of_methodNamed B0.named
  have hlocks := B0.notSynchronized
  have hTab := vx_table (x := yA) B0 (hts0 _ List.mem_cons_self)
  have hS : va_S (zA B) s.heap s.heap [] := va_S.rf
  have hl := lv_entry ([.ref q, .int z, .int w, .ref u]) (n := 5) (Nat.le_of_ble_eq_true rfl)
  rw [lg_entry_eq]
  generalize (lg_sl ([.ref q, .int z, .int w, .ref u]) ++ List.replicate (5 - (lg_sl ([.ref q, .int z, .int w, .ref u])).length) Slot.unset).toArray = ls at hl ⊢
  have hl : lv_has ls 5 [(0, .ref q), (1, .int z), (2, .int w), (3, .ref u)] := hl
  refine lv_aload_n hx hb (show decode method_3_code 0 = .ok (.aload_n 3, 1) by decide +kernel) rfl (lv_at hl 3 rfl) ?_
  refine lv_iconst (v := 0) hx hb (show decode method_3_code 1 = .ok (.iconst 0, 1) by decide +kernel) (by decide) ?_
  refine lv_aload_n hx hb (show decode method_3_code 2 = .ok (.aload_n 0, 1) by decide +kernel) rfl (lv_at hl 0 rfl) ?_
  refine lv_iload_n hx hb (show decode method_3_code 3 = .ok (.iload_n 1, 1) by decide +kernel) rfl (lv_at hl 1 rfl) ?_
  refine lv_iload_n hx hb (show decode method_3_code 4 = .ok (.iload_n 2, 1) by decide +kernel) rfl (lv_at hl 2 rfl) ?_
  obtain ⟨q0, hq0⟩ := ob_get hA hoq
  rw [eE_obj hoq.2 (by decide)] at hq0
  have hrec := va_recv hKK.1 hA.1 (show zcl[11]? = some _ from rfl) hq0
  have hPre : PreV s s.heap "CottageYear" q (PcM D cy B Hb sc M [.ref q, .int z, .int w]) [.int z, .int w] := ⟨PcM.blind, hrec, fun U hU hW => ⟨rfl, by rw [hU]; exact hA, hKK.moved hW, by rw [hU]; exact hB, fun q hq => by rw [hU]; exact hO q hq⟩⟩
  have cb : CallB (rmD (d + 1) 1 6) s ([.ref q, .int z, .int w, .ref u] : List Value).toArray "CottageYearLaw" 7 (pY (tbl 137)) (pB (tbl 137)) (pL (tbl 137)) (pRet (tbl 137)) (wsP 137) (rmD d 1 6) 1 6 2 := by
    refine callB_of (Ts := zTb) 2 hts (good_wsP (by decide)) rfl rfl rfl (hts _ (tw 1 (by decide +kernel) rfl)) (hts _ (tw 1358 (by decide +kernel) rfl)) ⟨by decide +kernel, by decide +kernel, by decide +kernel⟩ ⟨?_, ?_⟩
    · show d + 1 ≤ d + 1
      omega
    · show 8 + (4 + 11) + 64 * d ≤ 64 * (d + 1)
      omega
  refine abt_call (vx_runV (Ts := zTb) (C := "CottageYear") (As := [.int z, .int w]) (rest := [.int 0, .ref u]) ⟨hx, hb, hml, hown, hts⟩ (abt_met htr hd hr hc) ⟨cb, hts _ (tw 1359 (by decide +kernel) rfl), hts _ (tw 1360 (by decide +kernel) rfl)⟩ hPre rfl rfl hl.1 rfl (lv_room (Nat.le_of_ble_eq_true rfl)) (show decode method_3_code 5 = .ok (.invokevirtual 7, 3) by decide +kernel) ⟨(show 0 + 1 ≤ 1 by omega), (show 0 + 6 ≤ 6 by omega)⟩) hS (fun ce q9 M' H1 locs1 hR hc' hA' hS' hce hcv hcl => ?_) (fun y M' H1 locs1 hR hc' hA' hS' => ?_)
  · refine vx_catch (own := "CottageYearLaw") (name := "java/util/NoSuchElementException") (E := "java/util/NoSuchElementException") hown ⟨0, 10, 13, 13⟩ [] (by rw [hTab]; rfl) (by decide) (by decide) (hts _ (tw 1357 (by decide +kernel) rfl)) (va_Nw.use rfl hKK.2.2.2.2.2.2.2.2.2.1) hce hcv hcl ?_
    refine lv_astore hx hb (show decode method_3_code 13 = .ok (.astore 4, 2) by decide +kernel) hl (by decide) rfl (fun ls' hl' => ?_)
    refine lv_iconst (v := 1) hx hb (show decode method_3_code 15 = .ok (.iconst 1, 1) by decide +kernel) (by decide) ?_
    exact W.iret (v := 1) hx hb hrt (fun t ht hW => ⟨⟨1, _, M', rfl, hR, hc', Or.inr ⟨rfl, rfl, by rw [ht]; exact hA'⟩⟩, hS'.F ht⟩) hS'.2.2 (show decode method_3_code 16 = .ok (.ireturn, 1) by decide +kernel)
  · refine lv_i2l hx hb (show decode method_3_code 8 = .ok (.i2l, 1) by decide +kernel) rfl ?_
    obtain ⟨hou, hnu⟩ := hM' y M' hR
    obtain ⟨q2, h0⟩ := ob_get hA' hou
    have h1 := h0
    rw [eE_long hou.2] at h1
    refine va_last (D := D) hx hb hKK.1 hA'.1 hA'.2 hS' q2 3 h1 rfl (zero_in hnu) (show decode method_3_code 9 = .ok (.lastore, 1) by decide +kernel) (fun H2 locs2 hP hD hS2 => ?_)
    have hA2 : AB D cy B (sJ M' u (0 : Int32).toNatClampNeg y.toInt64) H2 := hA'.set hou.1 rfl (eE_sJ_a hou.2) h0 hP hD
    rw [show (0 : Int32).toNatClampNeg = 0 from by decide] at hA2
    refine lv_goto (tgt := 17) hx hb (show decode method_3_code 10 = .ok (.goto 7, 3) by decide +kernel) (by decide) ?_
    refine lv_iconst (v := 0) hx hb (show decode method_3_code 17 = .ok (.iconst 0, 1) by decide +kernel) (by decide) ?_
    exact W.iret (v := 0) hx hb hrt (fun t ht hW => ⟨⟨0, _, M', rfl, hR, hc', Or.inl ⟨rfl, y, rfl, by rw [ht]; exact hA2⟩⟩, hS2.F ht⟩) hS2.2.2 (show decode method_3_code 18 = .ok (.ireturn, 1) by decide +kernel)
theorem good_wsA {own : String} {ix : Nat} (h : Cond.methodLink own ix yA ∈ tables_1) : GoodIn zTb (va_wsS own ix yA wsA) := by
  intro w hw
  unfold va_wsS at hw
  rcases List.mem_append.mp hw with h1 | h1
  · simp only [List.mem_cons, List.not_mem_nil, or_false] at h1
    rcases h1 with rfl | rfl | rfl
    · exact ⟨tb_in h rfl, good_of_word rfl⟩
    · exact ⟨tw 1355 (by decide +kernel) rfl, good_of_word rfl⟩
    · exact ⟨tw 0 (by decide +kernel) rfl, good_of_word rfl⟩
  · rcases List.mem_cons.mp h1 with rfl | h2
    · exact ⟨tw 1356 (by decide +kernel) rfl, good_of_word rfl⟩
    · exact ⟨h2, good_of_word (List.mem_filter.mp h2).2⟩
theorem abt_ok (htr : l.stackTraces = false) : ABT l D cy B Hb sc := by
  intro d k pc ix r u q w z M R' p e R0 s m args below meth c H locs cells slots Q ls X hA hc hS hsz hd hdf hdl hcc hss hw hdec hlk hou hnu hoq hsw hM' kk
  obtain ⟨hx, hb, hrt, hml, hown, hts, hlk0, hini, hKK, hB, hO⟩ := id X
  have hPre : PreS s H (PcM D cy B Hb sc M [.ref q, .int z, .int w, .ref u]) [.ref q, .int z, .int w, .ref u] := ⟨PcM.blind, fun U hU hW => ⟨rfl, by rw [hU]; exact hA, hKK.moved hW, by rw [hU]; exact Nat.le_trans hB hS.1, fun q hq => by rw [hU, hS.2.1 q (by omega) (Nat.not_le.mpr hq)]; exact hO q hq⟩⟩
  have cw : vx_CSW R0 s args (pOwn (tbl k)) ix yA method_3_code 5 (some .int) [(0, 10, 13, 13)] wsA (rmD (d - 10 + 1) 1 6) 1 6 4 := by
    refine vx_cwSW (Ts := zTb) (ws' := zTb) 4 hts (good_wsA hlk) rfl rfl rfl ⟨by decide, by decide, by decide +kernel⟩ ⟨?_, ?_⟩
    · show d - 10 + 1 + 1 ≤ R0.frames
      omega
    · show 8 + (5 + 11) + 64 * (d - 10 + 1) ≤ R0.locals
      omega
  have hrun := vx_runSW (p := p) (l := l) (e := e) (R := R0) (m := m) (below := below) (meth := meth) (c := c) (H := H) (locs := locs) (cells := cells) (slots := slots) (g := F0 m pc ls (.ref u :: .int w :: .int z :: .ref q :: r)) (rest := r) (Ts := zTb) (As := [.ref q, .int z, .int w, .ref u]) ⟨hx, hb, hml, hown, hts⟩ (abt_law htr (show 20 ≤ d - 10 by omega) hsw hc hoq hM') cw hPre rfl rfl hsz rfl (lv_room hw) hdec ⟨by omega, by omega⟩
  intro T hT XX
  obtain ⟨v, st₀, t, T', L, h0, X', hL, e1, e2, ⟨⟨x, v', M', hv, hR, hc', hcase⟩, hF⟩, st⟩ := hrun T hT XX
  cases hv
  obtain ⟨k1, k2, k3⟩ := vx_keep h0 e1 hS (fun q _ h => h) (fun q h => h) hL hF
  obtain ⟨kA, kB⟩ := kk v' M' T'.heap (locs ++ L) hR hc' k3
  rcases hcase with ⟨rfl, y, hy, hAB⟩ | ⟨rfl, hy, hAB⟩
  · obtain ⟨t2, a1, b1⟩ := kA y ⟨hy, by rw [e1]; exact hAB⟩ T' rfl (stand_widen X' (by omega) (by omega))
    exact ⟨t2, st t2 a1, b1⟩
  · obtain ⟨t2, a1, b1⟩ := kB ⟨hy, by rw [e1]; exact hAB⟩ T' rfl (stand_widen X' (by omega) (by omega))
    exact ⟨t2, st t2 a1, b1⟩
end ABTS
