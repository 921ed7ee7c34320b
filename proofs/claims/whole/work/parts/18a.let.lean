/-! Text.isLetter: the JDK's own indexOf, over the text "clrgdh" -/
/-- the text at aK, its bytes at aV, outside A; the JDK's word that texts are compact; the constant's place -/
def JS (B aK aV : Nat) (U : State) : Prop :=
  (va_O "java/lang/String" aK (zA B) U U.heap ∧ va_OF "java/lang/String" "coder" "B" (.int 0) aK (zA B) U U.heap ∧ va_OF "java/lang/String" "value" "[B" (.ref aV) aK (zA B) U U.heap ∧ va_T .byte aV 6 (fun j => .int (([99, 108, 114, 103, 100, 104] : List Int32).getD j 0)) (zA B) U U.heap) ∧
  va_Z "java/lang/String" "COMPACT_STRINGS" "Z" (.int 1) (zA B) U U.heap ∧ vk_R "CottageYear$Text" 25 "clrgdh" aK U
theorem JS.call {B aK aV : Nat} {U : State} {g : JFrame} {mk : MethodId} {a : Array Value} (h : JS B aK aV U) : JS B aK aV (U.calling g mk a) := by
  obtain ⟨⟨h1, h2, h3, h4⟩, h5, h6⟩ := h
  exact ⟨⟨va_O.moved (u := U) (Vm.Alike.refl U.vm) h1, va_OF.moved (u := U) (Vm.Alike.refl U.vm) h2, va_OF.moved (u := U) (Vm.Alike.refl U.vm) h3, va_T.moved (u := U) (Vm.Alike.refl U.vm) h4⟩, va_Z.moved (u := U) (Vm.Alike.refl U.vm) h5, vk_R.same (u := U) rfl h6⟩
theorem JS.warm {B aK aV : Nat} {s U : State} (hW : s.WarmedH U.vm) (hU : U.heap = s.heap) (h : JS B aK aV s) : JS B aK aV U := by
  obtain ⟨⟨h1, h2, h3, h4⟩, h5, h6⟩ := h
  unfold JS
  rw [hU]
  exact ⟨⟨va_O.moved hW.alike h1, va_OF.moved hW.alike h2, va_OF.moved hW.alike h3, va_T.moved hW.alike h4⟩, va_Z.moved hW.alike h5, vk_R.warm hW h6⟩
def wsY (y : MethodName) (b : ByteArray) (n : Nat) (ret : Option FieldType) : List Cond := Cond.code y b n ret :: zTb
theorem good_wsY {y : MethodName} {b : ByteArray} {n : Nat} {ret : Option FieldType} (h : Cond.code y b n ret ∈ tables_1) : GoodIn zTb (wsY y b n ret) := by
  intro w hw
  rcases List.mem_cons.mp hw with rfl | h'
  · exact ⟨tb_in h rfl, Or.inl rfl⟩
  · exact ⟨h', good_of_word (List.mem_filter.mp h').2⟩
theorem tw {w : Cond} (i : Nat) (h : tables_1[i]? = some w) (hg : goodWord w = true) : w ∈ zTb := tb_in (List.mem_of_getElem? h) hg
theorem F_same {A : Nat → Prop} {s t : State} (h : t.heap = s.heap) : va_F A s t := ⟨by rw [h]; exact Nat.le_refl _, fun q _ _ => by rw [h]⟩
def PJ (H0 : Heap) (B aK aV : Nat) (av : List Value) : Array Value → State → Prop := va_Pc av (fun U => U.heap = H0 ∧ JS B aK aV U)
def QJ (H0 : Heap) (x : Int32) : Array Value → State → Outcome → State → Prop := fun _ _ oc t => oc = .returned (some (.int x)) ∧ t.heap = H0
theorem PJ.blind {H0 : Heap} {B aK aV : Nat} {av : List Value} : FrameBlind (PJ H0 B aK aV av) := by
  intro a U g mk h
  obtain ⟨h0, h1, h2⟩ := h
  exact ⟨h0, h1, h2.call⟩
section
variable {p : Program} {l : Launch} {e : Env} {R : Room} {s : State} {m : MethodId} {args : Array Value} {below : List Frame} {meth : Method} {c : Code} {H : Heap} {locs : List Loc} {cells slots : Nat} {Q : State → Prop}
/-- behind a call that leaves the heap as it was -/
theorem call_q {pc : Nat} {ls : Array Slot} {st0 rest : List Value} {r : Int32} {a : Array Value} (hr : va_Run p l e R s m args below meth c H locs cells slots 0 0 (F0 m pc ls st0) rest (QJ H r a) (fun _ => False))
    (k : W p l e R s m args below meth c H locs cells slots Q (F0 m (pc + 3) ls (.int r :: rest))) : W p l e R s m args below meth c H locs cells slots Q (F0 m pc ls st0) := by
  intro T hT X
  obtain ⟨v, st₀, t, T', L, h0, X', hL, e1, e2, ⟨hv, hh⟩, st⟩ := hr T hT X
  have hL0 : L = [] := by
    cases L with
    | nil => rfl
    | cons z zs => exact absurd (hL z List.mem_cons_self) (fun q => q)
  subst hL0
  cases hv
  rw [List.append_nil] at X'
  obtain ⟨t2, a1, b1⟩ := k T' (e1.trans hh) X'
  exact ⟨t2, st t2 a1, b1⟩
theorem callB_y {own : String} {ix n maxL d : Nat} {y : MethodName} {b : ByteArray} {ret : Option FieldType} (hts : ∀ w ∈ zTb, w.before args s = true) (hc : Cond.code y b maxL ret ∈ tables_1) (hi : Cond.initialized y.cls ∈ zTb) (hl : Cond.methodLink own ix y ∈ zTb)
    (hd : y.cls ≠ "java/lang/invoke/MethodHandle" ∧ y.cls ≠ "java/lang/invoke/VarHandle" ∧ (parseMethodDescriptor y.desc).map (fun d => d.parameters.length) = some n) (hm : maxL ≤ 40) (hf : d + 1 ≤ R.frames) (hlo : 64 * (d + 1) ≤ R.locals) :
    CallB R s args own ix y b maxL ret (wsY y b maxL ret) (rmD d 0 0) 0 0 n := by
  refine callB_of (Ts := zTb) n hts (good_wsY hc) rfl rfl rfl (hts _ hi) (hts _ hl) hd ⟨hf, ?_⟩
  show 8 + (maxL + 11) + 64 * d ≤ R.locals
  omega
end
/-- which place a byte has in the text -/
def jIx (v : Int32) : Int32 := if 99 = v then 0 else if 108 = v then 1 else if 114 = v then 2 else if 103 = v then 3 else if 100 = v then 4 else if 104 = v then 5 else -1
def jCan (c : Int32) : Int32 := if c < 0 then 0 else if 255 < c then 0 else 1
def jIdx (c : Int32) : Int32 := if jCan c = 0 then -1 else jIx c.toInt8.toInt32
def jy_can : MethodName := ⟨"java/lang/StringLatin1", "canEncode", "(I)Z"⟩
def jy_ioc : MethodName := ⟨"java/lang/StringLatin1", "indexOfChar", "([BIII)I"⟩
def jy_l1 : MethodName := ⟨"java/lang/StringLatin1", "indexOf", "([BIII)I"⟩
def jy_cod : MethodName := ⟨"java/lang/String", "coder", "()B"⟩
def jy_len : MethodName := ⟨"java/lang/String", "length", "()I"⟩
def jy_lat : MethodName := ⟨"java/lang/String", "isLatin1", "()Z"⟩
def jy_ix2 : MethodName := ⟨"java/lang/String", "indexOf", "(II)I"⟩
def jy_ix1 : MethodName := ⟨"java/lang/String", "indexOf", "(I)I"⟩
def jy_let : MethodName := ⟨"CottageYear$Text", "isLetter", "(I)Z"⟩
set_option maxHeartbeats 4000000 in
set_option maxRecDepth 100000 in
theorem j_can (l : Launch) (H0 : Heap) (B aK aV : Nat) (x : Int32) : Met l jy_can (wsY jy_can prog_21_method_4_code 1 (some .boolean)) (rmD 0 0 0) (PJ H0 B aK aV [.int x]) (QJ H0 (jCan x)) 0 0 (fun _ => False) := by
  refine va_MetF (cc := prog_21_method_4_code) (maxL := 1) (ret := some .boolean) (by decide +kernel) rfl ?_
  intro p e s m args below meth c s₁ B0 hml hv
  obtain ⟨rfl, hH, hJ⟩ := hv
  have hx := B0.exec
  have hb := B0.bytes
  have hr := B0.returns
  have hts0 := atoms_spec (ws := wsY jy_can prog_21_method_4_code 1 (some .boolean)) B0.pre
  have hts : ∀ w ∈ zTb, w.before ([.int x] : List Value).toArray s = true := fun w hw => hts0 w (List.mem_cons_of_mem _ hw)
  have hown : s.vm.findClass "java/lang/StringLatin1" = some m.cls := findClass_of_methodNamed B0.named
  have hlocks := B0.notSynchronized
  have hS : va_S (zA B) s.heap s.heap [] := va_S.rf
  have hl := lv_entry ([.int x]) (n := 1) (Nat.le_of_ble_eq_true rfl)
  rw [lg_entry_eq]
  generalize (lg_sl ([.int x]) ++ List.replicate (1 - (lg_sl ([.int x])).length) Slot.unset).toArray = ls at hl ⊢
  have hl : lv_has ls 1 [(0, .int x)] := hl
  refine lv_iload_n hx hb (show decode prog_21_method_4_code 0 = .ok (.iload_n 0, 1) by decide +kernel) rfl (lv_at hl 0 rfl) ?_
  refine lv_if_lt (tgt := 15) hx hb (show decode prog_21_method_4_code 1 = .ok (.ifCond .lt 14, 3) by decide +kernel) (by decide) (fun h0 => ?_) (fun h0 => ?_)
  · refine lv_iconst (v := 0) hx hb (show decode prog_21_method_4_code 15 = .ok (.iconst 0, 1) by decide +kernel) (by decide) ?_
    have ex : jCan x = 0 := if_pos h0
    exact W.zret (v := 0) (ty := .boolean) hx hb hr rfl (fun t ht hW => ⟨by rw [ex], ht.trans hH⟩) (fun q hq => nomatch hq) (show decode prog_21_method_4_code 16 = .ok (.ireturn, 1) by decide +kernel)
  · refine lv_iload_n hx hb (show decode prog_21_method_4_code 4 = .ok (.iload_n 0, 1) by decide +kernel) rfl (lv_at hl 0 rfl) ?_
    refine lv_sipush (v := 255) hx hb (show decode prog_21_method_4_code 5 = .ok (.sipush 255, 3) by decide +kernel) (by decide) ?_
    refine lv_icmp_gt (tgt := 15) hx hb (show decode prog_21_method_4_code 8 = .ok (.if_icmp .gt 7, 3) by decide +kernel) (by decide) (fun h1 => ?_) (fun h1 => ?_)
    · refine lv_iconst (v := 0) hx hb (show decode prog_21_method_4_code 15 = .ok (.iconst 0, 1) by decide +kernel) (by decide) ?_
      have ex : jCan x = 0 := (if_neg h0).trans (if_pos h1)
      exact W.zret (v := 0) (ty := .boolean) hx hb hr rfl (fun t ht hW => ⟨by rw [ex], ht.trans hH⟩) (fun q hq => nomatch hq) (show decode prog_21_method_4_code 16 = .ok (.ireturn, 1) by decide +kernel)
    · refine lv_iconst (v := 1) hx hb (show decode prog_21_method_4_code 11 = .ok (.iconst 1, 1) by decide +kernel) (by decide) ?_
      refine lv_goto (tgt := 16) hx hb (show decode prog_21_method_4_code 12 = .ok (.goto 4, 3) by decide +kernel) (by decide) ?_
      have ex : jCan x = 1 := (if_neg h0).trans (if_neg h1)
      exact W.zret (v := 1) (ty := .boolean) hx hb hr rfl (fun t ht hW => ⟨by rw [ex], ht.trans hH⟩) (fun q hq => nomatch hq) (show decode prog_21_method_4_code 16 = .ok (.ireturn, 1) by decide +kernel)
set_option maxHeartbeats 4000000 in
set_option maxRecDepth 100000 in
theorem j_ioc (l : Launch) (H0 : Heap) (B aK aV : Nat) (x : Int32) : Met l jy_ioc (wsY jy_ioc prog_21_method_23_code 6 (some .int)) (rmD 0 0 0) (PJ H0 B aK aV [.ref aV, .int x, .int 0, .int 6]) (QJ H0 (jIx x.toInt8.toInt32)) 0 0 (fun _ => False) := by
  refine va_MetF (cc := prog_21_method_23_code) (maxL := 6) (ret := some .int) (by decide +kernel) rfl ?_
  intro p e s m args below meth c s₁ B0 hml hv
  obtain ⟨rfl, hH, hJ⟩ := hv
  have hx := B0.exec
  have hb := B0.bytes
  have hr := B0.returns
  have hts0 := atoms_spec (ws := wsY jy_ioc prog_21_method_23_code 6 (some .int)) B0.pre
  have hts : ∀ w ∈ zTb, w.before ([.ref aV, .int x, .int 0, .int 6] : List Value).toArray s = true := fun w hw => hts0 w (List.mem_cons_of_mem _ hw)
  have hown : s.vm.findClass "java/lang/StringLatin1" = some m.cls := findClass_of_methodNamed B0.named
  have hlocks := B0.notSynchronized
  have hS : va_S (zA B) s.heap s.heap [] := va_S.rf
  have hl := lv_entry ([.ref aV, .int x, .int 0, .int 6]) (n := 6) (Nat.le_of_ble_eq_true rfl)
  rw [lg_entry_eq]
  generalize (lg_sl ([.ref aV, .int x, .int 0, .int 6]) ++ List.replicate (6 - (lg_sl ([.ref aV, .int x, .int 0, .int 6])).length) Slot.unset).toArray = ls at hl ⊢
  have hl : lv_has ls 6 [(0, .ref aV), (1, .int x), (2, .int 0), (3, .int 6)] := hl
  refine lv_iload_n hx hb (show decode prog_21_method_23_code 0 = .ok (.iload_n 1, 1) by decide +kernel) rfl (lv_at hl 1 rfl) ?_
  refine lv_i2b (v := x.toInt8.toInt32) hx hb (show decode prog_21_method_23_code 1 = .ok (.i2b, 1) by decide +kernel) rfl ?_
  refine lv_istore (lv' := [(4, .int x.toInt8.toInt32), (0, .ref aV), (1, .int x), (2, .int 0), (3, .int 6)]) hx hb (show decode prog_21_method_23_code 2 = .ok (.istore 4, 2) by decide +kernel) hl (by decide) rfl (fun ls hl => ?_)
  refine lv_iload_n hx hb (show decode prog_21_method_23_code 4 = .ok (.iload_n 2, 1) by decide +kernel) rfl (lv_at hl 3 rfl) ?_
  refine lv_istore (lv' := [(5, .int 0), (4, .int x.toInt8.toInt32), (0, .ref aV), (1, .int x), (2, .int 0), (3, .int 6)]) hx hb (show decode prog_21_method_23_code 5 = .ok (.istore 5, 2) by decide +kernel) hl (by decide) rfl (fun ls hl => ?_)
  refine lv_iload hx hb (show decode prog_21_method_23_code 7 = .ok (.iload 5, 2) by decide +kernel) (lv_at hl 0 rfl) ?_
  refine lv_iload_n hx hb (show decode prog_21_method_23_code 9 = .ok (.iload_n 3, 1) by decide +kernel) rfl (lv_at hl 5 rfl) ?_
  refine lv_icmp_ge (tgt := 31) hx hb (show decode prog_21_method_23_code 10 = .ok (.if_icmp .ge 21, 3) by decide +kernel) (by decide) (fun h => absurd h (by decide)) (fun _ => ?_)
  refine lv_aload_n hx hb (show decode prog_21_method_23_code 13 = .ok (.aload_n 0, 1) by decide +kernel) rfl (lv_at hl 2 rfl) ?_
  refine lv_iload hx hb (show decode prog_21_method_23_code 14 = .ok (.iload 5, 2) by decide +kernel) (lv_at hl 0 rfl) ?_
  refine va_tb (t := aV) (N := 6) (v := .int 99) hx hb hJ.1.2.2.2 hS (show vp_in (nI 0) 6 from vp_in_nI (by decide) (by decide)) rfl (show decode prog_21_method_23_code 16 = .ok (.baload, 1) by decide +kernel) ?_
  refine lv_iload hx hb (show decode prog_21_method_23_code 17 = .ok (.iload 4, 2) by decide +kernel) (lv_at hl 1 rfl) ?_
  refine lv_icmp_ne (tgt := 25) hx hb (show decode prog_21_method_23_code 19 = .ok (.if_icmp .ne 6, 3) by decide +kernel) (by decide) (fun g0 => ?_) (fun g0 => ?_)
  rotate_left
  · refine lv_iload hx hb (show decode prog_21_method_23_code 22 = .ok (.iload 5, 2) by decide +kernel) (lv_at hl 0 rfl) ?_
    have ex : jIx x.toInt8.toInt32 = 0 := by unfold jIx; rw [if_pos g0]
    exact W.iret (v := 0) hx hb hr (fun t ht hW => ⟨by rw [ex], ht.trans hH⟩) (fun q hq => nomatch hq) (show decode prog_21_method_23_code 24 = .ok (.ireturn, 1) by decide +kernel)
  refine lv_iinc (k := 0) (v := 1) (lv' := [(5, .int 1), (4, .int x.toInt8.toInt32), (0, .ref aV), (1, .int x), (2, .int 0), (3, .int 6)]) hx hb (show decode prog_21_method_23_code 25 = .ok (.iinc 5 1, 3) by decide +kernel) hl rfl (by decide) (by decide) rfl (fun ls hl => ?_)
  refine lv_goto (tgt := 7) hx hb (show decode prog_21_method_23_code 28 = .ok (.goto (-21), 3) by decide +kernel) (by decide) ?_
  refine lv_iload hx hb (show decode prog_21_method_23_code 7 = .ok (.iload 5, 2) by decide +kernel) (lv_at hl 0 rfl) ?_
  refine lv_iload_n hx hb (show decode prog_21_method_23_code 9 = .ok (.iload_n 3, 1) by decide +kernel) rfl (lv_at hl 5 rfl) ?_
  refine lv_icmp_ge (tgt := 31) hx hb (show decode prog_21_method_23_code 10 = .ok (.if_icmp .ge 21, 3) by decide +kernel) (by decide) (fun h => absurd h (by decide)) (fun _ => ?_)
  refine lv_aload_n hx hb (show decode prog_21_method_23_code 13 = .ok (.aload_n 0, 1) by decide +kernel) rfl (lv_at hl 2 rfl) ?_
  refine lv_iload hx hb (show decode prog_21_method_23_code 14 = .ok (.iload 5, 2) by decide +kernel) (lv_at hl 0 rfl) ?_
  refine va_tb (t := aV) (N := 6) (v := .int 108) hx hb hJ.1.2.2.2 hS (show vp_in (nI 1) 6 from vp_in_nI (by decide) (by decide)) rfl (show decode prog_21_method_23_code 16 = .ok (.baload, 1) by decide +kernel) ?_
  refine lv_iload hx hb (show decode prog_21_method_23_code 17 = .ok (.iload 4, 2) by decide +kernel) (lv_at hl 1 rfl) ?_
  refine lv_icmp_ne (tgt := 25) hx hb (show decode prog_21_method_23_code 19 = .ok (.if_icmp .ne 6, 3) by decide +kernel) (by decide) (fun g1 => ?_) (fun g1 => ?_)
  rotate_left
  · refine lv_iload hx hb (show decode prog_21_method_23_code 22 = .ok (.iload 5, 2) by decide +kernel) (lv_at hl 0 rfl) ?_
    have ex : jIx x.toInt8.toInt32 = 1 := by unfold jIx; rw [if_neg g0, if_pos g1]
    exact W.iret (v := 1) hx hb hr (fun t ht hW => ⟨by rw [ex], ht.trans hH⟩) (fun q hq => nomatch hq) (show decode prog_21_method_23_code 24 = .ok (.ireturn, 1) by decide +kernel)
  refine lv_iinc (k := 0) (v := 2) (lv' := [(5, .int 2), (4, .int x.toInt8.toInt32), (0, .ref aV), (1, .int x), (2, .int 0), (3, .int 6)]) hx hb (show decode prog_21_method_23_code 25 = .ok (.iinc 5 1, 3) by decide +kernel) hl rfl (by decide) (by decide) rfl (fun ls hl => ?_)
  refine lv_goto (tgt := 7) hx hb (show decode prog_21_method_23_code 28 = .ok (.goto (-21), 3) by decide +kernel) (by decide) ?_
  refine lv_iload hx hb (show decode prog_21_method_23_code 7 = .ok (.iload 5, 2) by decide +kernel) (lv_at hl 0 rfl) ?_
  refine lv_iload_n hx hb (show decode prog_21_method_23_code 9 = .ok (.iload_n 3, 1) by decide +kernel) rfl (lv_at hl 5 rfl) ?_
  refine lv_icmp_ge (tgt := 31) hx hb (show decode prog_21_method_23_code 10 = .ok (.if_icmp .ge 21, 3) by decide +kernel) (by decide) (fun h => absurd h (by decide)) (fun _ => ?_)
  refine lv_aload_n hx hb (show decode prog_21_method_23_code 13 = .ok (.aload_n 0, 1) by decide +kernel) rfl (lv_at hl 2 rfl) ?_
  refine lv_iload hx hb (show decode prog_21_method_23_code 14 = .ok (.iload 5, 2) by decide +kernel) (lv_at hl 0 rfl) ?_
  refine va_tb (t := aV) (N := 6) (v := .int 114) hx hb hJ.1.2.2.2 hS (show vp_in (nI 2) 6 from vp_in_nI (by decide) (by decide)) rfl (show decode prog_21_method_23_code 16 = .ok (.baload, 1) by decide +kernel) ?_
  refine lv_iload hx hb (show decode prog_21_method_23_code 17 = .ok (.iload 4, 2) by decide +kernel) (lv_at hl 1 rfl) ?_
  refine lv_icmp_ne (tgt := 25) hx hb (show decode prog_21_method_23_code 19 = .ok (.if_icmp .ne 6, 3) by decide +kernel) (by decide) (fun g2 => ?_) (fun g2 => ?_)
  rotate_left
  · refine lv_iload hx hb (show decode prog_21_method_23_code 22 = .ok (.iload 5, 2) by decide +kernel) (lv_at hl 0 rfl) ?_
    have ex : jIx x.toInt8.toInt32 = 2 := by unfold jIx; rw [if_neg g0, if_neg g1, if_pos g2]
    exact W.iret (v := 2) hx hb hr (fun t ht hW => ⟨by rw [ex], ht.trans hH⟩) (fun q hq => nomatch hq) (show decode prog_21_method_23_code 24 = .ok (.ireturn, 1) by decide +kernel)
  refine lv_iinc (k := 0) (v := 3) (lv' := [(5, .int 3), (4, .int x.toInt8.toInt32), (0, .ref aV), (1, .int x), (2, .int 0), (3, .int 6)]) hx hb (show decode prog_21_method_23_code 25 = .ok (.iinc 5 1, 3) by decide +kernel) hl rfl (by decide) (by decide) rfl (fun ls hl => ?_)
  refine lv_goto (tgt := 7) hx hb (show decode prog_21_method_23_code 28 = .ok (.goto (-21), 3) by decide +kernel) (by decide) ?_
  refine lv_iload hx hb (show decode prog_21_method_23_code 7 = .ok (.iload 5, 2) by decide +kernel) (lv_at hl 0 rfl) ?_
  refine lv_iload_n hx hb (show decode prog_21_method_23_code 9 = .ok (.iload_n 3, 1) by decide +kernel) rfl (lv_at hl 5 rfl) ?_
  refine lv_icmp_ge (tgt := 31) hx hb (show decode prog_21_method_23_code 10 = .ok (.if_icmp .ge 21, 3) by decide +kernel) (by decide) (fun h => absurd h (by decide)) (fun _ => ?_)
  refine lv_aload_n hx hb (show decode prog_21_method_23_code 13 = .ok (.aload_n 0, 1) by decide +kernel) rfl (lv_at hl 2 rfl) ?_
  refine lv_iload hx hb (show decode prog_21_method_23_code 14 = .ok (.iload 5, 2) by decide +kernel) (lv_at hl 0 rfl) ?_
  refine va_tb (t := aV) (N := 6) (v := .int 103) hx hb hJ.1.2.2.2 hS (show vp_in (nI 3) 6 from vp_in_nI (by decide) (by decide)) rfl (show decode prog_21_method_23_code 16 = .ok (.baload, 1) by decide +kernel) ?_
  refine lv_iload hx hb (show decode prog_21_method_23_code 17 = .ok (.iload 4, 2) by decide +kernel) (lv_at hl 1 rfl) ?_
  refine lv_icmp_ne (tgt := 25) hx hb (show decode prog_21_method_23_code 19 = .ok (.if_icmp .ne 6, 3) by decide +kernel) (by decide) (fun g3 => ?_) (fun g3 => ?_)
  rotate_left
  · refine lv_iload hx hb (show decode prog_21_method_23_code 22 = .ok (.iload 5, 2) by decide +kernel) (lv_at hl 0 rfl) ?_
    have ex : jIx x.toInt8.toInt32 = 3 := by unfold jIx; rw [if_neg g0, if_neg g1, if_neg g2, if_pos g3]
    exact W.iret (v := 3) hx hb hr (fun t ht hW => ⟨by rw [ex], ht.trans hH⟩) (fun q hq => nomatch hq) (show decode prog_21_method_23_code 24 = .ok (.ireturn, 1) by decide +kernel)
  refine lv_iinc (k := 0) (v := 4) (lv' := [(5, .int 4), (4, .int x.toInt8.toInt32), (0, .ref aV), (1, .int x), (2, .int 0), (3, .int 6)]) hx hb (show decode prog_21_method_23_code 25 = .ok (.iinc 5 1, 3) by decide +kernel) hl rfl (by decide) (by decide) rfl (fun ls hl => ?_)
  refine lv_goto (tgt := 7) hx hb (show decode prog_21_method_23_code 28 = .ok (.goto (-21), 3) by decide +kernel) (by decide) ?_
  refine lv_iload hx hb (show decode prog_21_method_23_code 7 = .ok (.iload 5, 2) by decide +kernel) (lv_at hl 0 rfl) ?_
  refine lv_iload_n hx hb (show decode prog_21_method_23_code 9 = .ok (.iload_n 3, 1) by decide +kernel) rfl (lv_at hl 5 rfl) ?_
  refine lv_icmp_ge (tgt := 31) hx hb (show decode prog_21_method_23_code 10 = .ok (.if_icmp .ge 21, 3) by decide +kernel) (by decide) (fun h => absurd h (by decide)) (fun _ => ?_)
  refine lv_aload_n hx hb (show decode prog_21_method_23_code 13 = .ok (.aload_n 0, 1) by decide +kernel) rfl (lv_at hl 2 rfl) ?_
  refine lv_iload hx hb (show decode prog_21_method_23_code 14 = .ok (.iload 5, 2) by decide +kernel) (lv_at hl 0 rfl) ?_
  refine va_tb (t := aV) (N := 6) (v := .int 100) hx hb hJ.1.2.2.2 hS (show vp_in (nI 4) 6 from vp_in_nI (by decide) (by decide)) rfl (show decode prog_21_method_23_code 16 = .ok (.baload, 1) by decide +kernel) ?_
  refine lv_iload hx hb (show decode prog_21_method_23_code 17 = .ok (.iload 4, 2) by decide +kernel) (lv_at hl 1 rfl) ?_
  refine lv_icmp_ne (tgt := 25) hx hb (show decode prog_21_method_23_code 19 = .ok (.if_icmp .ne 6, 3) by decide +kernel) (by decide) (fun g4 => ?_) (fun g4 => ?_)
  rotate_left
  · refine lv_iload hx hb (show decode prog_21_method_23_code 22 = .ok (.iload 5, 2) by decide +kernel) (lv_at hl 0 rfl) ?_
    have ex : jIx x.toInt8.toInt32 = 4 := by unfold jIx; rw [if_neg g0, if_neg g1, if_neg g2, if_neg g3, if_pos g4]
    exact W.iret (v := 4) hx hb hr (fun t ht hW => ⟨by rw [ex], ht.trans hH⟩) (fun q hq => nomatch hq) (show decode prog_21_method_23_code 24 = .ok (.ireturn, 1) by decide +kernel)
  refine lv_iinc (k := 0) (v := 5) (lv' := [(5, .int 5), (4, .int x.toInt8.toInt32), (0, .ref aV), (1, .int x), (2, .int 0), (3, .int 6)]) hx hb (show decode prog_21_method_23_code 25 = .ok (.iinc 5 1, 3) by decide +kernel) hl rfl (by decide) (by decide) rfl (fun ls hl => ?_)
  refine lv_goto (tgt := 7) hx hb (show decode prog_21_method_23_code 28 = .ok (.goto (-21), 3) by decide +kernel) (by decide) ?_
  refine lv_iload hx hb (show decode prog_21_method_23_code 7 = .ok (.iload 5, 2) by decide +kernel) (lv_at hl 0 rfl) ?_
  refine lv_iload_n hx hb (show decode prog_21_method_23_code 9 = .ok (.iload_n 3, 1) by decide +kernel) rfl (lv_at hl 5 rfl) ?_
  refine lv_icmp_ge (tgt := 31) hx hb (show decode prog_21_method_23_code 10 = .ok (.if_icmp .ge 21, 3) by decide +kernel) (by decide) (fun h => absurd h (by decide)) (fun _ => ?_)
  refine lv_aload_n hx hb (show decode prog_21_method_23_code 13 = .ok (.aload_n 0, 1) by decide +kernel) rfl (lv_at hl 2 rfl) ?_
  refine lv_iload hx hb (show decode prog_21_method_23_code 14 = .ok (.iload 5, 2) by decide +kernel) (lv_at hl 0 rfl) ?_
  refine va_tb (t := aV) (N := 6) (v := .int 104) hx hb hJ.1.2.2.2 hS (show vp_in (nI 5) 6 from vp_in_nI (by decide) (by decide)) rfl (show decode prog_21_method_23_code 16 = .ok (.baload, 1) by decide +kernel) ?_
  refine lv_iload hx hb (show decode prog_21_method_23_code 17 = .ok (.iload 4, 2) by decide +kernel) (lv_at hl 1 rfl) ?_
  refine lv_icmp_ne (tgt := 25) hx hb (show decode prog_21_method_23_code 19 = .ok (.if_icmp .ne 6, 3) by decide +kernel) (by decide) (fun g5 => ?_) (fun g5 => ?_)
  rotate_left
  · refine lv_iload hx hb (show decode prog_21_method_23_code 22 = .ok (.iload 5, 2) by decide +kernel) (lv_at hl 0 rfl) ?_
    have ex : jIx x.toInt8.toInt32 = 5 := by unfold jIx; rw [if_neg g0, if_neg g1, if_neg g2, if_neg g3, if_neg g4, if_pos g5]
    exact W.iret (v := 5) hx hb hr (fun t ht hW => ⟨by rw [ex], ht.trans hH⟩) (fun q hq => nomatch hq) (show decode prog_21_method_23_code 24 = .ok (.ireturn, 1) by decide +kernel)
  refine lv_iinc (k := 0) (v := 6) (lv' := [(5, .int 6), (4, .int x.toInt8.toInt32), (0, .ref aV), (1, .int x), (2, .int 0), (3, .int 6)]) hx hb (show decode prog_21_method_23_code 25 = .ok (.iinc 5 1, 3) by decide +kernel) hl rfl (by decide) (by decide) rfl (fun ls hl => ?_)
  refine lv_goto (tgt := 7) hx hb (show decode prog_21_method_23_code 28 = .ok (.goto (-21), 3) by decide +kernel) (by decide) ?_
  refine lv_iload hx hb (show decode prog_21_method_23_code 7 = .ok (.iload 5, 2) by decide +kernel) (lv_at hl 0 rfl) ?_
  refine lv_iload_n hx hb (show decode prog_21_method_23_code 9 = .ok (.iload_n 3, 1) by decide +kernel) rfl (lv_at hl 5 rfl) ?_
  refine lv_icmp_ge (tgt := 31) hx hb (show decode prog_21_method_23_code 10 = .ok (.if_icmp .ge 21, 3) by decide +kernel) (by decide) (fun _ => ?_) (fun h => absurd (by decide) h)
  refine lv_iconst (v := -1) hx hb (show decode prog_21_method_23_code 31 = .ok (.iconst (-1), 1) by decide +kernel) (by decide) ?_
  have ex : jIx x.toInt8.toInt32 = -1 := by unfold jIx; rw [if_neg g0, if_neg g1, if_neg g2, if_neg g3, if_neg g4, if_neg g5]
  exact W.iret (v := (-1)) hx hb hr (fun t ht hW => ⟨by rw [ex], ht.trans hH⟩) (fun q hq => nomatch hq) (show decode prog_21_method_23_code 32 = .ok (.ireturn, 1) by decide +kernel)
set_option maxHeartbeats 4000000 in
set_option maxRecDepth 100000 in
theorem j_cod (l : Launch) (H0 : Heap) (B aK aV : Nat) : Met l jy_cod (wsY jy_cod prog_20_method_152_code 1 (some .byte)) (rmD 0 0 0) (PJ H0 B aK aV [.ref aK]) (QJ H0 0) 0 0 (fun _ => False) := by
  refine va_MetF (cc := prog_20_method_152_code) (maxL := 1) (ret := some .byte) (by decide +kernel) rfl ?_
  intro p e s m args below meth c s₁ B0 hml hv
  obtain ⟨rfl, hH, hJ⟩ := hv
  have hx := B0.exec
  have hb := B0.bytes
  have hr := B0.returns
  have hts0 := atoms_spec (ws := wsY jy_cod prog_20_method_152_code 1 (some .byte)) B0.pre
  have hts : ∀ w ∈ zTb, w.before ([.ref aK] : List Value).toArray s = true := fun w hw => hts0 w (List.mem_cons_of_mem _ hw)
  have hown : s.vm.findClass "java/lang/String" = some m.cls := findClass_of_methodNamed B0.named
  have hlocks := B0.notSynchronized
  have hS : va_S (zA B) s.heap s.heap [] := va_S.rf
  have hl := lv_entry ([.ref aK]) (n := 1) (Nat.le_of_ble_eq_true rfl)
  rw [lg_entry_eq]
  generalize (lg_sl ([.ref aK]) ++ List.replicate (1 - (lg_sl ([.ref aK])).length) Slot.unset).toArray = ls at hl ⊢
  have hl : lv_has ls 1 [(0, .ref aK)] := hl
  refine va_gets (C := "java/lang/String") (n := "COMPACT_STRINGS") (d := "Z") (ref := "java/lang/String") (v := .int 1) hx hb hJ.2.1 hS hown (hts _ (tw 1141 (w := .fieldLink "java/lang/String" 38 "java/lang/String" "COMPACT_STRINGS" "Z") (by decide +kernel) rfl)) (fun _ h9 => h9) (show decode prog_20_method_152_code 0 = .ok (.getstatic 38, 3) by decide +kernel) ?_
  refine lv_if_eq (tgt := 13) hx hb (show decode prog_20_method_152_code 3 = .ok (.ifCond .eq 10, 3) by decide +kernel) (by decide) (fun h => absurd h (by decide)) (fun _ => ?_)
  refine lv_aload_n hx hb (show decode prog_20_method_152_code 6 = .ok (.aload_n 0, 1) by decide +kernel) rfl (lv_at hl 0 rfl) ?_
  refine vk_getf (o := "java/lang/String") (n := "coder") (d := "B") (ref := "java/lang/String") (v := .int 0) hx hb hJ.1.2.1 hS hown (hts _ (tw 2128 (w := .fieldLink "java/lang/String" 15 "java/lang/String" "coder" "B") (by decide +kernel) rfl)) (fun _ h9 => h9) (show decode prog_20_method_152_code 7 = .ok (.getfield 15, 3) by decide +kernel) ?_
  refine lv_goto (tgt := 14) hx hb (show decode prog_20_method_152_code 10 = .ok (.goto 4, 3) by decide +kernel) (by decide) ?_
  exact W.zret (v := 0) (ty := .byte) hx hb hr rfl (fun t ht hW => ⟨rfl, ht.trans hH⟩) (fun q hq => nomatch hq) (show decode prog_20_method_152_code 14 = .ok (.ireturn, 1) by decide +kernel)
set_option maxHeartbeats 4000000 in
set_option maxRecDepth 100000 in
theorem j_lat (l : Launch) (H0 : Heap) (B aK aV : Nat) : Met l jy_lat (wsY jy_lat prog_20_method_154_code 1 (some .boolean)) (rmD 0 0 0) (PJ H0 B aK aV [.ref aK]) (QJ H0 1) 0 0 (fun _ => False) := by
  refine va_MetF (cc := prog_20_method_154_code) (maxL := 1) (ret := some .boolean) (by decide +kernel) rfl ?_
  intro p e s m args below meth c s₁ B0 hml hv
  obtain ⟨rfl, hH, hJ⟩ := hv
  have hx := B0.exec
  have hb := B0.bytes
  have hr := B0.returns
  have hts0 := atoms_spec (ws := wsY jy_lat prog_20_method_154_code 1 (some .boolean)) B0.pre
  have hts : ∀ w ∈ zTb, w.before ([.ref aK] : List Value).toArray s = true := fun w hw => hts0 w (List.mem_cons_of_mem _ hw)
  have hown : s.vm.findClass "java/lang/String" = some m.cls := findClass_of_methodNamed B0.named
  have hlocks := B0.notSynchronized
  have hS : va_S (zA B) s.heap s.heap [] := va_S.rf
  have hl := lv_entry ([.ref aK]) (n := 1) (Nat.le_of_ble_eq_true rfl)
  rw [lg_entry_eq]
  generalize (lg_sl ([.ref aK]) ++ List.replicate (1 - (lg_sl ([.ref aK])).length) Slot.unset).toArray = ls at hl ⊢
  have hl : lv_has ls 1 [(0, .ref aK)] := hl
  refine va_gets (C := "java/lang/String") (n := "COMPACT_STRINGS") (d := "Z") (ref := "java/lang/String") (v := .int 1) hx hb hJ.2.1 hS hown (hts _ (tw 1141 (w := .fieldLink "java/lang/String" 38 "java/lang/String" "COMPACT_STRINGS" "Z") (by decide +kernel) rfl)) (fun _ h9 => h9) (show decode prog_20_method_154_code 0 = .ok (.getstatic 38, 3) by decide +kernel) ?_
  refine lv_if_eq (tgt := 17) hx hb (show decode prog_20_method_154_code 3 = .ok (.ifCond .eq 14, 3) by decide +kernel) (by decide) (fun h => absurd h (by decide)) (fun _ => ?_)
  refine lv_aload_n hx hb (show decode prog_20_method_154_code 6 = .ok (.aload_n 0, 1) by decide +kernel) rfl (lv_at hl 0 rfl) ?_
  refine vk_getf (o := "java/lang/String") (n := "coder") (d := "B") (ref := "java/lang/String") (v := .int 0) hx hb hJ.1.2.1 hS hown (hts _ (tw 2128 (w := .fieldLink "java/lang/String" 15 "java/lang/String" "coder" "B") (by decide +kernel) rfl)) (fun _ h9 => h9) (show decode prog_20_method_154_code 7 = .ok (.getfield 15, 3) by decide +kernel) ?_
  refine lv_if_ne (tgt := 17) hx hb (show decode prog_20_method_154_code 10 = .ok (.ifCond .ne 7, 3) by decide +kernel) (by decide) (fun h => absurd rfl h) (fun _ => ?_)
  refine lv_iconst (v := 1) hx hb (show decode prog_20_method_154_code 13 = .ok (.iconst (1), 1) by decide +kernel) (by decide) ?_
  refine lv_goto (tgt := 18) hx hb (show decode prog_20_method_154_code 14 = .ok (.goto 4, 3) by decide +kernel) (by decide) ?_
  exact W.zret (v := 1) (ty := .boolean) hx hb hr rfl (fun t ht hW => ⟨rfl, ht.trans hH⟩) (fun q hq => nomatch hq) (show decode prog_20_method_154_code 18 = .ok (.ireturn, 1) by decide +kernel)
set_option maxHeartbeats 4000000 in
set_option maxRecDepth 100000 in
theorem j_len (l : Launch) (H0 : Heap) (B aK aV : Nat) : Met l jy_len (wsY jy_len prog_20_method_54_code 1 (some .int)) (rmD 1 0 0) (PJ H0 B aK aV [.ref aK]) (QJ H0 6) 0 0 (fun _ => False) := by
  refine va_MetF (cc := prog_20_method_54_code) (maxL := 1) (ret := some .int) (by decide +kernel) rfl ?_
  intro p e s m args below meth c s₁ B0 hml hv
  obtain ⟨rfl, hH, hJ⟩ := hv
  have hx := B0.exec
  have hb := B0.bytes
  have hr := B0.returns
  have hts0 := atoms_spec (ws := wsY jy_len prog_20_method_54_code 1 (some .int)) B0.pre
  have hts : ∀ w ∈ zTb, w.before ([.ref aK] : List Value).toArray s = true := fun w hw => hts0 w (List.mem_cons_of_mem _ hw)
  have hown : s.vm.findClass "java/lang/String" = some m.cls := findClass_of_methodNamed B0.named
  have hlocks := B0.notSynchronized
  have hS : va_S (zA B) s.heap s.heap [] := va_S.rf
  have hl := lv_entry ([.ref aK]) (n := 1) (Nat.le_of_ble_eq_true rfl)
  rw [lg_entry_eq]
  generalize (lg_sl ([.ref aK]) ++ List.replicate (1 - (lg_sl ([.ref aK])).length) Slot.unset).toArray = ls at hl ⊢
  have hl : lv_has ls 1 [(0, .ref aK)] := hl
  refine lv_aload_n hx hb (show decode prog_20_method_54_code 0 = .ok (.aload_n 0, 1) by decide +kernel) rfl (lv_at hl 0 rfl) ?_
  refine vk_getf (o := "java/lang/String") (n := "value") (d := "[B") (ref := "java/lang/String") (v := .ref aV) hx hb hJ.1.2.2.1 hS hown (hts _ (tw 2129 (w := .fieldLink "java/lang/String" 9 "java/lang/String" "value" "[B") (by decide +kernel) rfl)) (fun _ h9 => h9) (show decode prog_20_method_54_code 1 = .ok (.getfield 9, 3) by decide +kernel) ?_
  refine va_tlen (t := aV) (N := 6) (v := 6) hx hb hJ.1.2.2.2 hS (by decide) (show decode prog_20_method_54_code 4 = .ok (.arraylength, 1) by decide +kernel) ?_
  refine lv_aload_n hx hb (show decode prog_20_method_54_code 5 = .ok (.aload_n 0, 1) by decide +kernel) rfl (lv_at hl 0 rfl) ?_
  refine call_q (va_runV (As := []) (rest := [.int 6]) ⟨hx, hb, hml, hown, hts⟩ (j_cod l s.heap B aK aV) ⟨(callB_y (n := 0) hts (List.mem_of_getElem? (i := 1150) (by decide +kernel)) (tw 21 (w := .initialized "java/lang/String") (by decide +kernel) rfl) (tw 1147 (w := .methodLink "java/lang/String" 335 jy_cod) (by decide +kernel) rfl) ⟨by decide, by decide, by decide +kernel⟩ (by decide) (by decide) (by decide)), hts _ (tw 1148 (w := .instanceMethod jy_cod) (by decide +kernel) rfl), hts _ (tw 1149 (w := .selects "java/lang/String" jy_cod jy_cod) (by decide +kernel) rfl)⟩ ⟨PJ.blind, (by obtain ⟨z1, z2, z3, z4, -⟩ := hJ.1.1; exact ⟨z1, z2, z3, z4⟩), fun U hU hW => ⟨rfl, hU, hJ.warm hW hU⟩⟩ rfl rfl hl.1 rfl (lv_room (Nat.le_of_ble_eq_true rfl)) (show decode prog_20_method_54_code 6 = .ok (.invokevirtual 335, 3) by decide +kernel) ⟨Nat.zero_le _, Nat.zero_le _⟩) ?_
  refine lv_ishr hx hb (show decode prog_20_method_54_code 9 = .ok (.ishr, 1) by decide +kernel) ?_
  rw [show (6 : Int32) >>> ((0 : Int32) &&& 31) = 6 by decide]
  exact W.iret (v := 6) hx hb hr (fun t ht hW => ⟨rfl, ht.trans hH⟩) (fun q hq => nomatch hq) (show decode prog_20_method_54_code 10 = .ok (.ireturn, 1) by decide +kernel)
set_option maxHeartbeats 4000000 in
set_option maxRecDepth 100000 in
theorem j_l1 (l : Launch) (H0 : Heap) (B aK aV : Nat) (x : Int32) : Met l jy_l1 (wsY jy_l1 prog_21_method_22_code 4 (some .int)) (rmD 1 0 0) (PJ H0 B aK aV [.ref aV, .int x, .int 0, .int 6]) (QJ H0 (jIdx x)) 0 0 (fun _ => False) := by
  refine va_MetF (cc := prog_21_method_22_code) (maxL := 4) (ret := some .int) (by decide +kernel) rfl ?_
  intro p e s m args below meth c s₁ B0 hml hv
  obtain ⟨rfl, hH, hJ⟩ := hv
  have hx := B0.exec
  have hb := B0.bytes
  have hr := B0.returns
  have hts0 := atoms_spec (ws := wsY jy_l1 prog_21_method_22_code 4 (some .int)) B0.pre
  have hts : ∀ w ∈ zTb, w.before ([.ref aV, .int x, .int 0, .int 6] : List Value).toArray s = true := fun w hw => hts0 w (List.mem_cons_of_mem _ hw)
  have hown : s.vm.findClass "java/lang/StringLatin1" = some m.cls := findClass_of_methodNamed B0.named
  have hlocks := B0.notSynchronized
  have hS : va_S (zA B) s.heap s.heap [] := va_S.rf
  have hl := lv_entry ([.ref aV, .int x, .int 0, .int 6]) (n := 4) (Nat.le_of_ble_eq_true rfl)
  rw [lg_entry_eq]
  generalize (lg_sl ([.ref aV, .int x, .int 0, .int 6]) ++ List.replicate (4 - (lg_sl ([.ref aV, .int x, .int 0, .int 6])).length) Slot.unset).toArray = ls at hl ⊢
  have hl : lv_has ls 4 [(0, .ref aV), (1, .int x), (2, .int 0), (3, .int 6)] := hl
  refine lv_iload_n hx hb (show decode prog_21_method_22_code 0 = .ok (.iload_n 1, 1) by decide +kernel) rfl (lv_at hl 1 rfl) ?_
  refine call_q (va_runS (As := [.int x]) (rest := []) ⟨hx, hb, hml, hown, hts⟩ (j_can l s.heap B aK aV x) ⟨(callB_y (n := 1) hts (List.mem_of_getElem? (i := 1156) (by decide +kernel)) (tw 22 (w := .initialized "java/lang/StringLatin1") (by decide +kernel) rfl) (tw 1154 (w := .methodLink "java/lang/StringLatin1" 88 jy_can) (by decide +kernel) rfl) ⟨by decide, by decide, by decide +kernel⟩ (by decide) (by decide) (by decide)), hts _ (tw 1155 (w := .static jy_can) (by decide +kernel) rfl)⟩ ⟨PJ.blind, fun U hU hW => ⟨rfl, hU, hJ.warm hW hU⟩⟩ rfl rfl hl.1 rfl (lv_room (Nat.le_of_ble_eq_true rfl)) (show decode prog_21_method_22_code 1 = .ok (.invokestatic 88, 3) by decide +kernel) ⟨Nat.zero_le _, Nat.zero_le _⟩) ?_
  refine lv_if_ne (tgt := 9) hx hb (show decode prog_21_method_22_code 4 = .ok (.ifCond .ne 5, 3) by decide +kernel) (by decide) (fun h0 => ?_) (fun h0 => ?_)
  rotate_left
  · refine lv_iconst (v := -1) hx hb (show decode prog_21_method_22_code 7 = .ok (.iconst (-1), 1) by decide +kernel) (by decide) ?_
    have ex : jIdx x = -1 := if_pos h0
    exact W.iret (v := (-1)) hx hb hr (fun t ht hW => ⟨by rw [ex], ht.trans hH⟩) (fun q hq => nomatch hq) (show decode prog_21_method_22_code 8 = .ok (.ireturn, 1) by decide +kernel)
  refine lv_iload_n hx hb (show decode prog_21_method_22_code 9 = .ok (.iload_n 2, 1) by decide +kernel) rfl (lv_at hl 2 rfl) ?_
  refine lv_iconst (v := 0) hx hb (show decode prog_21_method_22_code 10 = .ok (.iconst (0), 1) by decide +kernel) (by decide) ?_
  refine va_mmax (x := 0) (y := 0) (rest := []) hx hb (by rw [hml]; exact hl.1.symm) hown (hts _ (tw 1157 (w := .methodLink "java/lang/StringLatin1" 92 Lib.Math.max.name) (by decide +kernel) rfl)) (hts _ (tw 854 (w := .static Lib.Math.max.name) (by decide +kernel) rfl)) (hts _ (tw 14 (w := .initialized "java/lang/Math") (by decide +kernel) rfl)) (hts _ (tw 855 (w := .code Lib.Math.max.name Lib.Math.max.code 2 (some .int)) (by decide +kernel) rfl)) (by decide) (by decide) (Nat.zero_le _) (Nat.zero_le _) (show decode prog_21_method_22_code 11 = .ok (.invokestatic 92, 3) by decide +kernel) ?_
  rw [show (if (0 : Int32) < 0 then (0 : Int32) else 0) = 0 by decide]
  refine lv_istore_n (i := 2) (lv' := [(2, .int 0), (0, .ref aV), (1, .int x), (3, .int 6)]) hx hb (show decode prog_21_method_22_code 14 = .ok (.istore_n 2, 1) by decide +kernel) rfl hl (by decide) rfl (fun ls hl => ?_)
  refine lv_iload_n hx hb (show decode prog_21_method_22_code 15 = .ok (.iload_n 3, 1) by decide +kernel) rfl (lv_at hl 3 rfl) ?_
  refine lv_aload_n hx hb (show decode prog_21_method_22_code 16 = .ok (.aload_n 0, 1) by decide +kernel) rfl (lv_at hl 1 rfl) ?_
  refine va_tlen (t := aV) (N := 6) (v := 6) hx hb hJ.1.2.2.2 hS (by decide) (show decode prog_21_method_22_code 17 = .ok (.arraylength, 1) by decide +kernel) ?_
  refine va_mmin (x := 6) (y := 6) (rest := []) hx hb (by rw [hml]; exact hl.1.symm) hown (hts _ (tw 1158 (w := .methodLink "java/lang/StringLatin1" 38 Lib.Math.min.name) (by decide +kernel) rfl)) (hts _ (tw 758 (w := .static Lib.Math.min.name) (by decide +kernel) rfl)) (hts _ (tw 14 (w := .initialized "java/lang/Math") (by decide +kernel) rfl)) (hts _ (tw 759 (w := .code Lib.Math.min.name Lib.Math.min.code 2 (some .int)) (by decide +kernel) rfl)) (by decide) (by decide) (Nat.zero_le _) (Nat.zero_le _) (show decode prog_21_method_22_code 18 = .ok (.invokestatic 38, 3) by decide +kernel) ?_
  rw [show (if (6 : Int32) < 6 then (6 : Int32) else 6) = 6 by decide]
  refine lv_istore_n (i := 3) (lv' := [(3, .int 6), (2, .int 0), (0, .ref aV), (1, .int x)]) hx hb (show decode prog_21_method_22_code 21 = .ok (.istore_n 3, 1) by decide +kernel) rfl hl (by decide) rfl (fun ls hl => ?_)
  refine lv_iload_n hx hb (show decode prog_21_method_22_code 22 = .ok (.iload_n 2, 1) by decide +kernel) rfl (lv_at hl 1 rfl) ?_
  refine lv_iload_n hx hb (show decode prog_21_method_22_code 23 = .ok (.iload_n 3, 1) by decide +kernel) rfl (lv_at hl 0 rfl) ?_
  refine lv_icmp_lt (tgt := 29) hx hb (show decode prog_21_method_22_code 24 = .ok (.if_icmp .lt 5, 3) by decide +kernel) (by decide) (fun _ => ?_) (fun h => absurd (by decide) h)
  refine lv_aload_n hx hb (show decode prog_21_method_22_code 29 = .ok (.aload_n 0, 1) by decide +kernel) rfl (lv_at hl 2 rfl) ?_
  refine lv_iload_n hx hb (show decode prog_21_method_22_code 30 = .ok (.iload_n 1, 1) by decide +kernel) rfl (lv_at hl 3 rfl) ?_
  refine lv_iload_n hx hb (show decode prog_21_method_22_code 31 = .ok (.iload_n 2, 1) by decide +kernel) rfl (lv_at hl 1 rfl) ?_
  refine lv_iload_n hx hb (show decode prog_21_method_22_code 32 = .ok (.iload_n 3, 1) by decide +kernel) rfl (lv_at hl 0 rfl) ?_
  refine call_q (va_runS (As := [.ref aV, .int x, .int 0, .int 6]) (rest := []) ⟨hx, hb, hml, hown, hts⟩ (j_ioc l s.heap B aK aV x) ⟨(callB_y (n := 4) hts (List.mem_of_getElem? (i := 1161) (by decide +kernel)) (tw 22 (w := .initialized "java/lang/StringLatin1") (by decide +kernel) rfl) (tw 1159 (w := .methodLink "java/lang/StringLatin1" 95 jy_ioc) (by decide +kernel) rfl) ⟨by decide, by decide, by decide +kernel⟩ (by decide) (by decide) (by decide)), hts _ (tw 1160 (w := .static jy_ioc) (by decide +kernel) rfl)⟩ ⟨PJ.blind, fun U hU hW => ⟨rfl, hU, hJ.warm hW hU⟩⟩ rfl rfl hl.1 rfl (lv_room (Nat.le_of_ble_eq_true rfl)) (show decode prog_21_method_22_code 33 = .ok (.invokestatic 95, 3) by decide +kernel) ⟨Nat.zero_le _, Nat.zero_le _⟩) ?_
  have ex : jIdx x = jIx x.toInt8.toInt32 := if_neg h0
  exact W.iret (v := (jIx x.toInt8.toInt32)) hx hb hr (fun t ht hW => ⟨by rw [ex], ht.trans hH⟩) (fun q hq => nomatch hq) (show decode prog_21_method_22_code 36 = .ok (.ireturn, 1) by decide +kernel)
set_option maxHeartbeats 4000000 in
set_option maxRecDepth 100000 in
theorem j_ix2 (l : Launch) (H0 : Heap) (B aK aV : Nat) (x : Int32) : Met l jy_ix2 (wsY jy_ix2 prog_20_method_80_code 3 (some .int)) (rmD 2 0 0) (PJ H0 B aK aV [.ref aK, .int x, .int 0]) (QJ H0 (jIdx x)) 0 0 (fun _ => False) := by
  refine va_MetF (cc := prog_20_method_80_code) (maxL := 3) (ret := some .int) (by decide +kernel) rfl ?_
  intro p e s m args below meth c s₁ B0 hml hv
  obtain ⟨rfl, hH, hJ⟩ := hv
  have hx := B0.exec
  have hb := B0.bytes
  have hr := B0.returns
  have hts0 := atoms_spec (ws := wsY jy_ix2 prog_20_method_80_code 3 (some .int)) B0.pre
  have hts : ∀ w ∈ zTb, w.before ([.ref aK, .int x, .int 0] : List Value).toArray s = true := fun w hw => hts0 w (List.mem_cons_of_mem _ hw)
  have hown : s.vm.findClass "java/lang/String" = some m.cls := findClass_of_methodNamed B0.named
  have hlocks := B0.notSynchronized
  have hS : va_S (zA B) s.heap s.heap [] := va_S.rf
  have hl := lv_entry ([.ref aK, .int x, .int 0]) (n := 3) (Nat.le_of_ble_eq_true rfl)
  rw [lg_entry_eq]
  generalize (lg_sl ([.ref aK, .int x, .int 0]) ++ List.replicate (3 - (lg_sl ([.ref aK, .int x, .int 0])).length) Slot.unset).toArray = ls at hl ⊢
  have hl : lv_has ls 3 [(0, .ref aK), (1, .int x), (2, .int 0)] := hl
  refine lv_aload_n hx hb (show decode prog_20_method_80_code 0 = .ok (.aload_n 0, 1) by decide +kernel) rfl (lv_at hl 0 rfl) ?_
  refine call_q (va_runV (As := []) (rest := []) ⟨hx, hb, hml, hown, hts⟩ (j_lat l s.heap B aK aV) ⟨(callB_y (n := 0) hts (List.mem_of_getElem? (i := 1140) (by decide +kernel)) (tw 21 (w := .initialized "java/lang/String") (by decide +kernel) rfl) (tw 1137 (w := .methodLink "java/lang/String" 492 jy_lat) (by decide +kernel) rfl) ⟨by decide, by decide, by decide +kernel⟩ (by decide) (by decide) (by decide)), hts _ (tw 1138 (w := .instanceMethod jy_lat) (by decide +kernel) rfl), hts _ (tw 1139 (w := .selects "java/lang/String" jy_lat jy_lat) (by decide +kernel) rfl)⟩ ⟨PJ.blind, (by obtain ⟨z1, z2, z3, z4, -⟩ := hJ.1.1; exact ⟨z1, z2, z3, z4⟩), fun U hU hW => ⟨rfl, hU, hJ.warm hW hU⟩⟩ rfl rfl hl.1 rfl (lv_room (Nat.le_of_ble_eq_true rfl)) (show decode prog_20_method_80_code 1 = .ok (.invokevirtual 492, 3) by decide +kernel) ⟨Nat.zero_le _, Nat.zero_le _⟩) ?_
  refine lv_if_eq (tgt := 23) hx hb (show decode prog_20_method_80_code 4 = .ok (.ifCond .eq 19, 3) by decide +kernel) (by decide) (fun h => absurd h (by decide)) (fun _ => ?_)
  refine lv_aload_n hx hb (show decode prog_20_method_80_code 7 = .ok (.aload_n 0, 1) by decide +kernel) rfl (lv_at hl 0 rfl) ?_
  refine vk_getf (o := "java/lang/String") (n := "value") (d := "[B") (ref := "java/lang/String") (v := .ref aV) hx hb hJ.1.2.2.1 hS hown (hts _ (tw 2129 (w := .fieldLink "java/lang/String" 9 "java/lang/String" "value" "[B") (by decide +kernel) rfl)) (fun _ h9 => h9) (show decode prog_20_method_80_code 8 = .ok (.getfield 9, 3) by decide +kernel) ?_
  refine lv_iload_n hx hb (show decode prog_20_method_80_code 11 = .ok (.iload_n 1, 1) by decide +kernel) rfl (lv_at hl 1 rfl) ?_
  refine lv_iload_n hx hb (show decode prog_20_method_80_code 12 = .ok (.iload_n 2, 1) by decide +kernel) rfl (lv_at hl 2 rfl) ?_
  refine lv_aload_n hx hb (show decode prog_20_method_80_code 13 = .ok (.aload_n 0, 1) by decide +kernel) rfl (lv_at hl 0 rfl) ?_
  refine call_q (va_runV (As := []) (rest := [.int 0, .int x, .ref aV]) ⟨hx, hb, hml, hown, hts⟩ (j_len l s.heap B aK aV) ⟨(callB_y (n := 0) hts (List.mem_of_getElem? (i := 1146) (by decide +kernel)) (tw 21 (w := .initialized "java/lang/String") (by decide +kernel) rfl) (tw 1143 (w := .methodLink "java/lang/String" 505 jy_len) (by decide +kernel) rfl) ⟨by decide, by decide, by decide +kernel⟩ (by decide) (by decide) (by decide)), hts _ (tw 1144 (w := .instanceMethod jy_len) (by decide +kernel) rfl), hts _ (tw 1145 (w := .selects "java/lang/String" jy_len jy_len) (by decide +kernel) rfl)⟩ ⟨PJ.blind, (by obtain ⟨z1, z2, z3, z4, -⟩ := hJ.1.1; exact ⟨z1, z2, z3, z4⟩), fun U hU hW => ⟨rfl, hU, hJ.warm hW hU⟩⟩ rfl rfl hl.1 rfl (lv_room (Nat.le_of_ble_eq_true rfl)) (show decode prog_20_method_80_code 14 = .ok (.invokevirtual 505, 3) by decide +kernel) ⟨Nat.zero_le _, Nat.zero_le _⟩) ?_
  refine call_q (va_runS (As := [.ref aV, .int x, .int 0, .int 6]) (rest := []) ⟨hx, hb, hml, hown, hts⟩ (j_l1 l s.heap B aK aV x) ⟨(callB_y (n := 4) hts (List.mem_of_getElem? (i := 1153) (by decide +kernel)) (tw 22 (w := .initialized "java/lang/StringLatin1") (by decide +kernel) rfl) (tw 1151 (w := .methodLink "java/lang/String" 637 jy_l1) (by decide +kernel) rfl) ⟨by decide, by decide, by decide +kernel⟩ (by decide) (by decide) (by decide)), hts _ (tw 1152 (w := .static jy_l1) (by decide +kernel) rfl)⟩ ⟨PJ.blind, fun U hU hW => ⟨rfl, hU, hJ.warm hW hU⟩⟩ rfl rfl hl.1 rfl (lv_room (Nat.le_of_ble_eq_true rfl)) (show decode prog_20_method_80_code 17 = .ok (.invokestatic 637, 3) by decide +kernel) ⟨Nat.zero_le _, Nat.zero_le _⟩) ?_
  refine lv_goto (tgt := 36) hx hb (show decode prog_20_method_80_code 20 = .ok (.goto 16, 3) by decide +kernel) (by decide) ?_
  exact W.iret (v := (jIdx x)) hx hb hr (fun t ht hW => ⟨rfl, ht.trans hH⟩) (fun q hq => nomatch hq) (show decode prog_20_method_80_code 36 = .ok (.ireturn, 1) by decide +kernel)
set_option maxHeartbeats 4000000 in
set_option maxRecDepth 100000 in
theorem j_ix1 (l : Launch) (H0 : Heap) (B aK aV : Nat) (x : Int32) : Met l jy_ix1 (wsY jy_ix1 prog_20_method_79_code 2 (some .int)) (rmD 3 0 0) (PJ H0 B aK aV [.ref aK, .int x]) (QJ H0 (jIdx x)) 0 0 (fun _ => False) := by
  refine va_MetF (cc := prog_20_method_79_code) (maxL := 2) (ret := some .int) (by decide +kernel) rfl ?_
  intro p e s m args below meth c s₁ B0 hml hv
  obtain ⟨rfl, hH, hJ⟩ := hv
  have hx := B0.exec
  have hb := B0.bytes
  have hr := B0.returns
  have hts0 := atoms_spec (ws := wsY jy_ix1 prog_20_method_79_code 2 (some .int)) B0.pre
  have hts : ∀ w ∈ zTb, w.before ([.ref aK, .int x] : List Value).toArray s = true := fun w hw => hts0 w (List.mem_cons_of_mem _ hw)
  have hown : s.vm.findClass "java/lang/String" = some m.cls := findClass_of_methodNamed B0.named
  have hlocks := B0.notSynchronized
  have hS : va_S (zA B) s.heap s.heap [] := va_S.rf
  have hl := lv_entry ([.ref aK, .int x]) (n := 2) (Nat.le_of_ble_eq_true rfl)
  rw [lg_entry_eq]
  generalize (lg_sl ([.ref aK, .int x]) ++ List.replicate (2 - (lg_sl ([.ref aK, .int x])).length) Slot.unset).toArray = ls at hl ⊢
  have hl : lv_has ls 2 [(0, .ref aK), (1, .int x)] := hl
  refine lv_aload_n hx hb (show decode prog_20_method_79_code 0 = .ok (.aload_n 0, 1) by decide +kernel) rfl (lv_at hl 0 rfl) ?_
  refine lv_iload_n hx hb (show decode prog_20_method_79_code 1 = .ok (.iload_n 1, 1) by decide +kernel) rfl (lv_at hl 1 rfl) ?_
  refine lv_iconst (v := 0) hx hb (show decode prog_20_method_79_code 2 = .ok (.iconst (0), 1) by decide +kernel) (by decide) ?_
  refine call_q (va_runV (As := [.int x, .int 0]) (rest := []) ⟨hx, hb, hml, hown, hts⟩ (j_ix2 l s.heap B aK aV x) ⟨(callB_y (n := 2) hts (List.mem_of_getElem? (i := 1136) (by decide +kernel)) (tw 21 (w := .initialized "java/lang/String") (by decide +kernel) rfl) (tw 1133 (w := .methodLink "java/lang/String" 633 jy_ix2) (by decide +kernel) rfl) ⟨by decide, by decide, by decide +kernel⟩ (by decide) (by decide) (by decide)), hts _ (tw 1134 (w := .instanceMethod jy_ix2) (by decide +kernel) rfl), hts _ (tw 1135 (w := .selects "java/lang/String" jy_ix2 jy_ix2) (by decide +kernel) rfl)⟩ ⟨PJ.blind, (by obtain ⟨z1, z2, z3, z4, -⟩ := hJ.1.1; exact ⟨z1, z2, z3, z4⟩), fun U hU hW => ⟨rfl, hU, hJ.warm hW hU⟩⟩ rfl rfl hl.1 rfl (lv_room (Nat.le_of_ble_eq_true rfl)) (show decode prog_20_method_79_code 3 = .ok (.invokevirtual 633, 3) by decide +kernel) ⟨Nat.zero_le _, Nat.zero_le _⟩) ?_
  exact W.iret (v := (jIdx x)) hx hb hr (fun t ht hW => ⟨rfl, ht.trans hH⟩) (fun q hq => nomatch hq) (show decode prog_20_method_79_code 6 = .ok (.ireturn, 1) by decide +kernel)
theorem letV_b (x : Int32) : letV x = 0 ∨ letV x = 1 := by
  unfold letV
  split
  · exact Or.inr rfl
  · exact Or.inl rfl
theorem jIdx_all : ∀ n, n < 256 → ((jIdx (nI n) < 0 ↔ ¬ (nI n = 99 ∨ nI n = 108 ∨ nI n = 114 ∨ nI n = 103 ∨ nI n = 100 ∨ nI n = 104))) := by decide +kernel
theorem jIdx_let (x : Int32) : (jIdx (x.toUInt32 % 65536).toInt32 < 0 ∧ letV x = 0) ∨ (¬ jIdx (x.toUInt32 % 65536).toInt32 < 0 ∧ letV x = 1) := by
  unfold letV
  generalize (x.toUInt32 % 65536).toInt32 = c
  by_cases h0 : c < 0
  · have e1 : jIdx c = -1 := by unfold jIdx; rw [if_pos (show jCan c = 0 from if_pos h0)]
    refine Or.inl ⟨by rw [e1]; decide, if_neg (fun z => ?_)⟩
    rcases z with rfl | rfl | rfl | rfl | rfl | rfl <;> exact absurd h0 (by decide)
  · by_cases h1 : 255 < c
    · have e1 : jIdx c = -1 := by unfold jIdx; rw [if_pos (show jCan c = 0 from (if_neg h0).trans (if_pos h1))]
      refine Or.inl ⟨by rw [e1]; decide, if_neg (fun z => ?_)⟩
      rcases z with rfl | rfl | rfl | rfl | rfl | rfl <;> exact absurd h1 (by decide)
    · obtain ⟨n, hn, rfl⟩ : ∃ n, n < 256 ∧ c = nI n := by
        rw [Int32.lt_iff_toInt_lt] at h0 h1
        have z0 : (0 : Int32).toInt = 0 := rfl
        have z1 : (255 : Int32).toInt = 255 := rfl
        rw [z0] at h0
        rw [z1] at h1
        refine ⟨c.toInt.toNat, by omega, ?_⟩
        apply Int32.toInt_inj.mp
        rw [nI_toInt (by omega)]
        omega
      have h := jIdx_all n hn
      by_cases z : nI n = 99 ∨ nI n = 108 ∨ nI n = 114 ∨ nI n = 103 ∨ nI n = 100 ∨ nI n = 104
      · exact Or.inr ⟨fun q => h.mp q z, if_pos z⟩
      · exact Or.inl ⟨h.mpr z, if_neg z⟩
set_option maxHeartbeats 4000000 in
set_option maxRecDepth 100000 in
theorem j_let (l : Launch) (H0 : Heap) (B aK aV : Nat) (x : Int32) : Met l jy_let (wsY jy_let prog_11_method_5_code 1 (some .boolean)) (rmD 4 0 0) (PJ H0 B aK aV [.int x]) (QJ H0 (letV x)) 0 0 (fun _ => False) := by
  refine va_MetF (cc := prog_11_method_5_code) (maxL := 1) (ret := some .boolean) (by decide +kernel) rfl ?_
  intro p e s m args below meth c s₁ B0 hml hv
  obtain ⟨rfl, hH, hJ⟩ := hv
  have hx := B0.exec
  have hb := B0.bytes
  have hr := B0.returns
  have hts0 := atoms_spec (ws := wsY jy_let prog_11_method_5_code 1 (some .boolean)) B0.pre
  have hts : ∀ w ∈ zTb, w.before ([.int x] : List Value).toArray s = true := fun w hw => hts0 w (List.mem_cons_of_mem _ hw)
  have hown : s.vm.findClass "CottageYear$Text" = some m.cls := findClass_of_methodNamed B0.named
  have hlocks := B0.notSynchronized
  have hS : va_S (zA B) s.heap s.heap [] := va_S.rf
  have hl := lv_entry ([.int x]) (n := 1) (Nat.le_of_ble_eq_true rfl)
  rw [lg_entry_eq]
  generalize (lg_sl ([.int x]) ++ List.replicate (1 - (lg_sl ([.int x])).length) Slot.unset).toArray = ls at hl ⊢
  have hl : lv_has ls 1 [(0, .int x)] := hl
  refine va_ldcS (own := "CottageYear$Text") (tx := "clrgdh") (index := 25) hx hb hown hJ.2.2 (show decode prog_11_method_5_code 0 = .ok (.ldc 25, 2) by decide +kernel) ?_
  refine lv_iload_n hx hb (show decode prog_11_method_5_code 2 = .ok (.iload_n 0, 1) by decide +kernel) rfl (lv_at hl 0 rfl) ?_
  refine lv_i2c (v := (x.toUInt32 % 65536).toInt32) hx hb (show decode prog_11_method_5_code 3 = .ok (.i2c, 1) by decide +kernel) rfl ?_
  refine call_q (va_runV (As := [.int (x.toUInt32 % 65536).toInt32]) (rest := []) ⟨hx, hb, hml, hown, hts⟩ (j_ix1 l s.heap B aK aV (x.toUInt32 % 65536).toInt32) ⟨(callB_y (n := 1) hts (List.mem_of_getElem? (i := 1132) (by decide +kernel)) (tw 21 (w := .initialized "java/lang/String") (by decide +kernel) rfl) (tw 1129 (w := .methodLink "CottageYear$Text" 27 jy_ix1) (by decide +kernel) rfl) ⟨by decide, by decide, by decide +kernel⟩ (by decide) (by decide) (by decide)), hts _ (tw 1130 (w := .instanceMethod jy_ix1) (by decide +kernel) rfl), hts _ (tw 1131 (w := .selects "java/lang/String" jy_ix1 jy_ix1) (by decide +kernel) rfl)⟩ ⟨PJ.blind, (by obtain ⟨z1, z2, z3, z4, -⟩ := hJ.1.1; exact ⟨z1, z2, z3, z4⟩), fun U hU hW => ⟨rfl, hU, hJ.warm hW hU⟩⟩ rfl rfl hl.1 rfl (lv_room (Nat.le_of_ble_eq_true rfl)) (show decode prog_11_method_5_code 4 = .ok (.invokevirtual 27, 3) by decide +kernel) ⟨Nat.zero_le _, Nat.zero_le _⟩) ?_
  have hL := jIdx_let x
  refine lv_if_lt (tgt := 14) hx hb (show decode prog_11_method_5_code 7 = .ok (.ifCond .lt 7, 3) by decide +kernel) (by decide) (fun h0 => ?_) (fun h0 => ?_)
  · have ex : letV x = 0 := hL.elim (fun z => z.2) (fun z => absurd h0 z.1)
    refine lv_iconst (v := 0) hx hb (show decode prog_11_method_5_code 14 = .ok (.iconst (0), 1) by decide +kernel) (by decide) ?_
    exact W.zret (v := 0) (ty := .boolean) hx hb hr rfl (fun t ht hW => ⟨by rw [ex], ht.trans hH⟩) (fun q hq => nomatch hq) (show decode prog_11_method_5_code 15 = .ok (.ireturn, 1) by decide +kernel)
  · have ex : letV x = 1 := hL.elim (fun z => absurd z.1 h0) (fun z => z.2)
    refine lv_iconst (v := 1) hx hb (show decode prog_11_method_5_code 10 = .ok (.iconst (1), 1) by decide +kernel) (by decide) ?_
    refine lv_goto (tgt := 15) hx hb (show decode prog_11_method_5_code 11 = .ok (.goto 4, 3) by decide +kernel) (by decide) ?_
    exact W.zret (v := 1) (ty := .boolean) hx hb hr rfl (fun t ht hW => ⟨by rw [ex], ht.trans hH⟩) (fun q hq => nomatch hq) (show decode prog_11_method_5_code 15 = .ok (.ireturn, 1) by decide +kernel)
/-- what the caller knows of the text -/
theorem KX.js {B : Nat} {Hb : Heap} {U : State} (h : KX B Hb U) (hk : ∀ a : Nat, a < B → U.heap[a]? = Hb[a]?) : ∃ aK aV, JS B aK aV U := by
  obtain ⟨⟨adK, adV, h1, h2⟩, h3, -⟩ := h
  have hq : ∀ a : Nat, a < Hb.size → ¬ zA B a → U.heap[a]? = Hb[a]? := fun a _ hn => hk a (Nat.not_le.mp hn)
  obtain ⟨g1, g2, g3, g4⟩ := h1.1 0 (by decide)
  exact ⟨adK 0, adV 0, ⟨g1.kept hq, g2.kept hq, g3.kept hq, g4.kept hq⟩, h3.kept hq, h2⟩
set_option maxHeartbeats 4000000 in
theorem let_ok (l : Launch) (D : va_G) (cy : Nat → ClassId) (B : Nat) (Hb : Heap) (sc : Nat × Nat × (Nat → Int32)) : LET l D cy B Hb sc := by
  intro d k pc ix t r x M p e R0 s m args below meth c H locs cells slots Q ls X hA hc hS hsz hd hdf hdl hcc hss hw hdec hlink k9
  obtain ⟨hx, hb, hrt, hml, hown, hts, hlk, hini, hKK, hB, hO⟩ := id X
  have hH : ∀ q : Nat, q < B → H[q]? = Hb[q]? := fun q hq => by rw [hS.2.1 q (by omega) (Nat.not_le.mpr hq)]; exact hO q hq
  have hX := hKK.2.2.2.2.2
  have hyl : yM 86 = jy_let := by decide +kernel
  rw [hyl] at hlink
  obtain ⟨aK, aV, -⟩ : ∃ aK aV : Nat, True := ⟨0, 0, trivial⟩
  have hJ : ∃ aK aV, ∀ U : State, U.heap = H → s.WarmedH U.vm → JS B aK aV U := by
    obtain ⟨⟨adK, adV, h1, h2⟩, h3, -⟩ := hX
    have hq : ∀ a : Nat, a < Hb.size → ¬ zA B a → H[a]? = Hb[a]? := fun a _ hn => hH a (Nat.not_le.mp hn)
    obtain ⟨g1, g2, g3, g4⟩ := h1.1 0 (by decide)
    refine ⟨adK 0, adV 0, fun U hU hW => ?_⟩
    unfold JS
    rw [hU]
    exact ⟨⟨va_O.moved hW.alike (g1.kept hq), va_OF.moved hW.alike (g2.kept hq), va_OF.moved hW.alike (g3.kept hq), va_T.moved hW.alike (g4.kept hq)⟩, va_Z.moved hW.alike (h3.kept hq), vk_R.warm hW h2⟩
  obtain ⟨aK, aV, hJ⟩ := hJ
  refine call_q (va_runS (As := [.int x]) (rest := r) ⟨hx, hb, hml, hown, hts⟩ (j_let l H B aK aV x) ⟨callB_y (n := 1) hts (List.mem_of_getElem? (i := 1127) (by decide +kernel)) (tw 9 (w := .initialized jy_let.cls) (by decide +kernel) rfl) (tb_in hlink rfl) ⟨by decide, by decide, by decide +kernel⟩ (by decide) (by omega) (by omega), hts _ (tw 1126 (w := .static jy_let) (by decide +kernel) rfl)⟩ ⟨PJ.blind, fun U hU hW => ⟨rfl, hU, hJ U hU hW⟩⟩ rfl rfl hsz rfl (lv_room hw) hdec ⟨hcc, hss⟩) ?_
  exact k9
