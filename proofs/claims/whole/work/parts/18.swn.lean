/-! the step of the induction -/
section STEP
variable {l : Launch} {D : va_G} {cy : Nat → ClassId} {B : Nat} {Hb : Heap} {sc : Nat × Nat × (Nat → Int32)}
theorem cok_spec {a r : Nat} {st : List Value} (h : cok a r st = true) : pN (tbl a) + r ≤ st.length ∧ (ent ((st.take (pN (tbl a) + r)).reverse)).length ≤ pL (tbl a) ∧ wsum (st.drop (pN (tbl a) + r)) ≤ 8 := by
  unfold cok at h
  rw [Bool.and_eq_true, Bool.and_eq_true] at h
  exact ⟨Nat.le_of_ble_eq_true h.1.1, Nat.le_of_ble_eq_true h.1.2, Nat.le_of_ble_eq_true h.2⟩
theorem st_split {st as : List Value} {q : Value} {n : Nat} (h : (st.take (n + 1)).reverse = q :: as) (hl : n + 1 ≤ st.length) : as.length = n ∧ st = as.reverse ++ q :: st.drop (n + 1) := by
  have h1 : st.take (n + 1) = as.reverse ++ [q] := by
    have := congrArg List.reverse h
    rw [List.reverse_reverse, List.reverse_cons] at this
    exact this
  refine ⟨?_, ?_⟩
  · have h2 := congrArg List.length h
    rw [List.length_reverse, List.length_take, List.length_cons] at h2
    omega
  · have h2 : st = st.take (n + 1) ++ st.drop (n + 1) := (List.take_append_drop _ _).symm
    rw [h1] at h2
    rw [List.append_assoc] at h2
    exact h2
theorem callB_ok {R0 : Room} {s : State} {args : Array Value} {own : String} {ix a d : Nat} (ha : a < 276) (hts : ∀ w ∈ zTb, w.before args s = true) (hl : (Cond.methodLink own ix (pY (tbl a))).before args s = true) (hd : 1 ≤ d) (hdf : d ≤ R0.frames) (hdl : 64 * d ≤ R0.locals) :
    CallB R0 s args own ix (pY (tbl a)) (pB (tbl a)) (pL (tbl a)) (pRet (tbl a)) (wsP a) (rmD (d - 1) (pMc (tbl a)) (pMs (tbl a))) (pMc (tbl a)) (pMs (tbl a)) (pN (tbl a)) := by
  obtain ⟨q, hq⟩ := mok ha
  unfold mOK at hq
  simp only [Bool.and_eq_true, decide_eq_true_eq] at hq
  refine callB_of (Ts := zTb) (pN (tbl a)) hts (good_wsP ha) rfl rfl rfl (hts _ (tb_in (List.mem_of_getElem? hq.1.1.1.1.1.1.1.1.1) rfl)) hl ⟨hq.1.1.1.1.1.2, hq.1.1.1.1.2, hq.1.1.1.2⟩ ⟨?_, ?_⟩
  · show d - 1 + 1 ≤ R0.frames
    omega
  · show 8 + (pL (tbl a) + 11) + 64 * (d - 1) ≤ R0.locals
    have := hq.1.2
    omega
theorem mok_inst {a : Nat} (ha : a < 276) (hs : pC (tbl a) < 13) : Cond.instanceMethod (pY (tbl a)) ∈ tables_1 ∧ Cond.initialized (pY (tbl a)).cls ∈ tables_1 := by
  obtain ⟨q, hq⟩ := mok ha
  unfold mOK at hq
  simp only [Bool.and_eq_true, decide_eq_true_eq] at hq
  have h := hq.1.1.1.1.1.1.1.1.2
  rw [if_neg (by omega)] at h
  exact ⟨List.mem_of_getElem? (of_decide_eq_true h), List.mem_of_getElem? hq.1.1.1.1.1.1.1.1.1⟩
theorem mok_stat {a : Nat} (ha : a < 276) (hs : pC (tbl a) = 99) : Cond.static (pY (tbl a)) ∈ tables_1 := by
  obtain ⟨q, hq⟩ := mok ha
  unfold mOK at hq
  simp only [Bool.and_eq_true, decide_eq_true_eq] at hq
  have h := hq.1.1.1.1.1.1.1.1.2
  rw [if_pos hs] at h
  exact List.mem_of_getElem? (of_decide_eq_true h)
theorem mok_sel {a : Nat} (ha : a < 276) (hs : pC (tbl a) < 13) (hi : iniP (tbl a) = false) : Cond.selects (pY (tbl a)).cls (pY (tbl a)) (pY (tbl a)) ∈ zTb ∧ clN (pC (tbl a)) = (pY (tbl a)).cls := by
  obtain ⟨q, hq⟩ := mok ha
  unfold mOK at hq
  simp only [Bool.and_eq_true, decide_eq_true_eq] at hq
  have h := hq.1.1.1.1.1.1.1.2
  rw [if_neg (by rintro (h | h); omega; rw [hi] at h; cases h)] at h
  simp only [Bool.and_eq_true, decide_eq_true_eq] at h
  exact ⟨List.mem_filter.mpr ⟨List.mem_of_getElem? h.1.1, rfl⟩, h.1.2⟩
theorem mok_ini {a : Nat} (ha : a < 276) (hi : iniP (tbl a) = true) : pRet (tbl a) = none ∧ (pY (tbl a)).name = "<init>" ∧ ((pY (tbl a)).cls ≠ "java/lang/invoke/MethodHandle" ∧ (pY (tbl a)).cls ≠ "java/lang/invoke/VarHandle") ∧ (parseMethodDescriptor (pY (tbl a)).desc).map (fun d => d.parameters.length) = some (pN (tbl a)) ∧ pL (tbl a) ≤ 40 := by
  obtain ⟨q, hq⟩ := mok ha
  unfold mOK at hq
  simp only [Bool.and_eq_true, decide_eq_true_eq] at hq
  exact ⟨hq.2 hi, of_decide_eq_true hi, ⟨hq.1.1.1.1.1.2, hq.1.1.1.1.2⟩, hq.1.1.1.2, hq.1.2⟩
theorem cA_eq {s : State} {cA cB : ClassId} {ty : FieldType} (h1 : va_RA s cA ty) (h2 : va_RA s cB ty) : cA = cB := by
  cases ty with
  | object C =>
    obtain ⟨_, _, -, -, -, a1⟩ := h1
    obtain ⟨_, _, -, -, -, b1⟩ := h2
    exact Option.some.inj (a1.symm.trans b1)
  | _ => exact Option.some.inj ((show s.vm.findClass _ = some cA from h1).symm.trans h2)
set_option maxHeartbeats 40000000 in
set_option maxRecDepth 100000 in
theorem SW_step (hLet : LET l D cy B Hb sc) (habt : ABT l D cy B Hb sc) (d k bc bs pc : Nat) (vs st : List Value) (M : Mem) (R : Option Value → Mem → Prop) (hr : runF (SWp l D cy B Hb sc) d k bc bs pc vs st M R) : SWp l D cy B Hb sc d k bc bs pc vs st M R := by
  intro p e R0 s m args below meth c H locs cells slots Q ls X hA hc hS hl hdf hdl hcc hss hend hthr
  obtain ⟨hx, hb, hrt, hml, hown, hts, hlk, hini, hKK, hB, hO⟩ := id X
  have hK := hKK.1
  have hAz : ∀ q, s.heap.size ≤ q → zA B q := fun q h => Nat.le_trans hB h
  have hsz : ls.size = pL (tbl k) := hl.2.1
  have K : ∀ {pc' : Nat} {r' : List Value}, SWp l D cy B Hb sc d k bc bs pc' vs r' M R → W p l e R0 s m args below meth c H locs cells slots Q (F0 m pc' ls r') := fun h => h p e R0 s m args below meth c H locs cells slots Q ls X hA hc hS hl hdf hdl hcc hss hend hthr
  have KC : ∀ {M' : Mem} {H' : Heap} {locs' : List Loc} {mc ms pc' : Nat} {r' : List Value}, mc ≤ bc → ms ≤ bs → AB D cy B M' H' → mSc M' = sc → va_S (zA B) s.heap H' locs' → SWp l D cy B Hb sc d k (bc - mc) (bs - ms) pc' vs r' M' R → W p l e R0 s m args below meth c H' locs' (cells + mc) (slots + ms) Q (F0 m pc' ls r') := fun h1 h2 hA' hc' hS' h =>
    h p e R0 s m args below meth c _ _ _ _ Q ls X hA' hc' hS' hl hdf hdl (by omega) (by omega) (fun v M' H' locs' cells' slots' ls' pc' q1 q2 q3 q4 q5 q6 q7 => hend v M' H' locs' cells' slots' ls' pc' q1 q2 q3 q4 (by omega) (by omega) q7) (fun M' H' locs' cells' slots' ls' pc' ix q1 q2 q3 q4 q5 q6 q7 q8 q9 q0 => hthr M' H' locs' cells' slots' ls' pc' ix q1 q2 q3 q4 (by omega) (by omega) q7 q8 q9 q0)
  unfold runF at hr
  split at hr
  · exact absurd hr (fun z => z)
  rename_i p0 ins len a b t x0 w0 ts hf
  obtain ⟨-, hd, hok, hlen⟩ := fet_dec hf
  have hcal := fet_cal hf
  cases ins with
  | ifCond cnd off =>
    have hlen1 := hlen.resolve_right (by simp [lenI])
    simp only [lenI] at hlen1
    subst hlen1
    simp only [okX] at hok
    dsimp only at hr
    split at hr
    · obtain ⟨h1, h2⟩ := hr
      have ht := of_decide_eq_true hok
      cases cnd with
      | eq => exact lv_if_eq hx hb hd ht (fun q => K (h1 q)) (fun q => K (h2 q))
      | ne => exact lv_if_ne hx hb hd ht (fun q => K (h1 q)) (fun q => K (h2 (fun z => z q)))
      | lt => exact lv_if_lt hx hb hd ht (fun q => K (h1 q)) (fun q => K (h2 q))
      | ge => exact lv_if_ge hx hb hd ht (fun q => K (h1 q)) (fun q => K (h2 q))
      | gt => exact lv_if_gt hx hb hd ht (fun q => K (h1 q)) (fun q => K (h2 q))
      | le => exact lv_if_le hx hb hd ht (fun q => K (h1 q)) (fun q => K (h2 q))
    · exact absurd hr (fun z => z)
  | if_icmp cnd off =>
    have hlen1 := hlen.resolve_right (by simp [lenI])
    simp only [lenI] at hlen1
    subst hlen1
    simp only [okX] at hok
    dsimp only at hr
    split at hr
    · obtain ⟨h1, h2⟩ := hr
      have ht := of_decide_eq_true hok
      cases cnd with
      | eq => exact lv_icmp_eq hx hb hd ht (fun q => K (h1 q)) (fun q => K (h2 q))
      | ne => exact lv_icmp_ne hx hb hd ht (fun q => K (h1 q)) (fun q => K (h2 (fun z => z q)))
      | lt => exact lv_icmp_lt hx hb hd ht (fun q => K (h1 q)) (fun q => K (h2 q))
      | ge => exact lv_icmp_ge hx hb hd ht (fun q => K (h1 q)) (fun q => K (h2 q))
      | gt => exact lv_icmp_gt hx hb hd ht (fun q => K (h1 q)) (fun q => K (h2 q))
      | le => exact lv_icmp_le hx hb hd ht (fun q => K (h1 q)) (fun q => K (h2 q))
    · exact absurd hr (fun z => z)
  | if_acmp cnd off =>
    have hlen1 := hlen.resolve_right (by simp [lenI])
    simp only [lenI] at hlen1
    subst hlen1
    simp only [okX] at hok
    have ht := of_decide_eq_true hok
    cases cnd with
    | eq =>
      obtain ⟨o, hr⟩ := hr
      split at hr
      · rename_i hs
        cases hs
      · exact absurd hr (fun z => z)
    | ne =>
      dsimp only at hr
      split at hr
      · obtain ⟨rx, ry, e1, e2, h1, h2⟩ := hr
        rw [e1, e2]
        exact lv_acmp_ne hx hb hd ht (fun q => K (h1 q)) (fun q => K (h2 q))
      · exact absurd hr (fun z => z)
  | ifnull off =>
    have hlen1 := hlen.resolve_right (by simp [lenI])
    simp only [lenI] at hlen1
    subst hlen1
    simp only [okX] at hok
    have ht := of_decide_eq_true hok
    dsimp only at hr
    split at hr
    · exact lv_ifnullN hx hb hd ht (K hr)
    · exact lv_ifnull hx hb hd (K hr)
    · exact absurd hr (fun z => z)
  | ifnonnull off =>
    have hlen1 := hlen.resolve_right (by simp [lenI])
    simp only [lenI] at hlen1
    subst hlen1
    simp only [okX] at hok
    have ht := of_decide_eq_true hok
    dsimp only at hr
    split at hr
    · exact lv_ifnonnullN hx hb hd (K hr)
    · exact lv_ifnonnull hx hb hd ht (K hr)
    · exact absurd hr (fun z => z)
  | tableswitch dfl lo hi os =>
    simp only [okX, Bool.and_eq_true, decide_eq_true_eq] at hok
    dsimp only at hr
    split at hr
    · rename_i x r
      obtain ⟨h1, h2⟩ := sw_table (lo := lo) hok.2 hr
      have hsz2 : hi = lo + os.toList.length - 1 := by rw [Array.length_toList]; exact hok.1.2
      by_cases hin : x.toInt < lo ∨ hi < x.toInt
      · exact lv_tableOut hx hb hd hin (of_decide_eq_true hok.1.1) (K (h2 (by omega)))
      · have hj : (x.toInt - lo).toNat < os.size := by
          rw [← Array.length_toList]
          omega
        obtain ⟨tg, g1, g2⟩ := h1 (x.toInt - lo).toNat os[(x.toInt - lo).toNat] (by rw [Array.getElem?_toList]; exact Array.getElem?_eq_getElem hj) (by omega)
        exact lv_tableIn hx hb hd (fun z => hin (Or.inl z)) (fun z => hin (Or.inr z)) (Array.getElem?_eq_getElem hj) g1 (K g2)
    · exact absurd hr (fun z => z)
  | lookupswitch dfl prs =>
    simp only [okX, Bool.and_eq_true] at hok
    dsimp only at hr
    split at hr
    · rename_i x r
      obtain ⟨tg, g1, g2⟩ := sw_look (d := dfl) hok.2 (of_decide_eq_true hok.1.1) hr
      exact lv_lookup hx hb hd hok.1.2 rfl g1 (K g2)
    · exact absurd hr (fun z => z)
  | new ix =>
    have hlen1 := hlen.resolve_right (by simp [lenI])
    simp only [lenI] at hlen1
    subst hlen1
    simp only [okX] at hok
    dsimp only at hr
    split at hr
    · rw [if_pos rfl] at hok
      obtain ⟨rfl, hR⟩ := hr
      exact hthr M H locs cells slots ls pc ix hR hc hA hS (by omega) (by omega) hd (tb_I hok) (by rw [hf]; simp) hsz
    · rename_i hne
      rw [if_neg (fun z => hne z), Bool.and_eq_true] at hok
      obtain ⟨h1, h2, h3⟩ := hr
      have ha : a < 13 := of_decide_eq_true hok.2
      obtain ⟨⟨C, T, N⟩, hz⟩ : ∃ q, zcl[a]? = some q := ⟨_, List.getElem?_eq_getElem ha⟩
      have hN : clNn a = N := clNn_at hz
      obtain ⟨i1, i2⟩ := inst_ok hz
      have hcl : clN a = C := by unfold clN; rw [hz]
      rw [hcl] at hok
      refine va_new (D := D) (fs := nilF a) hx hb hts (lay_ok hz) (zFy a) (fy_ok hz) hown (hts _ (tb_in (tb_I hok.1) rfl)) (hts _ (tb_in i1 rfl)) (hts _ (tb_in i2 rfl)) hK hA.1 hA.2 hS hAz hz (fun j hj => ?_) (by omega) (show slots + N ≤ R0.slots by omega) hd (fun q H1 hP hD hS1 => ?_)
      · have hj1 : j < clNn a := by rw [hN]; exact hj
        rw [nilF_at hj1, dv_at ha hj1]
      · obtain ⟨hA1, hq⟩ := AB.push (M' := alO M q a) rfl (eE_alO ha) hP hD
        rw [← hN]
        exact KC h1 h2 hA1 hc hS1 (h3 q hq)
  | newarray at0 =>
    have hlen1 := hlen.resolve_right (by simp [lenI])
    simp only [lenI] at hlen1
    subst hlen1
    simp only [okX] at hok
    dsimp only at hr
    split at hr
    · rename_i x r
      obtain ⟨h1, h2, h3, h4, h5⟩ := hr
      obtain ⟨aZ, aB, aI, aJ⟩ := arr_ok
      have fin : ∀ {ty : FieldType} {a0 : vp_A} {tt : Nat}, newarray.typeOf at0 = ty → Cond.arrayClass ty ∈ tables_1 → (∀ cA : ClassId, vp_cell cA a0 = arrV cA x.toNatClampNeg (fun _ => defaultValue ty)) → x.toNatClampNeg * componentBytes ty ≤ 536870912 → (tysL cy)[tt]? = some (cy a, ty) → (∀ q, eE cy (alA M q a x.toNatClampNeg) = va_up (eE cy M) q (.inl (cy a, a0))) → W p l e R0 s m args below meth c H locs cells slots Q (F0 m pc ls (.int x :: r)) := by
        intro ty a0 tt g1 g2 g3 g4 g5 g6
        refine va_newa (D := D) (cl := zcl) (a0 := a0) hx hb (by rw [g1]; exact hts _ (tb_in g2 rfl)) g1 hK hA.1 hA.2 hS hAz g3 h1 rfl g4 (by omega) (by omega) hd (fun q cA H1 hK1 hP hD hS1 => ?_)
        have e1 : cA = cy a := cA_eq (hK1.2 (tysL cy).length (cA, ty) (by rw [List.getElem?_append_right (Nat.le_refl _), Nat.sub_self]; rfl)).2 (hK.2 tt (cy a, ty) g5).2
        subst e1
        obtain ⟨hA1, hq⟩ := AB.push (M' := alA M q a x.toNatClampNeg) rfl (g6 q) hP hD
        exact KC h3 h4 hA1 hc hS1 (h5 q hq)
      cases at0 with
      | boolean =>
        have ea : a = 13 := eq_of_beq hok
        subst ea
        exact fin (tt := 0) rfl aZ (fun cA => rfl) (Nat.le_trans (Nat.mul_le_mul h2 (show componentBytes _ ≤ 8 by decide)) (by decide)) rfl (fun q => eE_alA (by omega))
      | byte =>
        have ea : a = 14 := eq_of_beq hok
        subst ea
        exact fin (tt := 1) rfl aB (fun cA => rfl) (Nat.le_trans (Nat.mul_le_mul h2 (show componentBytes _ ≤ 8 by decide)) (by decide)) rfl (fun q => eE_alA (by omega))
      | int =>
        have ea : a = 15 := eq_of_beq hok
        subst ea
        exact fin (tt := 2) rfl aI (fun cA => rfl) (Nat.le_trans (Nat.mul_le_mul h2 (show componentBytes _ ≤ 8 by decide)) (by decide)) rfl (fun q => eE_alA (by omega))
      | long =>
        have ea : a = 16 := eq_of_beq hok
        subst ea
        exact fin (tt := 3) rfl aJ (fun cA => rfl) (Nat.le_trans (Nat.mul_le_mul h2 (show componentBytes _ ≤ 8 by decide)) (by decide)) rfl (fun q => eE_alA (by omega))
      | _ => cases hok
    · exact absurd hr (fun z => z)
  | anewarray ix =>
    have hlen1 := hlen.resolve_right (by simp [lenI])
    simp only [lenI] at hlen1
    subst hlen1
    simp only [okX, Bool.and_eq_true, decide_eq_true_eq] at hok
    dsimp only at hr
    split at hr
    · rename_i x r
      obtain ⟨h1, h2, h3, h4, h5⟩ := hr
      obtain ⟨rr, g1, g2, g3, g4⟩ := tys_ref (cy := cy) hok.1.1 hok.1.2
      have hw := tb_I hok.2
      rw [g3] at hw
      refine va_newq (D := D) (cl := zcl) hx hb hown (hts _ (tb_in hw rfl)) (hKK.2.2.1 _ g4) hK hA.1 hA.2 hS hAz h1 rfl (by omega) (by omega) (by omega) hd (fun q cA H1 hK1 hP hD hS1 => ?_)
      have e1 : cA = cy a := cA_eq (hK1.2 (tysL cy).length (cA, .object rr.1) (by rw [List.getElem?_append_right (Nat.le_refl _), Nat.sub_self]; rfl)).2 (hK.2 (a - 13) (cy a, .object rr.1) g1).2
      subst e1
      obtain ⟨hA1, hq⟩ := AB.push (M' := alA M q a x.toNatClampNeg) rfl (by rw [eE_alA (by omega), if_neg (by omega), if_pos hok.1.1]) hP hD
      exact KC h3 h4 hA1 hc hS1 (h5 q hq)
    · exact absurd hr (fun z => z)
  | invokespecial ix =>
    have hlen1 := hlen.resolve_right (by simp [lenI])
    simp only [lenI] at hlen1
    subst hlen1
    simp only [okX] at hok
    dsimp only at hr
    split at hr
    · split at hr
      · rename_i q r
        rw [if_pos rfl] at hok
        obtain ⟨h1, h2, h3⟩ := hr
        refine W.objInit hx hb hown (hts _ (tb_in (tb_I hok) rfl)) (hts _ (tb_in obi_ok.1 rfl)) (hts _ (tb_in obi_ok.2 rfl)) rfl (by rw [hml]; exact hsz) rfl hd (by omega) ?_ ?_
        · have := lv_room (m := m) (pc := pc) (ls := ls) (rest := Value.ref q :: r) h2
          omega
        · exact W.eq (g2 := F0 m (pc + 3) ls r) rfl (K h3)
      · exact absurd hr (fun z => z)
    · rename_i hne
      split at hr
      · rename_i q as hst
        rw [if_neg (fun z => hne z)] at hok
        simp only [calI, Bool.or_eq_true, Bool.and_eq_true, decide_eq_true_eq] at hcal
        obtain ⟨⟨ha, hi⟩, hC⟩ := hcal.resolve_left (fun z => hne z)
        obtain ⟨h1, h2, h3, h4, h5⟩ := hr
        obtain ⟨c1, c2, c3⟩ := cok_spec h2
        obtain ⟨s1, s2⟩ := st_split hst c1
        rw [hst] at c2
        have hM := met_of ha h5 hc c2 (fun M' h => by cases h.1)
        obtain ⟨z1, z2, z3, z4, z5⟩ := mok_ini ha hi
        obtain ⟨w1, w2⟩ := mok_inst ha hC
        have hPre : PreS s H (PcM D cy B Hb sc M (.ref q :: as)) (.ref q :: as) := ⟨PcM.blind, fun U hU hW => ⟨rfl, by rw [hU]; exact hA, hKK.moved hW, by rw [hU]; exact Nat.le_trans hB hS.1, fun q hq => by rw [hU, hS.2.1 q (by omega) (Nat.not_le.mpr hq)]; exact hO q hq⟩⟩
        have kont : ∀ (v : Option Value) (M' : Mem) (H1 : Heap) (locs1 : List Loc), (v = none ∧ SWp l D cy B Hb sc d k (bc - pMc (tbl a)) (bs - pMs (tbl a)) (pc + 3) vs (st.drop (pN (tbl a) + 1)) M' R) → mSc M' = sc → AB D cy B M' H1 → va_S (zA B) s.heap H1 locs1 → W p l e R0 s m args below meth c H1 locs1 (cells + pMc (tbl a)) (slots + pMs (tbl a)) Q (F0 m (pc + 3) ls (v.toList ++ st.drop (pN (tbl a) + 1))) := by
          rintro v M' H1 locs1 ⟨rfl, h⟩ hc' hA' hS'
          exact KC h3 h4 hA' hc' hS' h
        have hmt : meth.sig.returnType = meth.sig.returnType := rfl
        by_cases hb1 : b = 1
        · rw [if_pos hb1] at hok
          have hw := tb_I hok
          have hnw : Cond.methodLinkNest (pOwn (tbl k)) ix (yM a) "CottageYear" ∈ nestW := List.mem_filter.mpr ⟨hw, rfl⟩
          have hN := hKK.2.1 _ hnw
          rw [← yM_tbl (by omega)] at hN
          have cn : va_CN R0 s args (pOwn (tbl k)) ix (pY (tbl a)) "CottageYear" (pB (tbl a)) (pL (tbl a)) none (wsP a) (rmD (d - 1) (pMc (tbl a)) (pMs (tbl a))) (pMc (tbl a)) (pMs (tbl a)) (pN (tbl a)) := by
            have hwp : wsP a = Cond.code (pY (tbl a)) (pB (tbl a)) (pL (tbl a)) none :: zTb := by unfold wsP; rw [z1]
            refine va_cnB (Ts := zTb) (pN (tbl a)) hts (good_wsP ha) hwp rfl rfl hN (hts _ (tb_in w2 rfl)) ⟨z3.1, z3.2, z4⟩ ⟨?_, ?_⟩
            · show d - 1 + 1 ≤ R0.frames
              omega
            · show 8 + (pL (tbl a) + 11) + 64 * (d - 1) ≤ R0.locals
              omega
          exact call_W (va_runIN (Ts := zTb) (As := as) (rest := st.drop (pN (tbl a) + 1)) ⟨hx, hb, hml, hown, hts⟩ hM ⟨cn, z2, hts _ (tb_in w1 rfl)⟩ hPre rfl s1 hsz s2 (lv_room c3) hd ⟨by omega, by omega⟩) hS kont
        · rw [if_neg hb1] at hok
          have hl1 := hts _ (tb_in (tb_I hok) rfl)
          rw [← yM_tbl (by omega)] at hl1
          have cb := callB_ok ha hts hl1 h1 hdf hdl
          rw [z1] at cb
          exact call_W (va_runI (Ts := zTb) (As := as) (rest := st.drop (pN (tbl a) + 1)) ⟨hx, hb, hml, hown, hts⟩ hM ⟨cb, z2, hts _ (tb_in w1 rfl)⟩ hPre rfl s1 hsz s2 (lv_room c3) hd ⟨by omega, by omega⟩) hS kont
      · exact absurd hr (fun z => z)
  | invokevirtual ix =>
    have hlen1 := hlen.resolve_right (by simp [lenI])
    simp only [lenI] at hlen1
    subst hlen1
    simp only [okX] at hok
    dsimp only at hr
    split at hr
    · rename_i q as hst
      simp only [calI, Bool.and_eq_true, decide_eq_true_eq, Bool.not_eq_true'] at hcal
      obtain ⟨⟨⟨ha, hi⟩, hne⟩, hC⟩ := hcal
      obtain ⟨h1, h2, h3, h4, h6, h5⟩ := hr
      obtain ⟨c1, c2, c3⟩ := cok_spec h2
      obtain ⟨s1, s2⟩ := st_split hst c1
      rw [hst] at c2
      have hM := met_of ha h5 hc c2 (fun M' h => h.1 rfl)
      obtain ⟨w1, w2⟩ := mok_inst ha hC
      obtain ⟨w3, w4⟩ := mok_sel ha hC hi
      obtain ⟨q0, hq0⟩ := ob_get hA h6
      rw [eE_obj h6.2 hC] at hq0
      obtain ⟨⟨C, T, N⟩, hz⟩ : ∃ q, zcl[pC (tbl a)]? = some q := ⟨_, List.getElem?_eq_getElem hC⟩
      have hcl : C = (pY (tbl a)).cls := by
        rw [← w4]
        unfold clN
        rw [hz]
      have hrec := va_recv hK hA.1 hz hq0
      have hPre : PreV s H (pY (tbl a)).cls q (PcM D cy B Hb sc M (.ref q :: as)) as := ⟨PcM.blind, by rw [← hcl]; exact hrec, fun U hU hW => ⟨rfl, by rw [hU]; exact hA, hKK.moved hW, by rw [hU]; exact Nat.le_trans hB hS.1, fun q hq => by rw [hU, hS.2.1 q (by omega) (Nat.not_le.mpr hq)]; exact hO q hq⟩⟩
      have hl1 := hts _ (tb_in (tb_I hok) rfl)
      rw [← yM_tbl (by omega)] at hl1
      exact call_W (va_runV (Ts := zTb) (C := (pY (tbl a)).cls) (As := as) (rest := st.drop (pN (tbl a) + 1)) ⟨hx, hb, hml, hown, hts⟩ hM ⟨callB_ok ha hts hl1 h1 hdf hdl, hts _ (tb_in w1 rfl), hts _ w3⟩ hPre rfl s1 hsz s2 (lv_room c3) hd ⟨by omega, by omega⟩) hS (fun v M' H1 locs1 h hc' hA' hS' => KC h3 h4 hA' hc' hS' h.2)
    · exact absurd hr (fun z => z)
  | invokestatic ix =>
    have hlen1 := hlen.resolve_right (by simp [lenI])
    simp only [lenI] at hlen1
    subst hlen1
    simp only [okX] at hok
    dsimp only at hr
    split at hr
    · split at hr
      · rename_i z dp a1 sp a0 r
        rw [if_pos rfl] at hok
        obtain ⟨h1, h2, h3, h4, h5, h6, h7, h8, h9, h10⟩ := hr
        obtain ⟨q0, g0⟩ := ob_get hA h3
        obtain ⟨q1, g1⟩ := ob_get hA h4
        have g1' := g1
        rw [eE_int h3.2 (by omega)] at g0
        rw [eE_int h4.2 (by omega)] at g1'
        obtain ⟨n1, n2, n3⟩ := acp_ok
        refine va_copyi (D := D) (ty := .int) hx hb (by rw [hml]; exact hsz.symm) hown (hts _ (tb_in (tb_I hok) rfl)) (hts _ (tb_in n1 rfl)) (hts _ (tb_in n2 rfl)) (hts _ (tb_in n3 rfl)) hK hA.1 hA.2 hS q0 q1 2 2 g0 g1' rfl rfl rfl h5 h6 h7 h8 h9 (fun i hi => rfl) (by omega) ?_ hd (fun H1 locs1 hP hD hS1 => ?_)
        · have hw : nativeFrameWords "java/lang/System" "arraycopy" 5 ≤ 40 := by decide +kernel
          unfold wsum at h2
          omega
        · have hA1 : AB D cy B (cpI M a0 a1 sp.toNatClampNeg dp.toNatClampNeg z.toNatClampNeg) H1 := hA.set h4.1 rfl (eE_cpI h4.2) g1 hP hD
          exact h10 p e R0 s m args below meth c H1 locs1 cells slots Q ls X hA1 hc hS1 hl hdf hdl hcc hss hend hthr
      · exact absurd hr (fun z => z)
    · split at hr
      · rename_i x r
        obtain ⟨h1, h2, h3⟩ := hr
        exact hLet d k pc ix t r x M p e R0 s m args below meth c H locs cells slots Q ls X hA hc hS hsz h1 hdf hdl (by omega) (by omega) h2 hd (tb_I hok) (K h3)
      · exact absurd hr (fun z => z)
    · split at hr
      · rename_i u w z q r
        obtain ⟨h1, h2, h3, h4, h5, h6, h7, h8⟩ := hr
        refine habt d k pc ix r u q w z M _ p e R0 s m args below meth c H locs cells slots Q ls X hA hc hS hsz h1 hdf hdl (by omega) (by omega) h2 hd (tb_I hok) h5 h6 h7 h8 (fun y M' hR => by rcases hR with ⟨y', -, hu, -⟩ | ⟨hv, -⟩; exact hu; cases hv) ?_
        intro v M' H' locs' hR hc' hS'
        refine ⟨?_, ?_⟩
        · rcases hR with ⟨y, hv, -, hrun⟩ | ⟨hv, hrun⟩
          · intro y' hh
            have e : y' = y := by
              have h9 := hv.symm.trans hh.1
              cases h9
              rfl
            subst e
            exact KC h3 h4 hh.2 hc' hS' hrun
          · exact fun y' hh => by rw [hv] at hh; cases hh.1
        · intro hh
          rcases hR with ⟨y, hv, -, hrun⟩ | ⟨hv, hrun⟩
          · rw [hv] at hh; cases hh.1
          · exact KC h3 h4 hh.2 hc' hS' hrun
      · exact absurd hr (fun z => z)
    · rename_i n1 n2 n3
      rw [if_neg (fun z => n1 z)] at hok
      simp only [calI, Bool.or_eq_true, Bool.and_eq_true, decide_eq_true_eq, Bool.not_eq_true'] at hcal
      obtain ⟨⟨ha, hC⟩, hi⟩ := hcal.resolve_left (fun z => by rcases z with (z | z) | z; exact n1 z; exact n2 z; exact n3 z)
      obtain ⟨h1, h2, h3, h4, h5⟩ := hr
      obtain ⟨c1, c2, c3⟩ := cok_spec h2
      rw [Nat.add_zero] at c1 c2 c3
      have hM := met_of ha h5 hc c2 (fun M' h => h.1 rfl)
      have hPre : PreS s H (PcM D cy B Hb sc M ((st.take (pN (tbl a))).reverse)) ((st.take (pN (tbl a))).reverse) := ⟨PcM.blind, fun U hU hW => ⟨rfl, by rw [hU]; exact hA, hKK.moved hW, by rw [hU]; exact Nat.le_trans hB hS.1, fun q hq => by rw [hU, hS.2.1 q (by omega) (Nat.not_le.mpr hq)]; exact hO q hq⟩⟩
      have hl1 := hts _ (tb_in (tb_I hok) rfl)
      rw [← yM_tbl (by omega)] at hl1
      exact call_W (va_runS (Ts := zTb) (As := (st.take (pN (tbl a))).reverse) (rest := st.drop (pN (tbl a))) ⟨hx, hb, hml, hown, hts⟩ hM ⟨callB_ok ha hts hl1 h1 hdf hdl, hts _ (tb_in (mok_stat ha hC) rfl)⟩ hPre rfl (by rw [List.length_reverse, List.length_take]; omega) hsz (by rw [List.reverse_reverse]; exact (List.take_append_drop _ _).symm) (lv_room c3) hd ⟨by omega, by omega⟩) hS (fun v M' H1 locs1 h hc' hA' hS' => KC h3 h4 hA' hc' hS' h.2)
  | ireturn =>
    have hlen1 := hlen.resolve_right (by simp [lenI])
    simp only [lenI] at hlen1
    subst hlen1
    dsimp only at hr
    split at hr
    · rename_i v
      exact hend (some (.int v)) M H locs cells slots ls pc hr.2 hc hA hS (by omega) (by omega) ⟨hd, hr.1⟩
    · exact absurd hr (fun z => z)
  | lreturn =>
    have hlen1 := hlen.resolve_right (by simp [lenI])
    simp only [lenI] at hlen1
    subst hlen1
    dsimp only at hr
    split at hr
    · rename_i v
      exact hend (some (.long v)) M H locs cells slots ls pc hr.2 hc hA hS (by omega) (by omega) ⟨hd, hr.1⟩
    · exact absurd hr (fun z => z)
  | areturn =>
    have hlen1 := hlen.resolve_right (by simp [lenI])
    simp only [lenI] at hlen1
    subst hlen1
    dsimp only at hr
    split at hr
    · rename_i v
      exact hend (some (.ref v)) M H locs cells slots ls pc hr.2 hc hA hS (by omega) (by omega) ⟨hd, hr.1⟩
    · exact hend (some .null) M H locs cells slots ls pc hr.2 hc hA hS (by omega) (by omega) ⟨hd, hr.1⟩
    · exact absurd hr (fun z => z)
  | return_ =>
    have hlen1 := hlen.resolve_right (by simp [lenI])
    simp only [lenI] at hlen1
    subst hlen1
    obtain ⟨rfl, h1, h2⟩ := hr
    exact hend none M H locs cells slots ls pc h2 hc hA hS (by omega) (by omega) ⟨hd, h1⟩
  | _ =>
    obtain ⟨o, hr⟩ := hr
    split at hr
    · rename_i ps pc' vs' st' M' hs
      exact stp_W X hf hs hr.1 hA hc hS hl (fun H' locs' ls' hA' hc' hS' hl' => hr.2 p e R0 s m args below meth c H' locs' cells slots Q ls' X hA' hc' hS' hl' hdf hdl hcc hss hend hthr)
    · exact absurd hr (fun z => z)
theorem SW_mon : Mon (SWp l D cy B Hb sc) := by
  intro d d' k bc bc' bs bs' pc vs st M R R' hd hc hs hR h
  intro p e R0 s m args below meth c H locs cells slots Q ls X hA hsc hS hl hdf hdl hcc hss hend hthr
  exact h p e R0 s m args below meth c H locs cells slots Q ls X hA hsc hS hl (by omega) (by omega) (by omega) (by omega) (fun v M' H' locs' cells' slots' ls' pc' q1 q2 q3 q4 q5 q6 q7 => hend v M' H' locs' cells' slots' ls' pc' (hR _ _ q1) q2 q3 q4 (by omega) (by omega) q7) (fun M' H' locs' cells' slots' ls' pc' ix q1 q2 q3 q4 q5 q6 q7 q8 q9 q0 => hthr M' H' locs' cells' slots' ls' pc' ix (hR _ _ q1) q2 q3 q4 (by omega) (by omega) q7 q8 q9 q0)
/-- WHAT IS SHOWN OF THE PURE MACHINE HOLDS OF THE MACHINE -/
theorem SW_go (hLet : LET l D cy B Hb sc) (habt : ABT l D cy B Hb sc) {d k bc bs pc : Nat} {vs st : List Value} {M : Mem} {R : Option Value → Mem → Prop} (h : Go d k bc bs pc vs st M R) : SWp l D cy B Hb sc d k bc bs pc vs st M R := h _ SW_mon (SW_step hLet habt)
end STEP
