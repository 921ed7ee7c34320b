/-! each simple instruction, over the machine -/
def CX (D : va_G) (cy : Nat → ClassId) (B : Nat) (Hb : Heap) (sc : Nat × Nat × (Nat → Int32)) (k : Nat) (p : Program) (s : State) (m : MethodId) (args : Array Value) (meth : Method) (c : Code) : Prop :=
  p.tables.exec = Jvm.exec ∧ c.code = pB (tbl k) ∧ meth.sig.returnType = pRet (tbl k) ∧ c.maxLocals = pL (tbl k) ∧ s.vm.findClass (pOwn (tbl k)) = some m.cls ∧ (∀ w ∈ zTb, w.before args s = true) ∧ meth.locks = false ∧ (iniP (tbl k) = true → meth.name = "<init>") ∧ KK D cy B Hb sc s ∧ B ≤ s.heap.size ∧ (∀ q : Nat, q < B → s.heap[q]? = Hb[q]?)
theorem nar_i (x : Int32) : narrow .int (.int x) = .int x := rfl
theorem nar_l (x : Int64) : narrow .long (.long x) = .long x := rfl
theorem tys_at {cy : Nat → ClassId} {a : Nat} (h1 : 13 ≤ a) (h2 : a < 22) : ∃ ty, (tysL cy)[a - 13]? = some (cy a, ty) := by
  match a, h1, h2 with
  | 13, _, _ => exact ⟨_, rfl⟩
  | 14, _, _ => exact ⟨_, rfl⟩
  | 15, _, _ => exact ⟨_, rfl⟩
  | 16, _, _ => exact ⟨_, rfl⟩
  | 17, _, _ => exact ⟨_, rfl⟩
  | 18, _, _ => exact ⟨_, rfl⟩
  | 19, _, _ => exact ⟨_, rfl⟩
  | 20, _, _ => exact ⟨_, rfl⟩
  | 21, _, _ => exact ⟨_, rfl⟩
  | a + 22, _, h => omega
theorem tys_ref {cy : Nat → ClassId} {a : Nat} (h1 : 17 ≤ a) (h2 : a < 22) : ∃ r : vw_C, (tysL cy)[a - 13]? = some (cy a, .object r.1) ∧ zcl[zaI.getD (a - 17) 0]? = some r ∧ zaC.getD (a - 17) "" = r.1 ∧ r.1 ∈ zaC := by
  match a, h1, h2 with
  | 17, _, _ => exact ⟨_, rfl, rfl, rfl, by decide⟩
  | 18, _, _ => exact ⟨_, rfl, rfl, rfl, by decide⟩
  | 19, _, _ => exact ⟨_, rfl, rfl, rfl, by decide⟩
  | 20, _, _ => exact ⟨_, rfl, rfl, rfl, by decide⟩
  | 21, _, _ => exact ⟨_, rfl, rfl, rfl, by decide⟩
  | a + 22, _, h => omega
theorem fd_I {own : String} {ix a b t : Nat} (h : fdI own ix a b t = true) : ∃ C T N, zcl[a]? = some (C, T, N) ∧ b < N ∧ Cond.fieldLink own ix (T b).1 (T b).2.1 (T b).2.2.1 ∈ tables_1 := by
  unfold fdI at h
  split at h
  · rename_i C T N hz
    rw [Bool.and_eq_true] at h
    exact ⟨C, T, N, hz, of_decide_eq_true h.1, tb_I h.2⟩
  · cases h
theorem ob_get {D : va_G} {cy : Nat → ClassId} {B : Nat} {M : Mem} {H : Heap} (h : AB D cy B M H) {q c : Nat} (ho : ob M q c) : ∃ q0 : Nat, (va_pl (mL M) (eE cy M))[q0]? = some (q, eE cy M q) := pl_get ho.1
theorem AB.set {D : va_G} {cy : Nat → ClassId} {B : Nat} {M M' : Mem} {H H1 : Heap} (h : AB D cy B M H) {q q0 : Nat} {e : va_E} (hm : q ∈ mL M) (hL : mL M' = mL M) (he : eE cy M' = va_up (eE cy M) q e) (h0 : (va_pl (mL M) (eE cy M))[q0]? = some (q, eE cy M q)) (hP : va_P D zcl ((va_pl (mL M) (eE cy M)).set q0 (q, e)) H1) (hD : va_D (zA B) ((va_pl (mL M) (eE cy M)).set q0 (q, e))) : AB D cy B M' H1 := by
  unfold AB
  rw [hL, he, ← pl_set h.2 hm h0]
  exact ⟨hP, hD⟩
section STP
variable {p : Program} {l : Launch} {e : Env} {R : Room} {s : State} {m : MethodId} {args : Array Value} {below : List Frame} {meth : Method} {c : Code} {H : Heap} {locs : List Loc} {cells slots : Nat} {Q : State → Prop} {D : va_G} {cy : Nat → ClassId} {B : Nat} {Hb : Heap} {sc : Nat × Nat × (Nat → Int32)} {k : Nat}
set_option maxHeartbeats 4000000 in
theorem getf_W (X : CX D cy B Hb sc k p s m args meth c) {pc a b t ix : Nat} {ls : Array Slot} {q : Nat} {r : List Value} {M : Mem} (hd : decode (pB (tbl k)) pc = .ok (.getfield ix, 3)) (hx : fdI (pOwn (tbl k)) ix a b t = true) (hA : AB D cy B M H) (ho : ob M q a)
    (kk : W p l e R s m args below meth c H locs cells slots Q (F0 m (pc + 3) ls (fvl M q a b :: r))) : W p l e R s m args below meth c H locs cells slots Q (F0 m pc ls (.ref q :: r)) := by
  obtain ⟨hx0, hb, hr, hml, hown, hts, hlk, hini, ⟨hK, -⟩, -⟩ := X
  obtain ⟨C, T, N, hz, hbN, hw⟩ := fd_I hx
  obtain ⟨q0, h0⟩ := ob_get hA ho
  have hlt : b < clNn a := by rw [clNn_at hz]; exact hbN
  rw [eE_obj ho.2 (zcl_lt hz)] at h0
  exact va_get (D := D) hx0 hb hts (lay_ok hz) hown hK hA.1 q0 h0 hz b hbN (hts _ (tb_in hw rfl)) (fun _ h9 => h9) (fls_get hlt) hd kk
set_option maxHeartbeats 4000000 in
theorem putf_W (X : CX D cy B Hb sc k p s m args meth c) {pc a b t ix : Nat} {ls : Array Slot} {q : Nat} {r : List Value} {M M' : Mem} {v : Value} (hd : decode (pB (tbl k)) pc = .ok (.putfield ix, 3)) (hx : fdI (pOwn (tbl k)) ix a b t = true) (hf : fnI (pOwn (tbl k)) (iniP (tbl k)) a b = true) (hA : AB D cy B M H) (ho : ob M q a) (hS : va_S (zA B) s.heap H locs)
    (hn : narrow (zFy a b) v = v) (hfit : fits (zFy a b) v = true) (hL : mL M' = mL M) (he : a < 13 → b < clNn a → eE cy M' = va_up (eE cy M) q (.inr (a, (fls M q a).set b v)))
    (kk : ∀ H' locs', AB D cy B M' H' → va_S (zA B) s.heap H' locs' → W p l e R s m args below meth c H' locs' cells slots Q (F0 m (pc + 3) ls r)) : W p l e R s m args below meth c H locs cells slots Q (F0 m pc ls (v :: .ref q :: r)) := by
  obtain ⟨hx0, hb, hr, hml, hown, hts, hlk, hini, ⟨hK, -⟩, -⟩ := X
  obtain ⟨C, T, N, hz, hbN, hw⟩ := fd_I hx
  obtain ⟨q0, h0⟩ := ob_get hA ho
  have hlt : b < clNn a := by rw [clNn_at hz]; exact hbN
  have h0' := h0
  rw [eE_obj ho.2 (zcl_lt hz)] at h0'
  have hfd := fy_ok hz b hbN
  cases hfn : (T b).2.2.2 with
  | false =>
    exact va_put (D := D) hx0 hb hts (lay_ok hz) (zFy a) (fy_ok hz) (nm_ok hz) hown hK hA.1 hA.2 hS q0 h0' hz b hbN (hts _ (tb_in hw rfl)) (fun _ h9 => h9) hfn hfd hn hfit (by rw [fls_len]; exact hlt) hd (fun H1 locs1 hP hD hS1 => kk H1 locs1 (hA.set ho.1 hL (he (zcl_lt hz) hlt) h0 hP hD) hS1)
  | true =>
    unfold fnI at hf
    rw [hz] at hf
    simp only [hfn, Bool.not_true, Bool.false_or, Bool.and_eq_true] at hf
    exact va_putF (D := D) hx0 hb hts (lay_ok hz) (zFy a) (fy_ok hz) (nm_ok hz) hown hK hA.1 hA.2 hS q0 h0' hz b hbN (hts _ (tb_in hw rfl)) (fun _ h9 => h9) hfn (hini hf.1) (of_decide_eq_true hf.2) hfd hn hfit (by rw [fls_len]; exact hlt) hd (fun H1 locs1 hP hD hS1 => kk H1 locs1 (hA.set ho.1 hL (he (zcl_lt hz) hlt) h0 hP hD) hS1)
theorem lv_long {ls : Array Slot} {nL i z : Nat} {vs : List Value} {x : Int64} (hl : lvOK ls nL vs) (h0 : i + 2 ≤ vs.length) (h1 : nth vs i = .long x) (h2 : nth vs (i + 1) = .retAddr z) : ls[i]? = some (.val (.long x)) := by
  have hg := nth_get h1 (fun _ z => by cases z)
  rcases nth_ra h2 with q | q
  · exact hl.at hg (by rw [q]; rfl)
  · omega
set_option maxHeartbeats 40000000 in
set_option maxRecDepth 100000 in
theorem stp_W (X : CX D cy B Hb sc k p s m args meth c) {o : Option Nat} {p0 : Nat} {ins : Instr} {len a b t : Nat} {x0 : Int32} {w0 : Int64} {ts : List (Int32 × Nat)} {pc : Nat} {vs st : List Value} {M : Mem} {ps : List Prop} {pc' : Nat} {vs' st' : List Value} {M' : Mem} {ls : Array Slot}
    (hf : fet k pc = some (p0, ins, len, a, b, t, x0, w0, ts)) (hs : stp o (p0, ins, len, a, b, t, x0, w0, ts) pc vs st M = some (ps, pc', vs', st', M')) (hp : allP ps) (hA : AB D cy B M H) (hc : mSc M = sc) (hS : va_S (zA B) s.heap H locs) (hl : lvOK ls (pL (tbl k)) vs)
    (kk : ∀ (H' : Heap) (locs' : List Loc) (ls' : Array Slot), AB D cy B M' H' → mSc M' = sc → va_S (zA B) s.heap H' locs' → lvOK ls' (pL (tbl k)) vs' → W p l e R s m args below meth c H' locs' cells slots Q (F0 m pc' ls' st')) : W p l e R s m args below meth c H locs cells slots Q (F0 m pc ls st) := by
  obtain ⟨hx, hb, hr, hml, hown, hts, hlk, hini, ⟨hK, hN, hAO, hXb, hscB, -⟩, hB, hO⟩ := id X
  obtain ⟨-, hd, hok, hlen⟩ := fet_dec hf
  have hXs : ∀ {b1 L1 : Nat} {xs1 : Nat → Int32}, b1 = sc.1 → L1 = sc.2.1 → xs1 = sc.2.2 → va_X b1 L1 xs1 s s.heap := fun h1 h2 h3 => by
    rw [h1, h2, h3]
    exact va_X.kept hXb (hO _ hscB)
  have hbs : ∀ {b1 : Nat}, b1 = sc.1 → b1 < s.heap.size := fun h1 => by rw [h1]; omega
  have hbA : ∀ {b1 : Nat}, b1 = sc.1 → ¬ zA B b1 := fun h1 => by rw [h1]; exact Nat.not_le.mpr hscB
  cases ins with
  | iadd =>
    have hlen1 := hlen.resolve_right (by simp [lenI])
    simp only [lenI] at hlen1
    subst hlen1
    simp only [okX] at hok
    simp only [stp, s2I] at hs
    split at hs
    · cases hs
      exact lv_iadd hx hb hd (kk H locs ls hA hc hS hl)
    · cases hs
  | isub =>
    have hlen1 := hlen.resolve_right (by simp [lenI])
    simp only [lenI] at hlen1
    subst hlen1
    simp only [okX] at hok
    simp only [stp, s2I] at hs
    split at hs
    · cases hs
      exact lv_isub hx hb hd (kk H locs ls hA hc hS hl)
    · cases hs
  | imul =>
    have hlen1 := hlen.resolve_right (by simp [lenI])
    simp only [lenI] at hlen1
    subst hlen1
    simp only [okX] at hok
    simp only [stp, s2I] at hs
    split at hs
    · cases hs
      exact lv_imul hx hb hd (kk H locs ls hA hc hS hl)
    · cases hs
  | iand =>
    have hlen1 := hlen.resolve_right (by simp [lenI])
    simp only [lenI] at hlen1
    subst hlen1
    simp only [okX] at hok
    simp only [stp, s2I] at hs
    split at hs
    · cases hs
      exact lv_iand hx hb hd (kk H locs ls hA hc hS hl)
    · cases hs
  | ior =>
    have hlen1 := hlen.resolve_right (by simp [lenI])
    simp only [lenI] at hlen1
    subst hlen1
    simp only [okX] at hok
    simp only [stp, s2I] at hs
    split at hs
    · cases hs
      exact lv_ior hx hb hd (kk H locs ls hA hc hS hl)
    · cases hs
  | ixor =>
    have hlen1 := hlen.resolve_right (by simp [lenI])
    simp only [lenI] at hlen1
    subst hlen1
    simp only [okX] at hok
    simp only [stp, s2I] at hs
    split at hs
    · cases hs
      exact lv_ixor hx hb hd (kk H locs ls hA hc hS hl)
    · cases hs
  | ishl =>
    have hlen1 := hlen.resolve_right (by simp [lenI])
    simp only [lenI] at hlen1
    subst hlen1
    simp only [okX] at hok
    simp only [stp, s2I] at hs
    split at hs
    · cases hs
      exact lv_ishl hx hb hd (kk H locs ls hA hc hS hl)
    · cases hs
  | ishr =>
    have hlen1 := hlen.resolve_right (by simp [lenI])
    simp only [lenI] at hlen1
    subst hlen1
    simp only [okX] at hok
    simp only [stp, s2I] at hs
    split at hs
    · cases hs
      exact lv_ishr hx hb hd (kk H locs ls hA hc hS hl)
    · cases hs
  | idiv =>
    have hlen1 := hlen.resolve_right (by simp [lenI])
    simp only [lenI] at hlen1
    subst hlen1
    simp only [okX] at hok
    simp only [stp, s2I] at hs
    split at hs
    · cases hs
      exact lv_idiv hx hb hd hp.1 (kk H locs ls hA hc hS hl)
    · cases hs
  | irem =>
    have hlen1 := hlen.resolve_right (by simp [lenI])
    simp only [lenI] at hlen1
    subst hlen1
    simp only [okX] at hok
    simp only [stp, s2I] at hs
    split at hs
    · cases hs
      exact lv_irem hx hb hd hp.1 (kk H locs ls hA hc hS hl)
    · cases hs
  | iushr =>
    have hlen1 := hlen.resolve_right (by simp [lenI])
    simp only [lenI] at hlen1
    subst hlen1
    simp only [okX] at hok
    simp only [stp, s2I] at hs
    split at hs
    · cases hs
      exact lv_iushr hx hb hd rfl (kk H locs ls hA hc hS hl)
    · cases hs
  | ineg =>
    have hlen1 := hlen.resolve_right (by simp [lenI])
    simp only [lenI] at hlen1
    subst hlen1
    simp only [okX] at hok
    simp only [stp, s1I] at hs
    split at hs
    · cases hs
      exact lv_ineg hx hb hd (kk H locs ls hA hc hS hl)
    · cases hs
  | i2b =>
    have hlen1 := hlen.resolve_right (by simp [lenI])
    simp only [lenI] at hlen1
    subst hlen1
    simp only [okX] at hok
    simp only [stp, s1I] at hs
    split at hs
    · cases hs
      exact lv_i2b hx hb hd rfl (kk H locs ls hA hc hS hl)
    · cases hs
  | i2c =>
    have hlen1 := hlen.resolve_right (by simp [lenI])
    simp only [lenI] at hlen1
    subst hlen1
    simp only [okX] at hok
    simp only [stp, s1I] at hs
    split at hs
    · cases hs
      exact lv_i2c hx hb hd rfl (kk H locs ls hA hc hS hl)
    · cases hs
  | i2l =>
    have hlen1 := hlen.resolve_right (by simp [lenI])
    simp only [lenI] at hlen1
    subst hlen1
    simp only [okX] at hok
    simp only [stp, s1I] at hs
    split at hs
    · cases hs
      exact lv_i2l hx hb hd rfl (kk H locs ls hA hc hS hl)
    · cases hs
  | l2i =>
    have hlen1 := hlen.resolve_right (by simp [lenI])
    simp only [lenI] at hlen1
    subst hlen1
    simp only [okX] at hok
    simp only [stp] at hs
    split at hs
    · cases hs
      exact lv_l2i hx hb hd rfl (kk H locs ls hA hc hS hl)
    · cases hs
  | ladd =>
    have hlen1 := hlen.resolve_right (by simp [lenI])
    simp only [lenI] at hlen1
    subst hlen1
    simp only [okX] at hok
    simp only [stp, s2J] at hs
    split at hs
    · cases hs
      exact lv_ladd hx hb hd (kk H locs ls hA hc hS hl)
    · cases hs
  | lsub =>
    have hlen1 := hlen.resolve_right (by simp [lenI])
    simp only [lenI] at hlen1
    subst hlen1
    simp only [okX] at hok
    simp only [stp, s2J] at hs
    split at hs
    · cases hs
      exact lv_lsub hx hb hd (kk H locs ls hA hc hS hl)
    · cases hs
  | lmul =>
    have hlen1 := hlen.resolve_right (by simp [lenI])
    simp only [lenI] at hlen1
    subst hlen1
    simp only [okX] at hok
    simp only [stp, s2J] at hs
    split at hs
    · cases hs
      exact lv_lmul hx hb hd (kk H locs ls hA hc hS hl)
    · cases hs
  | land =>
    have hlen1 := hlen.resolve_right (by simp [lenI])
    simp only [lenI] at hlen1
    subst hlen1
    simp only [okX] at hok
    simp only [stp, s2J] at hs
    split at hs
    · cases hs
      exact lv_land hx hb hd (kk H locs ls hA hc hS hl)
    · cases hs
  | lor =>
    have hlen1 := hlen.resolve_right (by simp [lenI])
    simp only [lenI] at hlen1
    subst hlen1
    simp only [okX] at hok
    simp only [stp, s2J] at hs
    split at hs
    · cases hs
      exact lv_lor hx hb hd (kk H locs ls hA hc hS hl)
    · cases hs
  | lxor =>
    have hlen1 := hlen.resolve_right (by simp [lenI])
    simp only [lenI] at hlen1
    subst hlen1
    simp only [okX] at hok
    simp only [stp, s2J] at hs
    split at hs
    · cases hs
      exact lv_lxor hx hb hd (kk H locs ls hA hc hS hl)
    · cases hs
  | ldiv =>
    have hlen1 := hlen.resolve_right (by simp [lenI])
    simp only [lenI] at hlen1
    subst hlen1
    simp only [okX] at hok
    simp only [stp, s2J] at hs
    split at hs
    · cases hs
      exact lv_ldiv hx hb hd hp.1 (kk H locs ls hA hc hS hl)
    · cases hs
  | lrem =>
    have hlen1 := hlen.resolve_right (by simp [lenI])
    simp only [lenI] at hlen1
    subst hlen1
    simp only [okX] at hok
    simp only [stp, s2J] at hs
    split at hs
    · cases hs
      exact lv_lrem hx hb hd hp.1 (kk H locs ls hA hc hS hl)
    · cases hs
  | lcmp =>
    have hlen1 := hlen.resolve_right (by simp [lenI])
    simp only [lenI] at hlen1
    subst hlen1
    simp only [okX] at hok
    simp only [stp, s2J] at hs
    split at hs
    · cases hs
      exact W.lcmp hx hb hd (kk H locs ls hA hc hS hl)
    · cases hs
  | lshl =>
    have hlen1 := hlen.resolve_right (by simp [lenI])
    simp only [lenI] at hlen1
    subst hlen1
    simp only [okX] at hok
    simp only [stp, sJI] at hs
    split at hs
    · cases hs
      exact lv_lshl hx hb hd rfl (kk H locs ls hA hc hS hl)
    · cases hs
  | lshr =>
    have hlen1 := hlen.resolve_right (by simp [lenI])
    simp only [lenI] at hlen1
    subst hlen1
    simp only [okX] at hok
    simp only [stp, sJI] at hs
    split at hs
    · cases hs
      exact lv_lshr hx hb hd rfl (kk H locs ls hA hc hS hl)
    · cases hs
  | lushr =>
    have hlen1 := hlen.resolve_right (by simp [lenI])
    simp only [lenI] at hlen1
    subst hlen1
    simp only [okX] at hok
    simp only [stp, sJI] at hs
    split at hs
    · cases hs
      exact lv_lushr hx hb hd rfl (kk H locs ls hA hc hS hl)
    · cases hs
  | iconst n =>
    have hlen1 := hlen.resolve_right (by simp [lenI])
    simp only [lenI] at hlen1
    subst hlen1
    simp only [okX] at hok
    simp only [stp] at hs
    cases hs
    exact lv_iconst hx hb hd (of_decide_eq_true hok) (kk H locs ls hA hc hS hl)
  | bipush n =>
    have hlen1 := hlen.resolve_right (by simp [lenI])
    simp only [lenI] at hlen1
    subst hlen1
    simp only [okX] at hok
    simp only [stp] at hs
    cases hs
    exact lv_bipush hx hb hd (of_decide_eq_true hok) (kk H locs ls hA hc hS hl)
  | sipush n =>
    have hlen1 := hlen.resolve_right (by simp [lenI])
    simp only [lenI] at hlen1
    subst hlen1
    simp only [okX] at hok
    simp only [stp] at hs
    cases hs
    exact lv_sipush hx hb hd (of_decide_eq_true hok) (kk H locs ls hA hc hS hl)
  | lconst n =>
    have hlen1 := hlen.resolve_right (by simp [lenI])
    simp only [lenI] at hlen1
    subst hlen1
    simp only [okX] at hok
    simp only [stp] at hs
    cases hs
    exact lv_lconst hx hb hd (of_decide_eq_true hok) (kk H locs ls hA hc hS hl)
  | ldc n =>
    have hlen1 := hlen.resolve_right (by simp [lenI])
    simp only [lenI] at hlen1
    subst hlen1
    simp only [okX] at hok
    simp only [stp] at hs
    cases hs
    exact lv_ldc hx hb hown (hts _ (tb_in (tb_I hok) rfl)) hd (kk H locs ls hA hc hS hl)
  | ldc_w n =>
    have hlen1 := hlen.resolve_right (by simp [lenI])
    simp only [lenI] at hlen1
    subst hlen1
    simp only [okX] at hok
    simp only [stp] at hs
    cases hs
    exact lv_ldcw hx hb hown (hts _ (tb_in (tb_I hok) rfl)) hd (kk H locs ls hA hc hS hl)
  | ldc2_w n =>
    have hlen1 := hlen.resolve_right (by simp [lenI])
    simp only [lenI] at hlen1
    subst hlen1
    simp only [okX] at hok
    simp only [stp] at hs
    cases hs
    exact lv_ldc2 hx hb hown (hts _ (tb_in (tb_I hok) rfl)) hd (kk H locs ls hA hc hS hl)
  | aconst_null =>
    have hlen1 := hlen.resolve_right (by simp [lenI])
    simp only [lenI] at hlen1
    subst hlen1
    simp only [okX] at hok
    simp only [stp] at hs
    cases hs
    exact lv_null hx hb hd (kk H locs ls hA hc hS hl)
  | iload n =>
    have hlen1 := hlen.resolve_right (by simp [lenI])
    simp only [lenI] at hlen1
    subst hlen1
    simp only [okX] at hok
    simp only [stp] at hs
    split at hs
    · rename_i x hv
      cases hs
      cases (of_decide_eq_true hok : n = a)
      exact lv_iload hx hb hd (hl.at (nth_get hv (fun _ z => by cases z)) rfl) (kk H locs ls hA hc hS hl)
    · cases hs
  | iload_n n =>
    have hlen1 := hlen.resolve_right (by simp [lenI])
    simp only [lenI] at hlen1
    subst hlen1
    simp only [okX] at hok
    simp only [stp] at hs
    split at hs
    · rename_i x hv
      cases hs
      exact lv_iload_n hx hb hd (of_decide_eq_true hok) (hl.at (nth_get hv (fun _ z => by cases z)) rfl) (kk H locs ls hA hc hS hl)
    · cases hs
  | lload n =>
    have hlen1 := hlen.resolve_right (by simp [lenI])
    simp only [lenI] at hlen1
    subst hlen1
    simp only [okX] at hok
    simp only [stp] at hs
    split at hs
    · rename_i x z hv hv2
      cases hbl : Nat.ble (a + 2) vs.length with
      | false => rw [hbl] at hs; cases hs
      | true =>
        rw [hbl] at hs
        cases hs
        cases (of_decide_eq_true hok : n = a)
        exact lv_lload hx hb hd (lv_long hl (Nat.le_of_ble_eq_true hbl) hv hv2) (kk H locs ls hA hc hS hl)
    · cases hs
  | lload_n n =>
    have hlen1 := hlen.resolve_right (by simp [lenI])
    simp only [lenI] at hlen1
    subst hlen1
    simp only [okX] at hok
    simp only [stp] at hs
    split at hs
    · rename_i x z hv hv2
      cases hbl : Nat.ble (a + 2) vs.length with
      | false => rw [hbl] at hs; cases hs
      | true =>
        rw [hbl] at hs
        cases hs
        exact lv_lload_n hx hb hd (of_decide_eq_true hok) (lv_long hl (Nat.le_of_ble_eq_true hbl) hv hv2) (kk H locs ls hA hc hS hl)
    · cases hs
  | aload n =>
    have hlen1 := hlen.resolve_right (by simp [lenI])
    simp only [lenI] at hlen1
    subst hlen1
    simp only [okX] at hok
    simp only [stp] at hs
    split at hs
    · rename_i x hv
      cases hs
      cases (of_decide_eq_true hok : n = a)
      exact lv_aload hx hb hd (hl.at (nth_get hv (fun _ z => by cases z)) rfl) (kk H locs ls hA hc hS hl)
    · rename_i hv
      cases hs
      cases (of_decide_eq_true hok : n = a)
      exact lv_aloadN hx hb hd (hl.at (nth_get hv (fun _ z => by cases z)) rfl) (kk H locs ls hA hc hS hl)
    · cases hs
  | aload_n n =>
    have hlen1 := hlen.resolve_right (by simp [lenI])
    simp only [lenI] at hlen1
    subst hlen1
    simp only [okX] at hok
    simp only [stp] at hs
    split at hs
    · rename_i x hv
      cases hs
      exact lv_aload_n hx hb hd (of_decide_eq_true hok) (hl.at (nth_get hv (fun _ z => by cases z)) rfl) (kk H locs ls hA hc hS hl)
    · rename_i hv
      cases hs
      exact lv_aload_nN hx hb hd (of_decide_eq_true hok) (hl.at (nth_get hv (fun _ z => by cases z)) rfl) (kk H locs ls hA hc hS hl)
    · cases hs
  | istore n =>
    have hlen1 := hlen.resolve_right (by simp [lenI])
    simp only [lenI] at hlen1
    subst hlen1
    simp only [okX] at hok
    simp only [stp] at hs
    split at hs
    · cases hbl : Nat.ble (a + 1) vs.length with
      | false => rw [hbl] at hs; cases hs
      | true =>
        rw [hbl] at hs
        cases hs
        have hi : a + 1 ≤ pL (tbl k) := by rw [← hl.1]; exact Nat.le_of_ble_eq_true hbl
        cases (of_decide_eq_true hok : n = a)
        exact lv_istore hx hb hd hl.2 hi rfl (fun ls' hl' => kk H locs ls' hA hc hS (lvOK.st1 hl.1 hi (fun _ z => by cases z) hl'))
    · cases hs
  | istore_n n =>
    have hlen1 := hlen.resolve_right (by simp [lenI])
    simp only [lenI] at hlen1
    subst hlen1
    simp only [okX] at hok
    simp only [stp] at hs
    split at hs
    · cases hbl : Nat.ble (a + 1) vs.length with
      | false => rw [hbl] at hs; cases hs
      | true =>
        rw [hbl] at hs
        cases hs
        have hi : a + 1 ≤ pL (tbl k) := by rw [← hl.1]; exact Nat.le_of_ble_eq_true hbl
        skip
        exact lv_istore_n hx hb hd (of_decide_eq_true hok) hl.2 hi rfl (fun ls' hl' => kk H locs ls' hA hc hS (lvOK.st1 hl.1 hi (fun _ z => by cases z) hl'))
    · cases hs
  | lstore n =>
    have hlen1 := hlen.resolve_right (by simp [lenI])
    simp only [lenI] at hlen1
    subst hlen1
    simp only [okX] at hok
    simp only [stp] at hs
    split at hs
    · cases hbl : Nat.ble (a + 2) vs.length with
      | false => rw [hbl] at hs; cases hs
      | true =>
        rw [hbl] at hs
        cases hs
        have hi : a + 2 ≤ pL (tbl k) := by rw [← hl.1]; exact Nat.le_of_ble_eq_true hbl
        cases (of_decide_eq_true hok : n = a)
        exact lv_lstore hx hb hd hl.2 hi rfl (fun ls' hl' => kk H locs ls' hA hc hS (lvOK.st2 hl.1 hi hl'))
    · cases hs
  | lstore_n n =>
    have hlen1 := hlen.resolve_right (by simp [lenI])
    simp only [lenI] at hlen1
    subst hlen1
    simp only [okX] at hok
    simp only [stp] at hs
    split at hs
    · cases hbl : Nat.ble (a + 2) vs.length with
      | false => rw [hbl] at hs; cases hs
      | true =>
        rw [hbl] at hs
        cases hs
        have hi : a + 2 ≤ pL (tbl k) := by rw [← hl.1]; exact Nat.le_of_ble_eq_true hbl
        skip
        exact lv_lstore_n hx hb hd (of_decide_eq_true hok) hl.2 hi rfl (fun ls' hl' => kk H locs ls' hA hc hS (lvOK.st2 hl.1 hi hl'))
    · cases hs
  | astore n =>
    have hlen1 := hlen.resolve_right (by simp [lenI])
    simp only [lenI] at hlen1
    subst hlen1
    simp only [okX] at hok
    simp only [stp] at hs
    split at hs
    · cases hbl : Nat.ble (a + 1) vs.length with
      | false => rw [hbl] at hs; cases hs
      | true =>
        rw [hbl] at hs
        cases hs
        have hi : a + 1 ≤ pL (tbl k) := by rw [← hl.1]; exact Nat.le_of_ble_eq_true hbl
        cases (of_decide_eq_true hok : n = a)
        exact lv_astore hx hb hd hl.2 hi rfl (fun ls' hl' => kk H locs ls' hA hc hS (lvOK.st1 hl.1 hi (fun _ z => by cases z) hl'))
    · cases hbl : Nat.ble (a + 1) vs.length with
      | false => rw [hbl] at hs; cases hs
      | true =>
        rw [hbl] at hs
        cases hs
        have hi : a + 1 ≤ pL (tbl k) := by rw [← hl.1]; exact Nat.le_of_ble_eq_true hbl
        cases (of_decide_eq_true hok : n = a)
        exact lv_astoreN hx hb hd hl.2 hi rfl (fun ls' hl' => kk H locs ls' hA hc hS (lvOK.st1 hl.1 hi (fun _ z => by cases z) hl'))
    · cases hs
  | astore_n n =>
    have hlen1 := hlen.resolve_right (by simp [lenI])
    simp only [lenI] at hlen1
    subst hlen1
    simp only [okX] at hok
    simp only [stp] at hs
    split at hs
    · cases hbl : Nat.ble (a + 1) vs.length with
      | false => rw [hbl] at hs; cases hs
      | true =>
        rw [hbl] at hs
        cases hs
        have hi : a + 1 ≤ pL (tbl k) := by rw [← hl.1]; exact Nat.le_of_ble_eq_true hbl
        skip
        exact lv_astore_n hx hb hd (of_decide_eq_true hok) hl.2 hi rfl (fun ls' hl' => kk H locs ls' hA hc hS (lvOK.st1 hl.1 hi (fun _ z => by cases z) hl'))
    · cases hbl : Nat.ble (a + 1) vs.length with
      | false => rw [hbl] at hs; cases hs
      | true =>
        rw [hbl] at hs
        cases hs
        have hi : a + 1 ≤ pL (tbl k) := by rw [← hl.1]; exact Nat.le_of_ble_eq_true hbl
        skip
        exact lv_astore_nN hx hb hd (of_decide_eq_true hok) hl.2 hi rfl (fun ls' hl' => kk H locs ls' hA hc hS (lvOK.st1 hl.1 hi (fun _ z => by cases z) hl'))
    · cases hs
  | iinc n z =>
    have hlen1 := hlen.resolve_right (by simp [lenI])
    simp only [lenI] at hlen1
    subst hlen1
    simp only [okX] at hok
    simp only [stp] at hs
    split at hs
    · rename_i x hv
      cases hs
      have hok1 : decide (n = a) = true ∧ decide (Int32.ofInt z = x0) = true := by simpa only [okX, Bool.and_eq_true] using hok
      have hg := nth_get hv (fun _ z => by cases z)
      have hi : a < pL (tbl k) := by rw [← hl.1]; exact (List.getElem?_eq_some_iff.mp hg).1
      obtain ⟨kx, hkx⟩ := List.getElem?_of_mem (mem_lvl.mpr ⟨hg, rfl⟩)
      cases (of_decide_eq_true hok1.1 : n = a)
      exact lv_iinc hx hb hd hl.2 hkx (by rw [of_decide_eq_true hok1.2]) hi rfl (fun ls' hl' => kk H locs ls' hA hc hS (lvOK.st1 hl.1 hi (fun _ z => by cases z) hl'))
    · cases hs
  | dup =>
    have hlen1 := hlen.resolve_right (by simp [lenI])
    simp only [lenI] at hlen1
    subst hlen1
    simp only [okX] at hok
    simp only [stp] at hs
    split at hs
    · cases hs
      exact lv_dup hx hb hd hp.1 (kk H locs ls hA hc hS hl)
    · cases hs
  | pop =>
    have hlen1 := hlen.resolve_right (by simp [lenI])
    simp only [lenI] at hlen1
    subst hlen1
    simp only [okX] at hok
    simp only [stp] at hs
    split at hs
    · cases hs
      exact lv_pop hx hb hd hp.1 (kk H locs ls hA hc hS hl)
    · cases hs
  | dup2 =>
    have hlen1 := hlen.resolve_right (by simp [lenI])
    simp only [lenI] at hlen1
    subst hlen1
    simp only [okX] at hok
    simp only [stp] at hs
    split at hs
    · cases hs
      exact lv_dup2_11 hx hb hd hp.1 hp.2.1 (kk H locs ls hA hc hS hl)
    · cases hs
      exact lv_dup2_2 hx hb hd hp.1 (kk H locs ls hA hc hS hl)
    · cases hs
  | pop2 =>
    have hlen1 := hlen.resolve_right (by simp [lenI])
    simp only [lenI] at hlen1
    subst hlen1
    simp only [okX] at hok
    simp only [stp] at hs
    split at hs
    · cases hs
      exact lv_pop2_11 hx hb hd hp.1 hp.2.1 (kk H locs ls hA hc hS hl)
    · cases hs
      exact lv_pop2_2 hx hb hd hp.1 (kk H locs ls hA hc hS hl)
    · cases hs
  | goto z =>
    have hlen1 := hlen.resolve_right (by simp [lenI])
    simp only [lenI] at hlen1
    subst hlen1
    simp only [okX] at hok
    simp only [stp] at hs
    cases hs
    exact lv_goto hx hb hd (of_decide_eq_true hok) (kk H locs ls hA hc hS hl)
  | getfield ix =>
    have hlen1 := hlen.resolve_right (by simp [lenI])
    simp only [lenI] at hlen1
    subst hlen1
    simp only [okX] at hok
    simp only [stp] at hs
    split at hs
    · rename_i q r
      refine getf_W X hd hok hA (q := q) (r := r) (ls := ls) (M := M) (a := a) (b := b) ?_ ?_
      · split at hs <;> (cases hs; exact hp.1)
      · split at hs
        · rename_i h3
          cases hs
          have e : fvl M q a b = .long (mJ M q b) := by unfold fvl; rw [h3]; rfl
          rw [e]
          exact (kk H locs ls hA hc hS hl)
        · rename_i h4
          cases hs
          have e : fvl M q a b = va_rf (mR M q b) := by unfold fvl; rw [h4]; rfl
          rw [e, hp.2.1]
          exact (kk H locs ls hA hc hS hl)
        · rename_i n3 n4
          cases hs
          have e : fvl M q a b = .int (mI M q b) := by
            unfold fvl
            split
            · exact absurd ‹_› n3
            · exact absurd ‹_› n4
            · rfl
          rw [e]
          exact (kk H locs ls hA hc hS hl)
    · cases hs
  | putfield ix =>
    have hlen1 := hlen.resolve_right (by simp [lenI])
    simp only [lenI] at hlen1
    subst hlen1
    simp only [okX] at hok
    have hok1 : fdI (pOwn (tbl k)) ix a b t = true ∧ fnI (pOwn (tbl k)) (iniP (tbl k)) a b = true := by simpa only [okX, Bool.and_eq_true] using hok
    have hfk : a < 13 ∧ b < clNn a := by
      obtain ⟨C, T, N, hz, hbN, hw⟩ := fd_I hok1.1
      exact ⟨zcl_lt hz, by rw [clNn_at hz]; exact hbN⟩
    have hfk2 := fk_at hfk.1 hfk.2
    unfold fkOK at hfk2
    simp only [stp] at hs
    split at hs
    · rename_i x q r hz
      rw [hz] at hfk2
      have hty := of_decide_eq_true hfk2
      cases hs
      exact putf_W (M' := sI M q b x) X hd hok1.1 hok1.2 hA hp.1 hS (by rw [hty]; rfl) (by rw [hty]; rfl) rfl (fun h1 h2 => eE_sI_o hp.1.2 h1 (by rw [hz]; decide)) (fun H' locs' hA' hS' => kk H' locs' ls hA' hc hS' hl)
    · rename_i x q r hz
      rw [hz] at hfk2
      have hty := of_decide_eq_true hfk2
      cases hs
      exact putf_W (M' := sI M q b x) X hd hok1.1 hok1.2 hA hp.1 hS (by rw [hty]; rcases hp.2.1 with z | z <;> (rw [z]; rfl)) (by rw [hty]; rcases hp.2.1 with z | z <;> (rw [z]; rfl)) rfl (fun h1 h2 => eE_sI_o hp.1.2 h1 (by rw [hz]; decide)) (fun H' locs' hA' hS' => kk H' locs' ls hA' hc hS' hl)
    · rename_i x q r hz
      rw [hz] at hfk2
      have hty := of_decide_eq_true hfk2
      cases hs
      exact putf_W (M' := sJ M q b x) X hd hok1.1 hok1.2 hA hp.1 hS (by rw [hty]; rfl) (by rw [hty]; rfl) rfl (fun h1 h2 => eE_sJ_o hp.1.2 h1 hz) (fun H' locs' hA' hS' => kk H' locs' ls hA' hc hS' hl)
    · rename_i x q r hz
      rw [hz] at hfk2
      cases hs
      have hn : narrow (zFy a b) (.ref x) = .ref x ∧ fits (zFy a b) (.ref x) = true := by
        revert hfk2
        cases zFy a b <;> intro h9 <;> first | (cases h9; done) | exact ⟨rfl, rfl⟩
      exact putf_W (M' := sR M q b (some x)) X hd hok1.1 hok1.2 hA hp.1 hS hn.1 hn.2 rfl (fun h1 h2 => eE_sR_o hp.1.2 h1 hz) (fun H' locs' hA' hS' => kk H' locs' ls hA' hc hS' hl)
    · rename_i q r hz
      rw [hz] at hfk2
      cases hs
      have hn : narrow (zFy a b) .null = .null ∧ fits (zFy a b) .null = true := by
        revert hfk2
        cases zFy a b <;> intro h9 <;> first | (cases h9; done) | exact ⟨rfl, rfl⟩
      exact putf_W (M' := sR M q b none) X hd hok1.1 hok1.2 hA hp.1 hS hn.1 hn.2 rfl (fun h1 h2 => eE_sR_o hp.1.2 h1 hz) (fun H' locs' hA' hS' => kk H' locs' ls hA' hc hS' hl)
    · cases hs
  | arraylength =>
    have hlen1 := hlen.resolve_right (by simp [lenI])
    simp only [lenI] at hlen1
    subst hlen1
    simp only [okX] at hok
    simp only [stp] at hs
    split at hs
    · rename_i q r
      split at hs
      · cases hs
        obtain ⟨hq, -⟩ := hp
        subst hq
        exact va_slen (A := zA B) (H0 := s.heap) hx hb (hXs (congrArg (fun z => z.1) hc) (congrArg (fun z => z.2.1) hc) (congrArg (fun z => z.2.2) hc)) (hbs (congrArg (fun z => z.1) hc)) (hbA (congrArg (fun z => z.1) hc)) hS hd (kk H locs ls hA hc hS hl)
      · cases hs
        obtain ⟨q0, h0⟩ := ob_get hA hp.1
        obtain ⟨ty, hty⟩ := tys_at (cy := cy) hp.2.1.1 hp.2.1.2
        have he : ∃ y, eE cy M q = .inl (cy a, mN M q, y) := by
          unfold eE
          rw [hp.1.2, if_neg (Nat.not_lt.mpr hp.2.1.1)]
          exact ⟨_, rfl⟩
        obtain ⟨y, he⟩ := he
        rw [he] at h0
        exact va_alen (D := D) hx hb hK hA.1 q0 (a - 13) h0 hty rfl hd (kk H locs ls hA hc hS hl)
    · cases hs
  | iaload =>
    have hlen1 := hlen.resolve_right (by simp [lenI])
    simp only [lenI] at hlen1
    subst hlen1
    simp only [okX] at hok
    simp only [stp] at hs
    split at hs
    · rename_i i q r
      split at hs
      · cases hs
        obtain ⟨hq, hin, -⟩ := hp
        subst hq
        exact va_sld (A := zA B) (H0 := s.heap) hx hb (hXs (congrArg (fun z => z.1) hc) (congrArg (fun z => z.2.1) hc) (congrArg (fun z => z.2.2) hc)) (hbs (congrArg (fun z => z.1) hc)) (hbA (congrArg (fun z => z.1) hc)) hS hin hd (kk H locs ls hA hc hS hl)
      · cases hs
        obtain ⟨q0, h0⟩ := ob_get hA hp.1
        rw [eE_int hp.1.2 (by omega)] at h0
        exact va_iald (D := D) hx hb hK hA.1 q0 2 h0 rfl hp.2.1 hd (kk H locs ls hA hc hS hl)
    · cases hs
  | baload =>
    have hlen1 := hlen.resolve_right (by simp [lenI])
    simp only [lenI] at hlen1
    subst hlen1
    simp only [okX] at hok
    simp only [stp] at hs
    split at hs
    · rename_i i q r
      cases hs
      obtain ⟨q0, h0⟩ := ob_get hA hp.1
      have h13 : a = 13 ∨ a = 14 := hp.2.1
      rw [eE_int hp.1.2 (by omega)] at h0
      rcases h13 with rfl | rfl
      · exact va_zald (D := D) hx hb hK hA.1 q0 0 h0 rfl hp.2.2.1 hd (kk H locs ls hA hc hS hl)
      · exact va_bald (D := D) hx hb hK hA.1 q0 1 h0 rfl hp.2.2.1 hd (kk H locs ls hA hc hS hl)
    · cases hs
  | laload =>
    have hlen1 := hlen.resolve_right (by simp [lenI])
    simp only [lenI] at hlen1
    subst hlen1
    simp only [okX] at hok
    simp only [stp] at hs
    split at hs
    · rename_i i q r
      cases hs
      obtain ⟨q0, h0⟩ := ob_get hA hp.1
      rw [eE_long hp.1.2] at h0
      exact va_lald (D := D) hx hb hK hA.1 q0 3 h0 rfl hp.2.1 hd (kk H locs ls hA hc hS hl)
    · cases hs
  | aaload =>
    have hlen1 := hlen.resolve_right (by simp [lenI])
    simp only [lenI] at hlen1
    subst hlen1
    simp only [okX] at hok
    simp only [stp] at hs
    split at hs
    · rename_i i q r
      cases hs
      obtain ⟨q0, h0⟩ := ob_get hA hp.1
      obtain ⟨rr, hty, -⟩ := tys_ref (cy := cy) hp.2.1.1 hp.2.1.2
      rw [eE_ref hp.1.2 hp.2.1.1] at h0
      refine va_aldq (D := D) hx hb hK hA.1 q0 (a - 13) h0 hty hp.2.2.1 hd ?_
      rw [hp.2.2.2.1]
      exact (kk H locs ls hA hc hS hl)
    · cases hs
  | iastore =>
    have hlen1 := hlen.resolve_right (by simp [lenI])
    simp only [lenI] at hlen1
    subst hlen1
    simp only [okX] at hok
    simp only [stp] at hs
    split at hs
    · rename_i x i q r
      cases hs
      obtain ⟨q0, h0⟩ := ob_get hA hp.1
      have h1 := h0
      rw [eE_int hp.1.2 (by omega)] at h1
      exact va_iast (D := D) hx hb hK hA.1 hA.2 hS q0 2 h1 rfl hp.2.1 hd (fun H1 locs1 hP hD hS1 => kk H1 locs1 ls (hA.set hp.1.1 rfl (eE_sI_a hp.1.2 (by omega)) h0 hP hD) hc hS1 hl)
    · cases hs
  | bastore =>
    have hlen1 := hlen.resolve_right (by simp [lenI])
    simp only [lenI] at hlen1
    subst hlen1
    simp only [okX] at hok
    simp only [stp] at hs
    split at hs
    · rename_i x i q r
      cases hs
      obtain ⟨q0, h0⟩ := ob_get hA hp.1
      have h1 := h0
      rw [eE_int hp.1.2 (by omega)] at h1
      exact va_zast (D := D) hx hb hK hA.1 hA.2 hS q0 0 h1 rfl hp.2.1 hd (fun H1 locs1 hP hD hS1 => kk H1 locs1 ls (hA.set hp.1.1 rfl (eE_sI_a hp.1.2 (by omega)) h0 hP hD) hc hS1 hl)
    · rename_i x i q r
      cases hs
      obtain ⟨q0, h0⟩ := ob_get hA hp.1
      have h1 := h0
      rw [eE_int hp.1.2 (by omega)] at h1
      exact va_bast (D := D) hx hb hK hA.1 hA.2 hS q0 1 h1 rfl hp.2.1 hd (fun H1 locs1 hP hD hS1 => kk H1 locs1 ls (hA.set hp.1.1 rfl (eE_sI_a hp.1.2 (by omega)) h0 hP hD) hc hS1 hl)
    · cases hs
  | lastore =>
    have hlen1 := hlen.resolve_right (by simp [lenI])
    simp only [lenI] at hlen1
    subst hlen1
    simp only [okX] at hok
    simp only [stp] at hs
    split at hs
    · rename_i x i q r
      cases hs
      obtain ⟨q0, h0⟩ := ob_get hA hp.1
      have h1 := h0
      rw [eE_long hp.1.2] at h1
      exact va_last (D := D) hx hb hK hA.1 hA.2 hS q0 3 h1 rfl hp.2.1 hd (fun H1 locs1 hP hD hS1 => kk H1 locs1 ls (hA.set hp.1.1 rfl (eE_sJ_a hp.1.2) h0 hP hD) hc hS1 hl)
    · cases hs
  | aastore =>
    have hlen1 := hlen.resolve_right (by simp [lenI])
    simp only [lenI] at hlen1
    subst hlen1
    simp only [okX] at hok
    simp only [stp] at hs
    split at hs
    · rename_i x i q r
      cases hs
      obtain ⟨q0, h0⟩ := ob_get hA hp.1
      obtain ⟨qk, hk⟩ := ob_get hA hp.2.2.1
      obtain ⟨rr, hty, hzr, -⟩ := tys_ref (cy := cy) hp.2.1.1 hp.2.1.2
      have h1 := h0
      rw [eE_ref hp.1.2 hp.2.1.1] at h1
      rw [eE_obj hp.2.2.1.2 (zcl_lt hzr)] at hk
      exact va_astq (D := D) hx hb hK hA.1 hA.2 hS q0 (a - 13) qk (zaI.getD (a - 17) 0) h1 hty hk hzr hp.2.2.2.1 hd (fun H1 locs1 hP hD hS1 => kk H1 locs1 ls (hA.set hp.1.1 rfl (eE_sR_a hp.1.2 hp.2.1.1) h0 hP hD) hc hS1 hl)
    · rename_i i q r
      cases hs
      obtain ⟨q0, h0⟩ := ob_get hA hp.1
      obtain ⟨rr, hty, hzr, -⟩ := tys_ref (cy := cy) hp.2.1.1 hp.2.1.2
      have h1 := h0
      rw [eE_ref hp.1.2 hp.2.1.1] at h1
      exact va_astqN (D := D) hx hb hK hA.1 hA.2 hS q0 (a - 13) h1 hty hp.2.2.1 hd (fun H1 locs1 hP hD hS1 => kk H1 locs1 ls (hA.set hp.1.1 rfl (eE_sR_a hp.1.2 hp.2.1.1) h0 hP hD) hc hS1 hl)
    · cases hs
  | _ => cases hs
end STP
