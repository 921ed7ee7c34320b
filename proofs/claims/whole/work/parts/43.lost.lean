/-! calls: lost, kept -/
def lm : Nat → Int32
  | 0 => -1
  | m + 1 => nI m
theorem lm_dec (m : Nat) : nI m + (-1) = lm m := by
  cases m with
  | zero => rfl
  | succ m => exact pk_m1 m
theorem lm_sub (m : Nat) : nI m - 1 = lm m := by
  cases m with
  | zero => rfl
  | succ m => exact nI_pred m
/-- the entry next ahead, next behind, of the same cottage -/
def pvE (co : Nat → Int32) (e : Nat) : Nat → Option Nat
  | 0 => none
  | m + 1 => if co m = co e then some m else pvE co e m
def nxE (co : Nat → Int32) (e : Nat) : Nat → Nat → Option Nat
  | _, 0 => none
  | i, m + 1 => if co i = co e then some i else nxE co e (i + 1) m
def oV (o : Option Nat) (lk : Nat → Int32) : Int32 := match o with
  | some i => lk i
  | none => -1
theorem pvE_lt {co : Nat → Int32} {e : Nat} : ∀ {m i : Nat}, pvE co e m = some i → i < m
  | 0, _, h => by cases h
  | m + 1, i, h => by
    rw [pvE] at h
    split at h
    · cases h; omega
    · have := pvE_lt h; omega
theorem nxE_lt {co : Nat → Int32} {e : Nat} : ∀ {m s i : Nat}, nxE co e s m = some i → i < s + m
  | 0, _, _, h => by cases h
  | m + 1, s, i, h => by
    rw [nxE] at h
    split at h
    · cases h; omega
    · have := nxE_lt h; omega
theorem pvE_congr {co co' : Nat → Int32} {e : Nat} (he : co e = co' e) : ∀ {m : Nat}, (∀ i, i < m → co i = co' i) → pvE co e m = pvE co' e m
  | 0, _ => rfl
  | m + 1, h => by rw [pvE, pvE, pvE_congr he (fun i hi => h i (by omega)), h m (by omega), he]
theorem nxE_congr {co co' : Nat → Int32} {e : Nat} (he : co e = co' e) : ∀ {m s : Nat}, (∀ i, s ≤ i → i < s + m → co i = co' i) → nxE co e s m = nxE co' e s m
  | 0, _, _ => rfl
  | m + 1, s, h => by rw [nxE, nxE, nxE_congr he (fun i h1 h2 => h i (by omega) (by omega)), h s (by omega) (by omega), he]
def mx0 (x : Int32) : Int32 := if (0 : Int32) < x then x else 0
/-- what was lost, in the model's words: cottages co, bookings eb, things tg of the entries -/
def lsV (co eb tg : Nat → Int32) (ne e th : Nat) : Int32 := match pvE co e e, nxE co e (e + 1) (ne - (e + 1)) with
  | some a, some b => if eb a = -1 ∧ eb b = -1 then mx0 (tg (3 * a + th) - tg (3 * b + th)) else -1
  | _, _ => -1

set_option maxRecDepth 100000 in
theorem lp_Bs_lookAhead {d : Nat} {M : Mem} {f : Nat → Nat → Int32} {g : Nat → Nat → Int64} {ad : Nat → Nat → Nat} {R : Option Value → Mem → Prop} {e ne : Nat} (hd : 0 ≤ d) (hF : Fx M ad) (he : e < ne) (hl : ne ≤ 120) (hn : f (ad 0 9) 2 = nI ne) : ∀ m, m ≤ e → (R (some (.int (oV (pvE (f (ad 0 32)) e m) (f (ad 0 33))))) (mm M f g)) → Go d 16 0 0 4 [.ref (ad 0 9), .int (nI e), .int (lm m)] [] (mm M f g) R := by
  intro m
  induction m with
  | zero =>
    intro hm hR
    show Go d 16 0 0 4 [.ref (ad 0 9), .int (nI e), .int (-1)] [] (mm M f g) R
    refine go_blk 1 [] (pc' := 5) (vs' := [.ref (ad 0 9), .int (nI e), .int (-1)]) (st' := [.int (-1)]) (M' := mm M f g) (ps := []) rfl trivial ?_
    refine go_if rfl (fun _ => ?_) (fun (z : ¬ (((-1) : Int32) < 0)) => absurd (show ((-1) : Int32) < 0 from (by decide)) z)
    refine go_blk 1 [] (pc' := 37) (vs' := [.ref (ad 0 9), .int (nI e), .int (-1)]) (st' := [.int (-1)]) (M' := mm M f g) (ps := []) rfl trivial ?_
    refine go_iret rfl rfl ?_
    exact hR
  | succ m ih =>
    intro hm hR
    show Go d 16 0 0 4 [.ref (ad 0 9), .int (nI e), .int (nI m)] [] (mm M f g) R
    refine go_blk 1 [] (pc' := 5) (vs' := [.ref (ad 0 9), .int (nI e), .int (nI m)]) (st' := [.int (nI m)]) (M' := mm M f g) (ps := []) rfl trivial ?_
    refine go_if rfl (fun (z : (nI m) < 0) => absurd z (show ¬ ((nI m) < 0) from (nI_nlt0 (by omega)))) (fun _ => ?_)
    refine go_blk 8 [some (.ref (ad 0 32)), some (.int (f (ad 0 32) m)), some (.ref (ad 0 32)), some (.int (f (ad 0 32) e))] (pc' := 20) (vs' := [.ref (ad 0 9), .int (nI e), .int (nI m)]) (st' := [.int (f (ad 0 32) e), .int (f (ad 0 32) m)]) (M' := mm M f g) (ps := [ob (mm M f g) (ad 0 9) 1, mR (mm M f g) (ad 0 9) 0 = some (ad 0 32), va_rf (some (ad 0 32)) = .ref (ad 0 32), ob (mm M f g) (ad 0 32) 15, vp_in (nI m) (mN (mm M f g) (ad 0 32)), (Value.int (f (ad 0 32) ((nI m).toNatClampNeg))) = .int (f (ad 0 32) m), ob (mm M f g) (ad 0 9) 1, mR (mm M f g) (ad 0 9) 0 = some (ad 0 32), va_rf (some (ad 0 32)) = .ref (ad 0 32), ob (mm M f g) (ad 0 32) 15, vp_in (nI e) (mN (mm M f g) (ad 0 32)), (Value.int (f (ad 0 32) ((nI e).toNatClampNeg))) = .int (f (ad 0 32) e)]) rfl ⟨(hF.o 9), (hF.r 9 0 32), rfl, (hF.o 32), (vpi (hF.n 32) (show _ < 120 by omega)), congrArg (fun z => Value.int (f (ad 0 32) z)) (nI_clamp (by omega)), (hF.o 9), (hF.r 9 0 32), rfl, (hF.o 32), (vpi (hF.n 32) (show _ < 120 by omega)), congrArg (fun z => Value.int (f (ad 0 32) z)) (nI_clamp (by omega)), trivial⟩ ?_
    refine go_icmp rfl (fun (c1 : ¬ (f (ad 0 32) m) = f (ad 0 32) e) => ?_) (fun (c1 : ¬ (¬ (f (ad 0 32) m) = f (ad 0 32) e)) => ?_)
    · -- ¬ (f (ad 0 32) m) = f (ad 0 32) e
      refine go_blk 2 [] (pc' := 4) (vs' := [.ref (ad 0 9), .int (nI e), .int ((nI m) + (-1))]) (st' := []) (M' := mm M f g) (ps := []) rfl trivial ?_
      rw [lm_dec m]
      exact ih (by omega) (by have hq := hR; rw [pvE, if_neg (by first | assumption | grind)] at hq; exact hq)
    · -- ¬ (¬ (f (ad 0 32) m) = f (ad 0 32) e)
      refine go_blk 4 [some (.ref (ad 0 33)), some (.int (f (ad 0 33) m))] (pc' := 29) (vs' := [.ref (ad 0 9), .int (nI e), .int (nI m)]) (st' := [.int (f (ad 0 33) m)]) (M' := mm M f g) (ps := [ob (mm M f g) (ad 0 9) 1, mR (mm M f g) (ad 0 9) 1 = some (ad 0 33), va_rf (some (ad 0 33)) = .ref (ad 0 33), ob (mm M f g) (ad 0 33) 15, vp_in (nI m) (mN (mm M f g) (ad 0 33)), (Value.int (f (ad 0 33) ((nI m).toNatClampNeg))) = .int (f (ad 0 33) m)]) rfl ⟨(hF.o 9), (hF.r 9 1 33), rfl, (hF.o 33), (vpi (hF.n 33) (show _ < 120 by omega)), congrArg (fun z => Value.int (f (ad 0 33) z)) (nI_clamp (by omega)), trivial⟩ ?_
      refine go_iret rfl rfl ?_
      exact (by have hq := hR; rw [pvE, if_pos (by first | assumption | grind)] at hq; exact hq)

set_option maxRecDepth 100000 in
theorem lp_Mo_besideD {d : Nat} {M : Mem} {f : Nat → Nat → Int32} {g : Nat → Nat → Int64} {ad : Nat → Nat → Nat} {R : Option Value → Mem → Prop} {e ne : Nat} (hd : 0 ≤ d) (hM : Mx M ad) (he : e < ne) (hl : ne ≤ 120) (hn : f (ad 10 0) 95 = nI ne) : ∀ m, m ≤ e → (R (some (.int (oV (pvE (f (ad 9 91)) e m) nI))) (mm M f g)) → Go d 263 0 0 4 [.ref (ad 10 0), .int (nI e), .int (-1), .int (lm m)] [] (mm M f g) R := by
  intro m
  induction m with
  | zero =>
    intro hm hR
    show Go d 263 0 0 4 [.ref (ad 10 0), .int (nI e), .int (-1), .int (-1)] [] (mm M f g) R
    refine go_blk 1 [] (pc' := 5) (vs' := [.ref (ad 10 0), .int (nI e), .int (-1), .int (-1)]) (st' := [.int (-1)]) (M' := mm M f g) (ps := []) rfl trivial ?_
    refine go_if rfl (fun _ => ?_) (fun (z : ¬ (((-1) : Int32) < 0)) => absurd (show ((-1) : Int32) < 0 from (by decide)) z)
    refine go_blk 1 [] (pc' := 39) (vs' := [.ref (ad 10 0), .int (nI e), .int (-1), .int (-1)]) (st' := [.int (-1)]) (M' := mm M f g) (ps := []) rfl trivial ?_
    refine go_if rfl (fun _ => ?_) (fun (z : ¬ (((-1) : Int32) < 0)) => absurd (show ((-1) : Int32) < 0 from (by decide)) z)
    refine go_blk 1 [] (pc' := 55) (vs' := [.ref (ad 10 0), .int (nI e), .int (-1), .int (-1)]) (st' := [.int (-1)]) (M' := mm M f g) (ps := []) rfl trivial ?_
    refine go_iret rfl rfl ?_
    exact hR
  | succ m ih =>
    intro hm hR
    show Go d 263 0 0 4 [.ref (ad 10 0), .int (nI e), .int (-1), .int (nI m)] [] (mm M f g) R
    refine go_blk 1 [] (pc' := 5) (vs' := [.ref (ad 10 0), .int (nI e), .int (-1), .int (nI m)]) (st' := [.int (nI m)]) (M' := mm M f g) (ps := []) rfl trivial ?_
    refine go_if rfl (fun (z : (nI m) < 0) => absurd z (show ¬ ((nI m) < 0) from (nI_nlt0 (by omega)))) (fun _ => ?_)
    refine go_blk 3 [some (.int (nI ne))] (pc' := 13) (vs' := [.ref (ad 10 0), .int (nI e), .int (-1), .int (nI m)]) (st' := [.int (nI ne), .int (nI m)]) (M' := mm M f g) (ps := [ob (mm M f g) (ad 10 0) 12, (Value.int (f (ad 10 0) 95)) = .int (nI ne)]) rfl ⟨hM.1, congrArg Value.int hn, trivial⟩ ?_
    refine go_icmp rfl (fun (z : nI ne ≤ (nI m)) => absurd z (show ¬ (nI ne ≤ (nI m)) from (Int32.not_le.mpr ((nI_lts (by omega) (by omega)).mpr (by omega))))) (fun _ => ?_)
    refine go_blk 8 [some (.ref (ad 9 91)), some (.int (f (ad 9 91) m)), some (.ref (ad 9 91)), some (.int (f (ad 9 91) e))] (pc' := 28) (vs' := [.ref (ad 10 0), .int (nI e), .int (-1), .int (nI m)]) (st' := [.int (f (ad 9 91) e), .int (f (ad 9 91) m)]) (M' := mm M f g) (ps := [ob (mm M f g) (ad 10 0) 12, mR (mm M f g) (ad 10 0) 91 = some (ad 9 91), va_rf (some (ad 9 91)) = .ref (ad 9 91), ob (mm M f g) (ad 9 91) 15, vp_in (nI m) (mN (mm M f g) (ad 9 91)), (Value.int (f (ad 9 91) ((nI m).toNatClampNeg))) = .int (f (ad 9 91) m), ob (mm M f g) (ad 10 0) 12, mR (mm M f g) (ad 10 0) 91 = some (ad 9 91), va_rf (some (ad 9 91)) = .ref (ad 9 91), ob (mm M f g) (ad 9 91) 15, vp_in (nI e) (mN (mm M f g) (ad 9 91)), (Value.int (f (ad 9 91) ((nI e).toNatClampNeg))) = .int (f (ad 9 91) e)]) rfl ⟨hM.1, (hM.r 91 15 600), rfl, (hM.o 91 15 600), (vpi (hM.n 91 15 600) (by omega)), congrArg (fun z => Value.int (f (ad 9 91) z)) (nI_clamp (by omega)), hM.1, (hM.r 91 15 600), rfl, (hM.o 91 15 600), (vpi (hM.n 91 15 600) (by omega)), congrArg (fun z => Value.int (f (ad 9 91) z)) (nI_clamp (by omega)), trivial⟩ ?_
    refine go_icmp rfl (fun (c1 : (f (ad 9 91) m) = f (ad 9 91) e) => ?_) (fun (c1 : ¬ ((f (ad 9 91) m) = f (ad 9 91) e)) => ?_)
    · -- (f (ad 9 91) m) = f (ad 9 91) e
      refine go_blk 1 [] (pc' := 39) (vs' := [.ref (ad 10 0), .int (nI e), .int (-1), .int (nI m)]) (st' := [.int (nI m)]) (M' := mm M f g) (ps := []) rfl trivial ?_
      refine go_if rfl (fun (z : (nI m) < 0) => absurd z (show ¬ ((nI m) < 0) from (nI_nlt0 (by omega)))) (fun _ => ?_)
      refine go_blk 3 [some (.int (nI ne))] (pc' := 47) (vs' := [.ref (ad 10 0), .int (nI e), .int (-1), .int (nI m)]) (st' := [.int (nI ne), .int (nI m)]) (M' := mm M f g) (ps := [ob (mm M f g) (ad 10 0) 12, (Value.int (f (ad 10 0) 95)) = .int (nI ne)]) rfl ⟨hM.1, congrArg Value.int hn, trivial⟩ ?_
      refine go_icmp rfl (fun (z : nI ne ≤ (nI m)) => absurd z (show ¬ (nI ne ≤ (nI m)) from (Int32.not_le.mpr ((nI_lts (by omega) (by omega)).mpr (by omega))))) (fun _ => ?_)
      refine go_blk 2 [] (pc' := 55) (vs' := [.ref (ad 10 0), .int (nI e), .int (-1), .int (nI m)]) (st' := [.int (nI m)]) (M' := mm M f g) (ps := []) rfl trivial ?_
      refine go_iret rfl rfl ?_
      exact (by have hq := hR; rw [pvE, if_pos (by first | assumption | grind)] at hq; exact hq)
    · -- ¬ ((f (ad 9 91) m) = f (ad 9 91) e)
      refine go_blk 5 [] (pc' := 4) (vs' := [.ref (ad 10 0), .int (nI e), .int (-1), .int ((nI m) + (-1))]) (st' := []) (M' := mm M f g) (ps := []) rfl trivial ?_
      rw [lm_dec m]
      exact ih (by omega) (by have hq := hR; rw [pvE, if_neg (by first | assumption | grind)] at hq; exact hq)

set_option maxRecDepth 100000 in
theorem lp_Bs_lookBehind {d : Nat} {M : Mem} {f : Nat → Nat → Int32} {g : Nat → Nat → Int64} {ad : Nat → Nat → Nat} {R : Option Value → Mem → Prop} {e ne : Nat} (hd : 0 ≤ d) (hF : Fx M ad) (he : e < ne) (hl : ne ≤ 120) (hn : f (ad 0 9) 2 = nI ne) : ∀ m i, i + m = ne → (R (some (.int (oV (nxE (f (ad 0 32)) e i m) (f (ad 0 33))))) (mm M f g)) → Go d 17 0 0 4 [.ref (ad 0 9), .int (nI e), .int (nI i)] [] (mm M f g) R := by
  intro m
  induction m with
  | zero =>
    intro i hm hR
    obtain rfl : i = ne := by omega
    show Go d 17 0 0 4 [.ref (ad 0 9), .int (nI e), .int (nI i)] [] (mm M f g) R
    refine go_blk 3 [some (.int (nI i))] (pc' := 9) (vs' := [.ref (ad 0 9), .int (nI e), .int (nI i)]) (st' := [.int (nI i), .int (nI i)]) (M' := mm M f g) (ps := [ob (mm M f g) (ad 0 9) 1, (Value.int (f (ad 0 9) 2)) = .int (nI i)]) rfl ⟨(hF.o 9), congrArg Value.int hn, trivial⟩ ?_
    refine go_icmp rfl (fun _ => ?_) (fun (z : ¬ (nI i ≤ (nI i))) => absurd (show nI i ≤ (nI i) from Int32.le_refl _) z)
    refine go_blk 1 [] (pc' := 41) (vs' := [.ref (ad 0 9), .int (nI e), .int (nI i)]) (st' := [.int (-1)]) (M' := mm M f g) (ps := []) rfl trivial ?_
    refine go_iret rfl rfl ?_
    exact hR
  | succ m ih =>
    intro i hm hR
    show Go d 17 0 0 4 [.ref (ad 0 9), .int (nI e), .int (nI i)] [] (mm M f g) R
    refine go_blk 3 [some (.int (nI ne))] (pc' := 9) (vs' := [.ref (ad 0 9), .int (nI e), .int (nI i)]) (st' := [.int (nI ne), .int (nI i)]) (M' := mm M f g) (ps := [ob (mm M f g) (ad 0 9) 1, (Value.int (f (ad 0 9) 2)) = .int (nI ne)]) rfl ⟨(hF.o 9), congrArg Value.int hn, trivial⟩ ?_
    refine go_icmp rfl (fun (z : nI ne ≤ (nI i)) => absurd z (show ¬ (nI ne ≤ (nI i)) from (Int32.not_le.mpr ((nI_lts (by omega) (by omega)).mpr (by omega))))) (fun _ => ?_)
    refine go_blk 8 [some (.ref (ad 0 32)), some (.int (f (ad 0 32) i)), some (.ref (ad 0 32)), some (.int (f (ad 0 32) e))] (pc' := 24) (vs' := [.ref (ad 0 9), .int (nI e), .int (nI i)]) (st' := [.int (f (ad 0 32) e), .int (f (ad 0 32) i)]) (M' := mm M f g) (ps := [ob (mm M f g) (ad 0 9) 1, mR (mm M f g) (ad 0 9) 0 = some (ad 0 32), va_rf (some (ad 0 32)) = .ref (ad 0 32), ob (mm M f g) (ad 0 32) 15, vp_in (nI i) (mN (mm M f g) (ad 0 32)), (Value.int (f (ad 0 32) ((nI i).toNatClampNeg))) = .int (f (ad 0 32) i), ob (mm M f g) (ad 0 9) 1, mR (mm M f g) (ad 0 9) 0 = some (ad 0 32), va_rf (some (ad 0 32)) = .ref (ad 0 32), ob (mm M f g) (ad 0 32) 15, vp_in (nI e) (mN (mm M f g) (ad 0 32)), (Value.int (f (ad 0 32) ((nI e).toNatClampNeg))) = .int (f (ad 0 32) e)]) rfl ⟨(hF.o 9), (hF.r 9 0 32), rfl, (hF.o 32), (vpi (hF.n 32) (show _ < 120 by omega)), congrArg (fun z => Value.int (f (ad 0 32) z)) (nI_clamp (by omega)), (hF.o 9), (hF.r 9 0 32), rfl, (hF.o 32), (vpi (hF.n 32) (show _ < 120 by omega)), congrArg (fun z => Value.int (f (ad 0 32) z)) (nI_clamp (by omega)), trivial⟩ ?_
    refine go_icmp rfl (fun (c1 : ¬ (f (ad 0 32) i) = f (ad 0 32) e) => ?_) (fun (c1 : ¬ (¬ (f (ad 0 32) i) = f (ad 0 32) e)) => ?_)
    · -- ¬ (f (ad 0 32) i) = f (ad 0 32) e
      refine go_blk 2 [] (pc' := 4) (vs' := [.ref (ad 0 9), .int (nI e), .int ((nI i) + 1)]) (st' := []) (M' := mm M f g) (ps := []) rfl trivial ?_
      rw [show nI i + 1 = nI (i + 1) from nI_add i 1]
      exact ih (i + 1) (by omega) (by have hq := hR; rw [nxE, if_neg (by first | assumption | grind)] at hq; exact hq)
    · -- ¬ (¬ (f (ad 0 32) i) = f (ad 0 32) e)
      refine go_blk 4 [some (.ref (ad 0 33)), some (.int (f (ad 0 33) i))] (pc' := 33) (vs' := [.ref (ad 0 9), .int (nI e), .int (nI i)]) (st' := [.int (f (ad 0 33) i)]) (M' := mm M f g) (ps := [ob (mm M f g) (ad 0 9) 1, mR (mm M f g) (ad 0 9) 1 = some (ad 0 33), va_rf (some (ad 0 33)) = .ref (ad 0 33), ob (mm M f g) (ad 0 33) 15, vp_in (nI i) (mN (mm M f g) (ad 0 33)), (Value.int (f (ad 0 33) ((nI i).toNatClampNeg))) = .int (f (ad 0 33) i)]) rfl ⟨(hF.o 9), (hF.r 9 1 33), rfl, (hF.o 33), (vpi (hF.n 33) (show _ < 120 by omega)), congrArg (fun z => Value.int (f (ad 0 33) z)) (nI_clamp (by omega)), trivial⟩ ?_
      refine go_iret rfl rfl ?_
      exact (by have hq := hR; rw [nxE, if_pos (by first | assumption | grind)] at hq; exact hq)

set_option maxRecDepth 100000 in
theorem lp_Mo_besideU {d : Nat} {M : Mem} {f : Nat → Nat → Int32} {g : Nat → Nat → Int64} {ad : Nat → Nat → Nat} {R : Option Value → Mem → Prop} {e ne : Nat} (hd : 0 ≤ d) (hM : Mx M ad) (he : e < ne) (hl : ne ≤ 120) (hn : f (ad 10 0) 95 = nI ne) : ∀ m i, i + m = ne → (R (some (.int (oV (nxE (f (ad 9 91)) e i m) nI))) (mm M f g)) → Go d 263 0 0 4 [.ref (ad 10 0), .int (nI e), .int 1, .int (nI i)] [] (mm M f g) R := by
  intro m
  induction m with
  | zero =>
    intro i hm hR
    obtain rfl : i = ne := by omega
    show Go d 263 0 0 4 [.ref (ad 10 0), .int (nI e), .int 1, .int (nI i)] [] (mm M f g) R
    refine go_blk 1 [] (pc' := 5) (vs' := [.ref (ad 10 0), .int (nI e), .int 1, .int (nI i)]) (st' := [.int (nI i)]) (M' := mm M f g) (ps := []) rfl trivial ?_
    refine go_if rfl (fun (z : (nI i) < 0) => absurd z (show ¬ ((nI i) < 0) from (nI_nlt0 (by omega)))) (fun _ => ?_)
    refine go_blk 3 [some (.int (nI i))] (pc' := 13) (vs' := [.ref (ad 10 0), .int (nI e), .int 1, .int (nI i)]) (st' := [.int (nI i), .int (nI i)]) (M' := mm M f g) (ps := [ob (mm M f g) (ad 10 0) 12, (Value.int (f (ad 10 0) 95)) = .int (nI i)]) rfl ⟨hM.1, congrArg Value.int hn, trivial⟩ ?_
    refine go_icmp rfl (fun _ => ?_) (fun (z : ¬ (nI i ≤ (nI i))) => absurd (show nI i ≤ (nI i) from Int32.le_refl _) z)
    refine go_blk 1 [] (pc' := 39) (vs' := [.ref (ad 10 0), .int (nI e), .int 1, .int (nI i)]) (st' := [.int (nI i)]) (M' := mm M f g) (ps := []) rfl trivial ?_
    refine go_if rfl (fun (z : (nI i) < 0) => absurd z (show ¬ ((nI i) < 0) from (nI_nlt0 (by omega)))) (fun _ => ?_)
    refine go_blk 3 [some (.int (nI i))] (pc' := 47) (vs' := [.ref (ad 10 0), .int (nI e), .int 1, .int (nI i)]) (st' := [.int (nI i), .int (nI i)]) (M' := mm M f g) (ps := [ob (mm M f g) (ad 10 0) 12, (Value.int (f (ad 10 0) 95)) = .int (nI i)]) rfl ⟨hM.1, congrArg Value.int hn, trivial⟩ ?_
    refine go_icmp rfl (fun _ => ?_) (fun (z : ¬ (nI i ≤ (nI i))) => absurd (show nI i ≤ (nI i) from Int32.le_refl _) z)
    refine go_blk 1 [] (pc' := 55) (vs' := [.ref (ad 10 0), .int (nI e), .int 1, .int (nI i)]) (st' := [.int (-1)]) (M' := mm M f g) (ps := []) rfl trivial ?_
    refine go_iret rfl rfl ?_
    exact hR
  | succ m ih =>
    intro i hm hR
    show Go d 263 0 0 4 [.ref (ad 10 0), .int (nI e), .int 1, .int (nI i)] [] (mm M f g) R
    refine go_blk 1 [] (pc' := 5) (vs' := [.ref (ad 10 0), .int (nI e), .int 1, .int (nI i)]) (st' := [.int (nI i)]) (M' := mm M f g) (ps := []) rfl trivial ?_
    refine go_if rfl (fun (z : (nI i) < 0) => absurd z (show ¬ ((nI i) < 0) from (nI_nlt0 (by omega)))) (fun _ => ?_)
    refine go_blk 3 [some (.int (nI ne))] (pc' := 13) (vs' := [.ref (ad 10 0), .int (nI e), .int 1, .int (nI i)]) (st' := [.int (nI ne), .int (nI i)]) (M' := mm M f g) (ps := [ob (mm M f g) (ad 10 0) 12, (Value.int (f (ad 10 0) 95)) = .int (nI ne)]) rfl ⟨hM.1, congrArg Value.int hn, trivial⟩ ?_
    refine go_icmp rfl (fun (z : nI ne ≤ (nI i)) => absurd z (show ¬ (nI ne ≤ (nI i)) from (Int32.not_le.mpr ((nI_lts (by omega) (by omega)).mpr (by omega))))) (fun _ => ?_)
    refine go_blk 8 [some (.ref (ad 9 91)), some (.int (f (ad 9 91) i)), some (.ref (ad 9 91)), some (.int (f (ad 9 91) e))] (pc' := 28) (vs' := [.ref (ad 10 0), .int (nI e), .int 1, .int (nI i)]) (st' := [.int (f (ad 9 91) e), .int (f (ad 9 91) i)]) (M' := mm M f g) (ps := [ob (mm M f g) (ad 10 0) 12, mR (mm M f g) (ad 10 0) 91 = some (ad 9 91), va_rf (some (ad 9 91)) = .ref (ad 9 91), ob (mm M f g) (ad 9 91) 15, vp_in (nI i) (mN (mm M f g) (ad 9 91)), (Value.int (f (ad 9 91) ((nI i).toNatClampNeg))) = .int (f (ad 9 91) i), ob (mm M f g) (ad 10 0) 12, mR (mm M f g) (ad 10 0) 91 = some (ad 9 91), va_rf (some (ad 9 91)) = .ref (ad 9 91), ob (mm M f g) (ad 9 91) 15, vp_in (nI e) (mN (mm M f g) (ad 9 91)), (Value.int (f (ad 9 91) ((nI e).toNatClampNeg))) = .int (f (ad 9 91) e)]) rfl ⟨hM.1, (hM.r 91 15 600), rfl, (hM.o 91 15 600), (vpi (hM.n 91 15 600) (by omega)), congrArg (fun z => Value.int (f (ad 9 91) z)) (nI_clamp (by omega)), hM.1, (hM.r 91 15 600), rfl, (hM.o 91 15 600), (vpi (hM.n 91 15 600) (by omega)), congrArg (fun z => Value.int (f (ad 9 91) z)) (nI_clamp (by omega)), trivial⟩ ?_
    refine go_icmp rfl (fun (c1 : (f (ad 9 91) i) = f (ad 9 91) e) => ?_) (fun (c1 : ¬ ((f (ad 9 91) i) = f (ad 9 91) e)) => ?_)
    · -- (f (ad 9 91) i) = f (ad 9 91) e
      refine go_blk 1 [] (pc' := 39) (vs' := [.ref (ad 10 0), .int (nI e), .int 1, .int (nI i)]) (st' := [.int (nI i)]) (M' := mm M f g) (ps := []) rfl trivial ?_
      refine go_if rfl (fun (z : (nI i) < 0) => absurd z (show ¬ ((nI i) < 0) from (nI_nlt0 (by omega)))) (fun _ => ?_)
      refine go_blk 3 [some (.int (nI ne))] (pc' := 47) (vs' := [.ref (ad 10 0), .int (nI e), .int 1, .int (nI i)]) (st' := [.int (nI ne), .int (nI i)]) (M' := mm M f g) (ps := [ob (mm M f g) (ad 10 0) 12, (Value.int (f (ad 10 0) 95)) = .int (nI ne)]) rfl ⟨hM.1, congrArg Value.int hn, trivial⟩ ?_
      refine go_icmp rfl (fun (z : nI ne ≤ (nI i)) => absurd z (show ¬ (nI ne ≤ (nI i)) from (Int32.not_le.mpr ((nI_lts (by omega) (by omega)).mpr (by omega))))) (fun _ => ?_)
      refine go_blk 2 [] (pc' := 55) (vs' := [.ref (ad 10 0), .int (nI e), .int 1, .int (nI i)]) (st' := [.int (nI i)]) (M' := mm M f g) (ps := []) rfl trivial ?_
      refine go_iret rfl rfl ?_
      exact (by have hq := hR; rw [nxE, if_pos (by first | assumption | grind)] at hq; exact hq)
    · -- ¬ ((f (ad 9 91) i) = f (ad 9 91) e)
      refine go_blk 5 [] (pc' := 4) (vs' := [.ref (ad 10 0), .int (nI e), .int 1, .int ((nI i) + 1)]) (st' := []) (M' := mm M f g) (ps := []) rfl trivial ?_
      rw [show nI i + 1 = nI (i + 1) from nI_add i 1]
      exact ih (i + 1) (by omega) (by have hq := hR; rw [nxE, if_neg (by first | assumption | grind)] at hq; exact hq)

set_option maxRecDepth 100000 in
theorem s_Bs_lookAhead {d : Nat} {M : Mem} {f : Nat → Nat → Int32} {g : Nat → Nat → Int64} {ad : Nat → Nat → Nat} {R : Option Value → Mem → Prop} {e ne : Nat} (hd : 0 ≤ d) (hF : Fx M ad) (he : e < ne) (hl : ne ≤ 120) (hn : f (ad 0 9) 2 = nI ne) (hR : R (some (.int (oV (pvE (f (ad 0 32)) e e) (f (ad 0 33))))) (mm M f g)) : Call d 16 [.ref (ad 0 9), .int (nI e)] (mm M f g) R := by
  show Go d 16 0 0 0 [.ref (ad 0 9), .int (nI e), .retAddr 0] [] (mm M f g) R
  refine go_blk 4 [] (pc' := 4) (vs' := [.ref (ad 0 9), .int (nI e), .int ((nI e) - 1)]) (st' := []) (M' := mm M f g) (ps := []) rfl trivial ?_
  rw [lm_sub e]
  exact lp_Bs_lookAhead hd hF he hl hn e (Nat.le_refl _) hR

set_option maxRecDepth 100000 in
theorem s_Bs_lookBehind {d : Nat} {M : Mem} {f : Nat → Nat → Int32} {g : Nat → Nat → Int64} {ad : Nat → Nat → Nat} {R : Option Value → Mem → Prop} {e ne : Nat} (hd : 0 ≤ d) (hF : Fx M ad) (he : e < ne) (hl : ne ≤ 120) (hn : f (ad 0 9) 2 = nI ne) (hR : R (some (.int (oV (nxE (f (ad 0 32)) e (e + 1) (ne - (e + 1))) (f (ad 0 33))))) (mm M f g)) : Call d 17 [.ref (ad 0 9), .int (nI e)] (mm M f g) R := by
  show Go d 17 0 0 0 [.ref (ad 0 9), .int (nI e), .retAddr 0] [] (mm M f g) R
  refine go_blk 4 [] (pc' := 4) (vs' := [.ref (ad 0 9), .int (nI e), .int ((nI e) + 1)]) (st' := []) (M' := mm M f g) (ps := []) rfl trivial ?_
  rw [show nI e + 1 = nI (e + 1) from nI_add e 1]
  exact lp_Bs_lookBehind hd hF he hl hn _ (e + 1) (by omega) hR

set_option maxRecDepth 100000 in
theorem s_Mo_besideD {d : Nat} {M : Mem} {f : Nat → Nat → Int32} {g : Nat → Nat → Int64} {ad : Nat → Nat → Nat} {R : Option Value → Mem → Prop} {e ne : Nat} (hd : 0 ≤ d) (hM : Mx M ad) (he : e < ne) (hl : ne ≤ 120) (hn : f (ad 10 0) 95 = nI ne) (hR : R (some (.int (oV (pvE (f (ad 9 91)) e e) nI))) (mm M f g)) : Call d 263 [.ref (ad 10 0), .int (nI e), .int (-1)] (mm M f g) R := by
  show Go d 263 0 0 0 [.ref (ad 10 0), .int (nI e), .int (-1), .retAddr 0] [] (mm M f g) R
  refine go_blk 4 [] (pc' := 4) (vs' := [.ref (ad 10 0), .int (nI e), .int (-1), .int ((nI e) + (-1))]) (st' := []) (M' := mm M f g) (ps := []) rfl trivial ?_
  rw [lm_dec e]
  exact lp_Mo_besideD hd hM he hl hn e (Nat.le_refl _) hR

set_option maxRecDepth 100000 in
theorem s_Mo_besideU {d : Nat} {M : Mem} {f : Nat → Nat → Int32} {g : Nat → Nat → Int64} {ad : Nat → Nat → Nat} {R : Option Value → Mem → Prop} {e ne : Nat} (hd : 0 ≤ d) (hM : Mx M ad) (he : e < ne) (hl : ne ≤ 120) (hn : f (ad 10 0) 95 = nI ne) (hR : R (some (.int (oV (nxE (f (ad 9 91)) e (e + 1) (ne - (e + 1))) nI))) (mm M f g)) : Call d 263 [.ref (ad 10 0), .int (nI e), .int 1] (mm M f g) R := by
  show Go d 263 0 0 0 [.ref (ad 10 0), .int (nI e), .int 1, .retAddr 0] [] (mm M f g) R
  refine go_blk 4 [] (pc' := 4) (vs' := [.ref (ad 10 0), .int (nI e), .int 1, .int ((nI e) + 1)]) (st' := []) (M' := mm M f g) (ps := []) rfl trivial ?_
  rw [show nI e + 1 = nI (e + 1) from nI_add e 1]
  exact lp_Mo_besideU hd hM he hl hn _ (e + 1) (by omega) hR

theorem oV_is {lk eb tg sn : Nat → Int32} {ne : Nat} (hE : ∀ i, i < ne → (lk i = -1 ∧ ¬ eb i = -1) ∨ (eb i = -1 ∧ ∃ k, k < 60 ∧ lk i = nI k ∧ ∀ th, th < 3 → sn (3 * k + th) = tg (3 * i + th))) (o : Option Nat) (ho : ∀ i, o = some i → i < ne) :
    (oV o lk = -1 ∧ ∀ i, o = some i → ¬ eb i = -1) ∨ ∃ i k, o = some i ∧ eb i = -1 ∧ k < 60 ∧ oV o lk = nI k ∧ ∀ th, th < 3 → sn (3 * k + th) = tg (3 * i + th) := by
  cases o with
  | none => exact Or.inl ⟨rfl, fun i h => by cases h⟩
  | some i =>
    rcases hE i (ho i rfl) with ⟨h1, h2⟩ | ⟨h1, k, h2, h3, h4⟩
    · exact Or.inl ⟨h1, fun j h => by cases h; exact h2⟩
    · exact Or.inr ⟨i, k, rfl, h1, h2, h3, h4⟩
theorem lsV_no {co eb tg : Nat → Int32} {ne e th : Nat} (h : (∀ i, pvE co e e = some i → ¬ eb i = -1) ∨ ∀ i, nxE co e (e + 1) (ne - (e + 1)) = some i → ¬ eb i = -1) : lsV co eb tg ne e th = -1 := by
  unfold lsV
  split
  · rename_i a b h1 h2
    rw [if_neg]
    rintro ⟨q1, q2⟩
    rcases h with h | h
    · exact h a h1 q1
    · exact h b h2 q2
  · rfl
theorem lsV_yes {co eb tg : Nat → Int32} {ne e th a b : Nat} (h1 : pvE co e e = some a) (h2 : nxE co e (e + 1) (ne - (e + 1)) = some b) (q1 : eb a = -1) (q2 : eb b = -1) : lsV co eb tg ne e th = mx0 (tg (3 * a + th) - tg (3 * b + th)) := by
  unfold lsV
  rw [h1, h2]
  exact if_pos ⟨q1, q2⟩
theorem nx_in {co : Nat → Int32} {e ne : Nat} (he : e < ne) : ∀ i, nxE co e (e + 1) (ne - (e + 1)) = some i → i < ne := fun i h => by have := nxE_lt h; omega
theorem pv_in {co : Nat → Int32} {e ne : Nat} (he : e < ne) : ∀ i, pvE co e e = some i → i < ne := fun i h => by have := pvE_lt h; omega

set_option maxRecDepth 100000 in
theorem s_Bs_lostAt {d : Nat} {M : Mem} {f : Nat → Nat → Int32} {g : Nat → Nat → Int64} {ad : Nat → Nat → Nat} {R : Option Value → Mem → Prop} {e ne th : Nat} {eb tg : Nat → Int32} (hd : 1 ≤ d) (hF : Fx M ad) (he : e < ne) (hl : ne ≤ 120) (hn : f (ad 0 9) 2 = nI ne) (hE : ∀ i, i < ne → (f (ad 0 33) i = -1 ∧ ¬ eb i = -1) ∨ (eb i = -1 ∧ ∃ k, k < 60 ∧ f (ad 0 33) i = nI k ∧ ∀ th, th < 3 → f (ad 0 34) (3 * k + th) = tg (3 * i + th))) (hth : th < 3) (hR : R (some (.int (lsV (f (ad 0 32)) eb tg ne e th))) (mm M f g)) : Call d 18 [.ref (ad 0 9), .int (nI e), .int (nI th)] (mm M f g) R := by
  show Go d 18 0 0 0 [.ref (ad 0 9), .int (nI e), .int (nI th), .retAddr 0, .retAddr 0] [] (mm M f g) R
  refine go_blk 2 [] (pc' := 2) (vs' := [.ref (ad 0 9), .int (nI e), .int (nI th), .retAddr 0, .retAddr 0]) (st' := [.int (nI e), .ref (ad 0 9)]) (M' := mm M f g) (ps := []) rfl trivial ?_
  refine go_callV rfl rfl rfl (by omega) rfl (by decide) (by decide) (hF.o 9) ?_
  show Go (d - 1) 15 0 0 0 [.ref (ad 0 9), .int (nI e)] [] (mm M f g) _
  refine go_blk 1 [] (pc' := 1) (vs' := [.ref (ad 0 9), .int (nI e)]) (st' := [.int (nI e)]) (M' := mm M f g) (ps := []) rfl trivial ?_
  refine go_if rfl (fun (z : (nI e) < 0) => absurd z (show ¬ ((nI e) < 0) from (nI_nlt0 (by omega)))) (fun _ => ?_)
  refine go_blk 3 [some (.int (nI ne))] (pc' := 9) (vs' := [.ref (ad 0 9), .int (nI e)]) (st' := [.int (nI ne), .int (nI e)]) (M' := mm M f g) (ps := [ob (mm M f g) (ad 0 9) 1, (Value.int (f (ad 0 9) 2)) = .int (nI ne)]) rfl ⟨(hF.o 9), congrArg Value.int hn, trivial⟩ ?_
  refine go_icmp rfl (fun (z : nI ne ≤ (nI e)) => absurd z (show ¬ (nI ne ≤ (nI e)) from (Int32.not_le.mpr ((nI_lts (by omega) (by omega)).mpr he)))) (fun _ => ?_)
  refine go_blk 2 [] (pc' := 17) (vs' := [.ref (ad 0 9), .int (nI e)]) (st' := [.int 1]) (M' := mm M f g) (ps := []) rfl trivial ?_
  refine go_zret rfl rfl (Or.inr rfl) ?_
  refine ⟨ne_i, ?_⟩
  show Go d 18 0 0 5 [.ref (ad 0 9), .int (nI e), .int (nI th), .retAddr 0, .retAddr 0] [.int 1] (mm M f g) R
  refine go_if rfl (fun _ => ?_) (fun (z : ¬ (¬ (1 : Int32) = 0)) => absurd (show ¬ (1 : Int32) = 0 from (by decide)) z)
  refine go_blk 2 [] (pc' := 12) (vs' := [.ref (ad 0 9), .int (nI e), .int (nI th), .retAddr 0, .retAddr 0]) (st' := [.int (nI e), .ref (ad 0 9)]) (M' := mm M f g) (ps := []) rfl trivial ?_
  refine go_callV rfl rfl rfl (by omega) rfl (by decide) (by decide) (hF.o 9) ?_
  refine s_Bs_lookAhead (by omega) hF he hl hn ⟨ne_i, ?_⟩
  show Go d 18 0 0 15 [.ref (ad 0 9), .int (nI e), .int (nI th), .retAddr 0, .retAddr 0] [.int (oV (pvE (f (ad 0 32)) e e) (f (ad 0 33)))] (mm M f g) R
  refine go_blk 3 [] (pc' := 18) (vs' := [.ref (ad 0 9), .int (nI e), .int (nI th), .int (oV (pvE (f (ad 0 32)) e e) (f (ad 0 33))), .retAddr 0]) (st' := [.int (nI e), .ref (ad 0 9)]) (M' := mm M f g) (ps := []) rfl trivial ?_
  refine go_callV rfl rfl rfl (by omega) rfl (by decide) (by decide) (hF.o 9) ?_
  refine s_Bs_lookBehind (by omega) hF he hl hn ⟨ne_i, ?_⟩
  show Go d 18 0 0 21 [.ref (ad 0 9), .int (nI e), .int (nI th), .int (oV (pvE (f (ad 0 32)) e e) (f (ad 0 33))), .retAddr 0] [.int (oV (nxE (f (ad 0 32)) e (e + 1) (ne - (e + 1))) (f (ad 0 33)))] (mm M f g) R
  refine go_blk 1 [] (pc' := 23) (vs' := [.ref (ad 0 9), .int (nI e), .int (nI th), .int (oV (pvE (f (ad 0 32)) e e) (f (ad 0 33))), .int (oV (nxE (f (ad 0 32)) e (e + 1) (ne - (e + 1))) (f (ad 0 33)))]) (st' := []) (M' := mm M f g) (ps := []) rfl trivial ?_
  rcases oV_is hE (pvE (f (ad 0 32)) e e) (pv_in he) with ⟨a1, a2⟩ | ⟨ai, ak, a1, a2, a3, a4, a5⟩
  · rw [a1]
    rcases oV_is hE (nxE (f (ad 0 32)) e (e + 1) (ne - (e + 1))) (nx_in he) with ⟨b1, b2⟩ | ⟨bi, bk, b1, b2, b3, b4, b5⟩
    · rw [b1]
      show Go d 18 0 0 23 [.ref (ad 0 9), .int (nI e), .int (nI th), .int (-1), .int (-1)] [] (mm M f g) R
      refine go_blk 2 [] (pc' := 25) (vs' := [.ref (ad 0 9), .int (nI e), .int (nI th), .int (-1), .int (-1)]) (st' := [.int (-1), .int (-1)]) (M' := mm M f g) (ps := []) rfl trivial ?_
      refine go_icmp rfl (fun _ => ?_) (fun (z : ¬ (((-1) : Int32) = (-1))) => absurd (show ((-1) : Int32) = (-1) from (by decide)) z)
      refine go_blk 1 [] (pc' := 35) (vs' := [.ref (ad 0 9), .int (nI e), .int (nI th), .int (-1), .int (-1)]) (st' := [.int (-1)]) (M' := mm M f g) (ps := []) rfl trivial ?_
      refine go_iret rfl rfl ?_
      rw [lsV_no (Or.inl a2)] at hR; exact hR
    · rw [b4]
      show Go d 18 0 0 23 [.ref (ad 0 9), .int (nI e), .int (nI th), .int (-1), .int (nI bk)] [] (mm M f g) R
      refine go_blk 2 [] (pc' := 25) (vs' := [.ref (ad 0 9), .int (nI e), .int (nI th), .int (-1), .int (nI bk)]) (st' := [.int (-1), .int (-1)]) (M' := mm M f g) (ps := []) rfl trivial ?_
      refine go_icmp rfl (fun _ => ?_) (fun (z : ¬ (((-1) : Int32) = (-1))) => absurd (show ((-1) : Int32) = (-1) from (by decide)) z)
      refine go_blk 1 [] (pc' := 35) (vs' := [.ref (ad 0 9), .int (nI e), .int (nI th), .int (-1), .int (nI bk)]) (st' := [.int (-1)]) (M' := mm M f g) (ps := []) rfl trivial ?_
      refine go_iret rfl rfl ?_
      rw [lsV_no (Or.inl a2)] at hR; exact hR
  · rw [a4]
    rcases oV_is hE (nxE (f (ad 0 32)) e (e + 1) (ne - (e + 1))) (nx_in he) with ⟨b1, b2⟩ | ⟨bi, bk, b1, b2, b3, b4, b5⟩
    · rw [b1]
      show Go d 18 0 0 23 [.ref (ad 0 9), .int (nI e), .int (nI th), .int (nI ak), .int (-1)] [] (mm M f g) R
      refine go_blk 2 [] (pc' := 25) (vs' := [.ref (ad 0 9), .int (nI e), .int (nI th), .int (nI ak), .int (-1)]) (st' := [.int (-1), .int (nI ak)]) (M' := mm M f g) (ps := []) rfl trivial ?_
      refine go_icmp rfl (fun (z : (nI ak) = (-1)) => absurd z (show ¬ ((nI ak) = (-1)) from (nI_m1 (n := ak) (by omega)))) (fun _ => ?_)
      refine go_blk 2 [] (pc' := 31) (vs' := [.ref (ad 0 9), .int (nI e), .int (nI th), .int (nI ak), .int (-1)]) (st' := [.int (-1), .int (-1)]) (M' := mm M f g) (ps := []) rfl trivial ?_
      refine go_icmp rfl (fun (z : ¬ ((-1) : Int32) = (-1)) => absurd z (show ¬ (¬ ((-1) : Int32) = (-1)) from (by decide))) (fun _ => ?_)
      refine go_blk 1 [] (pc' := 35) (vs' := [.ref (ad 0 9), .int (nI e), .int (nI th), .int (nI ak), .int (-1)]) (st' := [.int (-1)]) (M' := mm M f g) (ps := []) rfl trivial ?_
      refine go_iret rfl rfl ?_
      rw [lsV_no (Or.inr b2)] at hR; exact hR
    · rw [b4]
      show Go d 18 0 0 23 [.ref (ad 0 9), .int (nI e), .int (nI th), .int (nI ak), .int (nI bk)] [] (mm M f g) R
      refine go_blk 2 [] (pc' := 25) (vs' := [.ref (ad 0 9), .int (nI e), .int (nI th), .int (nI ak), .int (nI bk)]) (st' := [.int (-1), .int (nI ak)]) (M' := mm M f g) (ps := []) rfl trivial ?_
      refine go_icmp rfl (fun (z : (nI ak) = (-1)) => absurd z (show ¬ ((nI ak) = (-1)) from (nI_m1 (n := ak) (by omega)))) (fun _ => ?_)
      refine go_blk 2 [] (pc' := 31) (vs' := [.ref (ad 0 9), .int (nI e), .int (nI th), .int (nI ak), .int (nI bk)]) (st' := [.int (-1), .int (nI bk)]) (M' := mm M f g) (ps := []) rfl trivial ?_
      refine go_icmp rfl (fun _ => ?_) (fun (z : ¬ (¬ (nI bk) = (-1))) => absurd (show ¬ (nI bk) = (-1) from (nI_m1 (n := bk) (by omega))) z)
      refine go_blk 18 [some (.ref (ad 0 34)), some (.int (f (ad 0 34) (ak * 3 + th))), some (.ref (ad 0 34)), some (.int (f (ad 0 34) (bk * 3 + th)))] (pc' := 59) (vs' := [.ref (ad 0 9), .int (nI e), .int (nI th), .int (nI ak), .int (nI bk)]) (st' := [.int ((f (ad 0 34) (ak * 3 + th)) - (f (ad 0 34) (bk * 3 + th))), .int 0]) (M' := mm M f g) (ps := [ob (mm M f g) (ad 0 9) 1, mR (mm M f g) (ad 0 9) 3 = some (ad 0 34), va_rf (some (ad 0 34)) = .ref (ad 0 34), ob (mm M f g) (ad 0 34) 15, vp_in (((nI ak) * 3) + (nI th)) (mN (mm M f g) (ad 0 34)), (Value.int (f (ad 0 34) ((((nI ak) * 3) + (nI th)).toNatClampNeg))) = .int (f (ad 0 34) (ak * 3 + th)), ob (mm M f g) (ad 0 9) 1, mR (mm M f g) (ad 0 9) 3 = some (ad 0 34), va_rf (some (ad 0 34)) = .ref (ad 0 34), ob (mm M f g) (ad 0 34) 15, vp_in (((nI bk) * 3) + (nI th)) (mN (mm M f g) (ad 0 34)), (Value.int (f (ad 0 34) ((((nI bk) * 3) + (nI th)).toNatClampNeg))) = .int (f (ad 0 34) (bk * 3 + th))]) rfl ⟨(hF.o 9), (hF.r 9 3 34), rfl, (hF.o 34), (vp_eq (eq_add (eq_mul rfl (show (3 : Int32) = nI 3 from rfl)) rfl) (vpi (hF.n 34) (show _ < 180 by omega))), congrArg Value.int ((congrArg (fun z => f (ad 0 34) z) (cl_of (eq_add (eq_mul rfl (show (3 : Int32) = nI 3 from rfl)) rfl) (by omega)))), (hF.o 9), (hF.r 9 3 34), rfl, (hF.o 34), (vp_eq (eq_add (eq_mul rfl (show (3 : Int32) = nI 3 from rfl)) rfl) (vpi (hF.n 34) (show _ < 180 by omega))), congrArg Value.int ((congrArg (fun z => f (ad 0 34) z) (cl_of (eq_add (eq_mul rfl (show (3 : Int32) = nI 3 from rfl)) rfl) (by omega)))), trivial⟩ ?_
      refine go_callS rfl (by decide) rfl rfl (by omega) rfl (by decide) (by decide) ?_
      refine s_JM_max0 (by omega) ⟨ne_i, ?_⟩
      show Go d 18 0 0 62 [.ref (ad 0 9), .int (nI e), .int (nI th), .int (nI ak), .int (nI bk)] [.int (if (0 : Int32) < ((f (ad 0 34) (ak * 3 + th)) - (f (ad 0 34) (bk * 3 + th))) then ((f (ad 0 34) (ak * 3 + th)) - (f (ad 0 34) (bk * 3 + th))) else 0)] (mm M f g) R
      refine go_iret rfl rfl ?_
      rw [lsV_yes a1 b1 a2 b2, ← a5 th hth, ← b5 th hth, Nat.mul_comm 3 ak, Nat.mul_comm 3 bk] at hR; exact hR

set_option maxRecDepth 100000 in
theorem lp_Bs_lostCoins {d : Nat} {M : Mem} {f : Nat → Nat → Int32} {g : Nat → Nat → Int64} {ad : Nat → Nat → Nat} {R : Option Value → Mem → Prop} {e ne : Nat} {eb tg : Nat → Int32} (hd : 2 ≤ d) (hF : Fx M ad) (he : e < ne) (hl : ne ≤ 120) (hn : f (ad 0 9) 2 = nI ne) (hE : ∀ i, i < ne → (f (ad 0 33) i = -1 ∧ ¬ eb i = -1) ∨ (eb i = -1 ∧ ∃ k, k < 60 ∧ f (ad 0 33) i = nI k ∧ ∀ th, th < 3 → f (ad 0 34) (3 * k + th) = tg (3 * i + th))) (hx : Go d 19 0 0 35 [.ref (ad 0 9), .int (nI e), .int (smI (fun th => mx0 (lsV (f (ad 0 32)) eb tg ne e th) * f (ad 0 35) th) 3), .int (nI 3)] [] (mm M f g) R) : ∀ i, i ≤ 3 → Go d 19 0 0 4 [.ref (ad 0 9), .int (nI e), .int (smI (fun th => mx0 (lsV (f (ad 0 32)) eb tg ne e th) * f (ad 0 35) th) i), .int (nI i)] [] (mm M f g) R := by
  refine up_ind (P := fun i => Go d 19 0 0 4 [.ref (ad 0 9), .int (nI e), .int (smI (fun th => mx0 (lsV (f (ad 0 32)) eb tg ne e th) * f (ad 0 35) th) i), .int (nI i)] [] (mm M f g) R) 3 ?_ (fun i hi ih => ?_)
  ·
    skip
    show Go d 19 0 0 4 [.ref (ad 0 9), .int (nI e), .int (smI (fun th => mx0 (lsV (f (ad 0 32)) eb tg ne e th) * f (ad 0 35) th) 3), .int (nI 3)] [] (mm M f g) R
    refine go_blk 2 [] (pc' := 6) (vs' := [.ref (ad 0 9), .int (nI e), .int (smI (fun th => mx0 (lsV (f (ad 0 32)) eb tg ne e th) * f (ad 0 35) th) 3), .int (nI 3)]) (st' := [.int 3, .int (nI 3)]) (M' := mm M f g) (ps := []) rfl trivial ?_
    refine go_icmp rfl (fun _ => ?_) (fun (z : ¬ (3 ≤ (nI 3))) => absurd (show 3 ≤ (nI 3) from Int32.le_refl _) z)
    exact hx
  ·
    skip
    show Go d 19 0 0 4 [.ref (ad 0 9), .int (nI e), .int (smI (fun th => mx0 (lsV (f (ad 0 32)) eb tg ne e th) * f (ad 0 35) th) i), .int (nI i)] [] (mm M f g) R
    refine go_blk 2 [] (pc' := 6) (vs' := [.ref (ad 0 9), .int (nI e), .int (smI (fun th => mx0 (lsV (f (ad 0 32)) eb tg ne e th) * f (ad 0 35) th) i), .int (nI i)]) (st' := [.int 3, .int (nI i)]) (M' := mm M f g) (ps := []) rfl trivial ?_
    refine go_icmp rfl (fun (z : 3 ≤ (nI i)) => absurd z (show ¬ (3 ≤ (nI i)) from (Int32.not_le.mpr ((nI_lts (a := i) (b := 3) (by omega) (by omega)).mpr hi)))) (fun _ => ?_)
    refine go_blk 5 [] (pc' := 14) (vs' := [.ref (ad 0 9), .int (nI e), .int (smI (fun th => mx0 (lsV (f (ad 0 32)) eb tg ne e th) * f (ad 0 35) th) i), .int (nI i)]) (st' := [.int (nI i), .int (nI e), .ref (ad 0 9), .int 0, .int (smI (fun th => mx0 (lsV (f (ad 0 32)) eb tg ne e th) * f (ad 0 35) th) i)]) (M' := mm M f g) (ps := []) rfl trivial ?_
    refine go_callV rfl rfl rfl (by omega) rfl (by decide) (by decide) (hF.o 9) ?_
    refine s_Bs_lostAt (by omega) hF he hl hn hE (th := i) (by omega) ⟨ne_i, ?_⟩
    show Go d 19 0 0 17 [.ref (ad 0 9), .int (nI e), .int (smI (fun th => mx0 (lsV (f (ad 0 32)) eb tg ne e th) * f (ad 0 35) th) i), .int (nI i)] [.int (lsV (f (ad 0 32)) eb tg ne e i), .int 0, .int (smI (fun th => mx0 (lsV (f (ad 0 32)) eb tg ne e th) * f (ad 0 35) th) i)] (mm M f g) R
    refine go_callS rfl (by decide) rfl rfl (by omega) rfl (by decide) (by decide) ?_
    refine s_JM_max0 (by omega) ⟨ne_i, ?_⟩
    show Go d 19 0 0 20 [.ref (ad 0 9), .int (nI e), .int (smI (fun th => mx0 (lsV (f (ad 0 32)) eb tg ne e th) * f (ad 0 35) th) i), .int (nI i)] [.int (mx0 (lsV (f (ad 0 32)) eb tg ne e i)), .int (smI (fun th => mx0 (lsV (f (ad 0 32)) eb tg ne e th) * f (ad 0 35) th) i)] (mm M f g) R
    refine go_blk 9 [some (.ref (ad 0 35)), some (.int (f (ad 0 35) i))] (pc' := 4) (vs' := [.ref (ad 0 9), .int (nI e), .int ((smI (fun th => mx0 (lsV (f (ad 0 32)) eb tg ne e th) * f (ad 0 35) th) i) + ((mx0 (lsV (f (ad 0 32)) eb tg ne e i)) * (f (ad 0 35) i))), .int ((nI i) + 1)]) (st' := []) (M' := mm M f g) (ps := [ob (mm M f g) (ad 0 9) 1, mR (mm M f g) (ad 0 9) 5 = some (ad 0 35), va_rf (some (ad 0 35)) = .ref (ad 0 35), ob (mm M f g) (ad 0 35) 15, vp_in (nI i) (mN (mm M f g) (ad 0 35)), (Value.int (f (ad 0 35) ((nI i).toNatClampNeg))) = .int (f (ad 0 35) i)]) rfl ⟨(hF.o 9), (hF.r 9 5 35), rfl, (hF.o 35), (vpi (hF.n 35) (show _ < 3 by omega)), congrArg (fun z => Value.int (f (ad 0 35) z)) (nI_clamp (by omega)), trivial⟩ ?_
    have e1 : nI i + 1 = nI (i + 1) := nI_add i 1
    have e4 : ((smI (fun th => mx0 (lsV (f (ad 0 32)) eb tg ne e th) * f (ad 0 35) th) i) + ((mx0 (lsV (f (ad 0 32)) eb tg ne e i)) * (f (ad 0 35) i))) = smI (fun th => mx0 (lsV (f (ad 0 32)) eb tg ne e th) * f (ad 0 35) th) (i + 1) := (by first | rfl | (rw [smI]; clear ih hx; grind))
    rw [e1, e4]
    exact ih

set_option maxRecDepth 100000 in
theorem s_Bs_lostCoins {d : Nat} {M : Mem} {f : Nat → Nat → Int32} {g : Nat → Nat → Int64} {ad : Nat → Nat → Nat} {R : Option Value → Mem → Prop} {e ne : Nat} {eb tg : Nat → Int32} (hd : 2 ≤ d) (hF : Fx M ad) (he : e < ne) (hl : ne ≤ 120) (hn : f (ad 0 9) 2 = nI ne) (hE : ∀ i, i < ne → (f (ad 0 33) i = -1 ∧ ¬ eb i = -1) ∨ (eb i = -1 ∧ ∃ k, k < 60 ∧ f (ad 0 33) i = nI k ∧ ∀ th, th < 3 → f (ad 0 34) (3 * k + th) = tg (3 * i + th))) (hR : R (some (.int (smI (fun th => mx0 (lsV (f (ad 0 32)) eb tg ne e th) * f (ad 0 35) th) 3))) (mm M f g)) : Call d 19 [.ref (ad 0 9), .int (nI e)] (mm M f g) R := by
  show Go d 19 0 0 0 [.ref (ad 0 9), .int (nI e), .retAddr 0, .retAddr 0] [] (mm M f g) R
  refine go_blk 4 [] (pc' := 4) (vs' := [.ref (ad 0 9), .int (nI e), .int 0, .int 0]) (st' := []) (M' := mm M f g) (ps := []) rfl trivial ?_
  refine lp_Bs_lostCoins hd hF he hl hn hE ?_ 0 (Nat.zero_le _)
  show Go d 19 0 0 35 [.ref (ad 0 9), .int (nI e), .int (smI (fun th => mx0 (lsV (f (ad 0 32)) eb tg ne e th) * f (ad 0 35) th) 3), .int (nI 3)] [] (mm M f g) R
  refine go_blk 1 [] (pc' := 36) (vs' := [.ref (ad 0 9), .int (nI e), .int (smI (fun th => mx0 (lsV (f (ad 0 32)) eb tg ne e th) * f (ad 0 35) th) 3), .int (nI 3)]) (st' := [.int (smI (fun th => mx0 (lsV (f (ad 0 32)) eb tg ne e th) * f (ad 0 35) th) 3)]) (M' := mm M f g) (ps := []) rfl trivial ?_
  refine go_iret rfl rfl ?_
  exact hR

set_option maxRecDepth 100000 in
theorem lp_Mo_lostOf {d : Nat} {M : Mem} {f : Nat → Nat → Int32} {g : Nat → Nat → Int64} {ad : Nat → Nat → Nat} {R : Option Value → Mem → Prop} {e ne th b : Nat} (hd : 1 ≤ d) (hM : Mx M ad) (he : e < ne) (hl : ne ≤ 120) (hn : f (ad 10 0) 95 = nI ne) (he2 : f (ad 9 92) e = nI b) (hu : ∀ i, i < e → ¬ f (ad 9 92) i = nI b) (hx : Go d 264 0 0 18 [.ref (ad 10 0), .int (nI b), .int (nI th), .int (nI e), .retAddr 0, .retAddr 0] [] (mm M f g) R) : ∀ i, i ≤ e → Go d 264 0 0 2 [.ref (ad 10 0), .int (nI b), .int (nI th), .int (nI i), .retAddr 0, .retAddr 0] [] (mm M f g) R := by
  refine up_ind (P := fun i => Go d 264 0 0 2 [.ref (ad 10 0), .int (nI b), .int (nI th), .int (nI i), .retAddr 0, .retAddr 0] [] (mm M f g) R) e ?_ (fun i hi ih => ?_)
  ·
    skip
    show Go d 264 0 0 2 [.ref (ad 10 0), .int (nI b), .int (nI th), .int (nI e), .retAddr 0, .retAddr 0] [] (mm M f g) R
    refine go_blk 5 [some (.ref (ad 9 92)), some (.int (f (ad 9 92) e))] (pc' := 9) (vs' := [.ref (ad 10 0), .int (nI b), .int (nI th), .int (nI e), .retAddr 0, .retAddr 0]) (st' := [.int (nI b), .int (f (ad 9 92) e)]) (M' := mm M f g) (ps := [ob (mm M f g) (ad 10 0) 12, mR (mm M f g) (ad 10 0) 92 = some (ad 9 92), va_rf (some (ad 9 92)) = .ref (ad 9 92), ob (mm M f g) (ad 9 92) 15, vp_in (nI e) (mN (mm M f g) (ad 9 92)), (Value.int (f (ad 9 92) ((nI e).toNatClampNeg))) = .int (f (ad 9 92) e)]) rfl ⟨hM.1, (hM.r 92 15 600), rfl, (hM.o 92 15 600), (vpi (hM.n 92 15 600) (by omega)), congrArg (fun z => Value.int (f (ad 9 92) z)) (nI_clamp (by omega)), trivial⟩ ?_
    refine go_icmp rfl (fun _ => ?_) (fun (z : ¬ ((f (ad 9 92) e) = nI b)) => absurd (show (f (ad 9 92) e) = nI b from he2) z)
    exact hx
  ·
    skip
    show Go d 264 0 0 2 [.ref (ad 10 0), .int (nI b), .int (nI th), .int (nI i), .retAddr 0, .retAddr 0] [] (mm M f g) R
    refine go_blk 5 [some (.ref (ad 9 92)), some (.int (f (ad 9 92) i))] (pc' := 9) (vs' := [.ref (ad 10 0), .int (nI b), .int (nI th), .int (nI i), .retAddr 0, .retAddr 0]) (st' := [.int (nI b), .int (f (ad 9 92) i)]) (M' := mm M f g) (ps := [ob (mm M f g) (ad 10 0) 12, mR (mm M f g) (ad 10 0) 92 = some (ad 9 92), va_rf (some (ad 9 92)) = .ref (ad 9 92), ob (mm M f g) (ad 9 92) 15, vp_in (nI i) (mN (mm M f g) (ad 9 92)), (Value.int (f (ad 9 92) ((nI i).toNatClampNeg))) = .int (f (ad 9 92) i)]) rfl ⟨hM.1, (hM.r 92 15 600), rfl, (hM.o 92 15 600), (vpi (hM.n 92 15 600) (by omega)), congrArg (fun z => Value.int (f (ad 9 92) z)) (nI_clamp (by omega)), trivial⟩ ?_
    refine go_icmp rfl (fun (z : (f (ad 9 92) i) = nI b) => absurd z (show ¬ ((f (ad 9 92) i) = nI b) from (hu i hi))) (fun _ => ?_)
    refine go_blk 2 [] (pc' := 2) (vs' := [.ref (ad 10 0), .int (nI b), .int (nI th), .int ((nI i) + 1), .retAddr 0, .retAddr 0]) (st' := []) (M' := mm M f g) (ps := []) rfl trivial ?_
    have e1 : nI i + 1 = nI (i + 1) := nI_add i 1
    rw [e1]
    exact ih

set_option maxRecDepth 100000 in
theorem s_Mo_lostOf {d : Nat} {M : Mem} {f : Nat → Nat → Int32} {g : Nat → Nat → Int64} {ad : Nat → Nat → Nat} {R : Option Value → Mem → Prop} {e ne th b : Nat} (hd : 1 ≤ d) (hM : Mx M ad) (he : e < ne) (hl : ne ≤ 120) (hn : f (ad 10 0) 95 = nI ne) (he2 : f (ad 9 92) e = nI b) (hu : ∀ i, i < e → ¬ f (ad 9 92) i = nI b) (hth : th < 3) (hR : R (some (.int (lsV (f (ad 9 91)) (f (ad 9 92)) (f (ad 9 93)) ne e th))) (mm M f g)) : Call d 264 [.ref (ad 10 0), .int (nI b), .int (nI th)] (mm M f g) R := by
  show Go d 264 0 0 0 [.ref (ad 10 0), .int (nI b), .int (nI th), .retAddr 0, .retAddr 0, .retAddr 0] [] (mm M f g) R
  refine go_blk 2 [] (pc' := 2) (vs' := [.ref (ad 10 0), .int (nI b), .int (nI th), .int 0, .retAddr 0, .retAddr 0]) (st' := []) (M' := mm M f g) (ps := []) rfl trivial ?_
  refine lp_Mo_lostOf hd hM he hl hn he2 hu ?_ 0 (Nat.zero_le _)
  show Go d 264 0 0 18 [.ref (ad 10 0), .int (nI b), .int (nI th), .int (nI e), .retAddr 0, .retAddr 0] [] (mm M f g) R
  refine go_blk 3 [] (pc' := 21) (vs' := [.ref (ad 10 0), .int (nI b), .int (nI th), .int (nI e), .retAddr 0, .retAddr 0]) (st' := [.int (-1), .int (nI e), .ref (ad 10 0)]) (M' := mm M f g) (ps := []) rfl trivial ?_
  refine go_callV rfl rfl rfl (by omega) rfl (by decide) (by decide) hM.1 ?_
  refine s_Mo_besideD (by omega) hM he hl hn ⟨ne_i, ?_⟩
  show Go d 264 0 0 24 [.ref (ad 10 0), .int (nI b), .int (nI th), .int (nI e), .retAddr 0, .retAddr 0] [.int (oV (pvE (f (ad 9 91)) e e) nI)] (mm M f g) R
  refine go_blk 4 [] (pc' := 29) (vs' := [.ref (ad 10 0), .int (nI b), .int (nI th), .int (nI e), .int (oV (pvE (f (ad 9 91)) e e) nI), .retAddr 0]) (st' := [.int 1, .int (nI e), .ref (ad 10 0)]) (M' := mm M f g) (ps := []) rfl trivial ?_
  refine go_callV rfl rfl rfl (by omega) rfl (by decide) (by decide) hM.1 ?_
  refine s_Mo_besideU (by omega) hM he hl hn ⟨ne_i, ?_⟩
  show Go d 264 0 0 32 [.ref (ad 10 0), .int (nI b), .int (nI th), .int (nI e), .int (oV (pvE (f (ad 9 91)) e e) nI), .retAddr 0] [.int (oV (nxE (f (ad 9 91)) e (e + 1) (ne - (e + 1))) nI)] (mm M f g) R
  refine go_blk 1 [] (pc' := 34) (vs' := [.ref (ad 10 0), .int (nI b), .int (nI th), .int (nI e), .int (oV (pvE (f (ad 9 91)) e e) nI), .int (oV (nxE (f (ad 9 91)) e (e + 1) (ne - (e + 1))) nI)]) (st' := []) (M' := mm M f g) (ps := []) rfl trivial ?_
  rcases hA : pvE (f (ad 9 91)) e e with _ | ai
  ·
    rcases hB : nxE (f (ad 9 91)) e (e + 1) (ne - (e + 1)) with _ | bi
    ·
      show Go d 264 0 0 34 [.ref (ad 10 0), .int (nI b), .int (nI th), .int (nI e), .int (-1), .int (-1)] [] (mm M f g) R
      refine go_blk 2 [] (pc' := 37) (vs' := [.ref (ad 10 0), .int (nI b), .int (nI th), .int (nI e), .int (-1), .int (-1)]) (st' := [.int (-1), .int (-1)]) (M' := mm M f g) (ps := []) rfl trivial ?_
      refine go_icmp rfl (fun _ => ?_) (fun (z : ¬ (((-1) : Int32) = (-1))) => absurd (show ((-1) : Int32) = (-1) from (by decide)) z)
      refine go_blk 1 [] (pc' := 69) (vs' := [.ref (ad 10 0), .int (nI b), .int (nI th), .int (nI e), .int (-1), .int (-1)]) (st' := [.int (-1)]) (M' := mm M f g) (ps := []) rfl trivial ?_
      refine go_iret rfl rfl ?_
      rw [lsV_no (Or.inl (fun i h => by rw [hA] at h; cases h))] at hR; exact hR
    ·
      have hbi := nx_in he bi hB
      show Go d 264 0 0 34 [.ref (ad 10 0), .int (nI b), .int (nI th), .int (nI e), .int (-1), .int (nI bi)] [] (mm M f g) R
      refine go_blk 2 [] (pc' := 37) (vs' := [.ref (ad 10 0), .int (nI b), .int (nI th), .int (nI e), .int (-1), .int (nI bi)]) (st' := [.int (-1), .int (-1)]) (M' := mm M f g) (ps := []) rfl trivial ?_
      refine go_icmp rfl (fun _ => ?_) (fun (z : ¬ (((-1) : Int32) = (-1))) => absurd (show ((-1) : Int32) = (-1) from (by decide)) z)
      refine go_blk 1 [] (pc' := 69) (vs' := [.ref (ad 10 0), .int (nI b), .int (nI th), .int (nI e), .int (-1), .int (nI bi)]) (st' := [.int (-1)]) (M' := mm M f g) (ps := []) rfl trivial ?_
      refine go_iret rfl rfl ?_
      rw [lsV_no (Or.inl (fun i h => by rw [hA] at h; cases h))] at hR; exact hR
  ·
    rcases hB : nxE (f (ad 9 91)) e (e + 1) (ne - (e + 1)) with _ | bi
    ·
      have hai := pv_in he ai hA
      show Go d 264 0 0 34 [.ref (ad 10 0), .int (nI b), .int (nI th), .int (nI e), .int (nI ai), .int (-1)] [] (mm M f g) R
      refine go_blk 2 [] (pc' := 37) (vs' := [.ref (ad 10 0), .int (nI b), .int (nI th), .int (nI e), .int (nI ai), .int (-1)]) (st' := [.int (-1), .int (nI ai)]) (M' := mm M f g) (ps := []) rfl trivial ?_
      refine go_icmp rfl (fun (z : (nI ai) = (-1)) => absurd z (show ¬ ((nI ai) = (-1)) from (nI_m1 (n := ai) (by omega)))) (fun _ => ?_)
      refine go_blk 2 [] (pc' := 43) (vs' := [.ref (ad 10 0), .int (nI b), .int (nI th), .int (nI e), .int (nI ai), .int (-1)]) (st' := [.int (-1), .int (-1)]) (M' := mm M f g) (ps := []) rfl trivial ?_
      refine go_icmp rfl (fun _ => ?_) (fun (z : ¬ (((-1) : Int32) = (-1))) => absurd (show ((-1) : Int32) = (-1) from (by decide)) z)
      refine go_blk 1 [] (pc' := 69) (vs' := [.ref (ad 10 0), .int (nI b), .int (nI th), .int (nI e), .int (nI ai), .int (-1)]) (st' := [.int (-1)]) (M' := mm M f g) (ps := []) rfl trivial ?_
      refine go_iret rfl rfl ?_
      rw [lsV_no (Or.inr (fun i h => by rw [hB] at h; cases h))] at hR; exact hR
    ·
      have hai := pv_in he ai hA
      have hbi := nx_in he bi hB
      show Go d 264 0 0 34 [.ref (ad 10 0), .int (nI b), .int (nI th), .int (nI e), .int (nI ai), .int (nI bi)] [] (mm M f g) R
      refine go_blk 2 [] (pc' := 37) (vs' := [.ref (ad 10 0), .int (nI b), .int (nI th), .int (nI e), .int (nI ai), .int (nI bi)]) (st' := [.int (-1), .int (nI ai)]) (M' := mm M f g) (ps := []) rfl trivial ?_
      refine go_icmp rfl (fun (z : (nI ai) = (-1)) => absurd z (show ¬ ((nI ai) = (-1)) from (nI_m1 (n := ai) (by omega)))) (fun _ => ?_)
      refine go_blk 2 [] (pc' := 43) (vs' := [.ref (ad 10 0), .int (nI b), .int (nI th), .int (nI e), .int (nI ai), .int (nI bi)]) (st' := [.int (-1), .int (nI bi)]) (M' := mm M f g) (ps := []) rfl trivial ?_
      refine go_icmp rfl (fun (z : (nI bi) = (-1)) => absurd z (show ¬ ((nI bi) = (-1)) from (nI_m1 (n := bi) (by omega)))) (fun _ => ?_)
      refine go_blk 5 [some (.ref (ad 9 92)), some (.int (f (ad 9 92) ai))] (pc' := 54) (vs' := [.ref (ad 10 0), .int (nI b), .int (nI th), .int (nI e), .int (nI ai), .int (nI bi)]) (st' := [.int (-1), .int (f (ad 9 92) ai)]) (M' := mm M f g) (ps := [ob (mm M f g) (ad 10 0) 12, mR (mm M f g) (ad 10 0) 92 = some (ad 9 92), va_rf (some (ad 9 92)) = .ref (ad 9 92), ob (mm M f g) (ad 9 92) 15, vp_in (nI ai) (mN (mm M f g) (ad 9 92)), (Value.int (f (ad 9 92) ((nI ai).toNatClampNeg))) = .int (f (ad 9 92) ai)]) rfl ⟨hM.1, (hM.r 92 15 600), rfl, (hM.o 92 15 600), (vpi (hM.n 92 15 600) (by omega)), congrArg (fun z => Value.int (f (ad 9 92) z)) (nI_clamp (by omega)), trivial⟩ ?_
      refine go_icmp rfl (fun (c1 : ¬ (f (ad 9 92) ai) = (-1)) => ?_) (fun (c1 : ¬ (¬ (f (ad 9 92) ai) = (-1))) => ?_)
      · -- ¬ (f (ad 9 92) ai) = (-1)
        refine go_blk 1 [] (pc' := 69) (vs' := [.ref (ad 10 0), .int (nI b), .int (nI th), .int (nI e), .int (nI ai), .int (nI bi)]) (st' := [.int (-1)]) (M' := mm M f g) (ps := []) rfl trivial ?_
        refine go_iret rfl rfl ?_
        rw [show lsV (f (ad 9 91)) (f (ad 9 92)) (f (ad 9 93)) ne e th = -1 from lsV_no (by first | exact Or.inl (fun i h => by rw [hA] at h; cases h; assumption) | exact Or.inr (fun i h => by rw [hB] at h; cases h; assumption))] at hR; exact hR
      · -- ¬ (¬ (f (ad 9 92) ai) = (-1))
        refine go_blk 5 [some (.ref (ad 9 92)), some (.int (f (ad 9 92) bi))] (pc' := 65) (vs' := [.ref (ad 10 0), .int (nI b), .int (nI th), .int (nI e), .int (nI ai), .int (nI bi)]) (st' := [.int (-1), .int (f (ad 9 92) bi)]) (M' := mm M f g) (ps := [ob (mm M f g) (ad 10 0) 12, mR (mm M f g) (ad 10 0) 92 = some (ad 9 92), va_rf (some (ad 9 92)) = .ref (ad 9 92), ob (mm M f g) (ad 9 92) 15, vp_in (nI bi) (mN (mm M f g) (ad 9 92)), (Value.int (f (ad 9 92) ((nI bi).toNatClampNeg))) = .int (f (ad 9 92) bi)]) rfl ⟨hM.1, (hM.r 92 15 600), rfl, (hM.o 92 15 600), (vpi (hM.n 92 15 600) (by omega)), congrArg (fun z => Value.int (f (ad 9 92) z)) (nI_clamp (by omega)), trivial⟩ ?_
        refine go_icmp rfl (fun (c2 : (f (ad 9 92) bi) = (-1)) => ?_) (fun (c2 : ¬ ((f (ad 9 92) bi) = (-1))) => ?_)
        · -- (f (ad 9 92) bi) = (-1)
          refine go_blk 18 [some (.ref (ad 9 93)), some (.int (f (ad 9 93) (3 * ai + th))), some (.ref (ad 9 93)), some (.int (f (ad 9 93) (3 * bi + th)))] (pc' := 94) (vs' := [.ref (ad 10 0), .int (nI b), .int (nI th), .int (nI e), .int (nI ai), .int (nI bi)]) (st' := [.int ((f (ad 9 93) (3 * ai + th)) - (f (ad 9 93) (3 * bi + th))), .int 0]) (M' := mm M f g) (ps := [ob (mm M f g) (ad 10 0) 12, mR (mm M f g) (ad 10 0) 93 = some (ad 9 93), va_rf (some (ad 9 93)) = .ref (ad 9 93), ob (mm M f g) (ad 9 93) 15, vp_in ((3 * (nI ai)) + (nI th)) (mN (mm M f g) (ad 9 93)), (Value.int (f (ad 9 93) (((3 * (nI ai)) + (nI th)).toNatClampNeg))) = .int (f (ad 9 93) (3 * ai + th)), ob (mm M f g) (ad 10 0) 12, mR (mm M f g) (ad 10 0) 93 = some (ad 9 93), va_rf (some (ad 9 93)) = .ref (ad 9 93), ob (mm M f g) (ad 9 93) 15, vp_in ((3 * (nI bi)) + (nI th)) (mN (mm M f g) (ad 9 93)), (Value.int (f (ad 9 93) (((3 * (nI bi)) + (nI th)).toNatClampNeg))) = .int (f (ad 9 93) (3 * bi + th))]) rfl ⟨hM.1, (hM.r 93 15 1800), rfl, (hM.o 93 15 1800), (vp_eq (eq_add (eq_mul (show (3 : Int32) = nI 3 from rfl) rfl) rfl) (vpi (hM.n 93 15 1800) (by omega))), congrArg Value.int ((congrArg (fun z => f (ad 9 93) z) (cl_of (eq_add (eq_mul (show (3 : Int32) = nI 3 from rfl) rfl) rfl) (by omega)))), hM.1, (hM.r 93 15 1800), rfl, (hM.o 93 15 1800), (vp_eq (eq_add (eq_mul (show (3 : Int32) = nI 3 from rfl) rfl) rfl) (vpi (hM.n 93 15 1800) (by omega))), congrArg Value.int ((congrArg (fun z => f (ad 9 93) z) (cl_of (eq_add (eq_mul (show (3 : Int32) = nI 3 from rfl) rfl) rfl) (by omega)))), trivial⟩ ?_
          refine go_callS rfl (by decide) rfl rfl (by omega) rfl (by decide) (by decide) ?_
          refine s_JM_max0 (by omega) ⟨ne_i, ?_⟩
          show Go d 264 0 0 97 [.ref (ad 10 0), .int (nI b), .int (nI th), .int (nI e), .int (nI ai), .int (nI bi)] [.int (mx0 ((f (ad 9 93) (3 * ai + th)) - (f (ad 9 93) (3 * bi + th))))] (mm M f g) R
          refine go_iret rfl rfl ?_
          rw [lsV_yes hA hB (by first | assumption | exact Classical.not_not.mp (by assumption)) (by first | assumption | exact Classical.not_not.mp (by assumption))] at hR; exact hR
        · -- ¬ ((f (ad 9 92) bi) = (-1))
          refine go_blk 1 [] (pc' := 69) (vs' := [.ref (ad 10 0), .int (nI b), .int (nI th), .int (nI e), .int (nI ai), .int (nI bi)]) (st' := [.int (-1)]) (M' := mm M f g) (ps := []) rfl trivial ?_
          refine go_iret rfl rfl ?_
          rw [show lsV (f (ad 9 91)) (f (ad 9 92)) (f (ad 9 93)) ne e th = -1 from lsV_no (by first | exact Or.inl (fun i h => by rw [hA] at h; cases h; assumption) | exact Or.inr (fun i h => by rw [hB] at h; cases h; assumption))] at hR; exact hR

