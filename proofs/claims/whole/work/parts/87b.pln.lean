/-! call: plan -/
theorem nI_ushr {R n : Nat} (hR : R < 2 ^ 31) (hn : n < 32) : ((nI R).toUInt32 >>> ((nI n).toUInt32 &&& Int32.toUInt32 31)).toInt32 = nI (R / 2 ^ n) := by
  apply i32_bv
  apply BitVec.eq_of_getLsbD_eq
  intro i hi
  have := b_ushr n hn (nI R) i
  unfold bt at this
  rw [this, nI_bv, nI_bv, BitVec.getLsbD_ofNat, BitVec.getLsbD_ofNat, Nat.testBit_div_two_pow, Nat.add_comm i n]
  by_cases z : n + i < 32
  · simp [z, hi]
  · have : R.testBit (n + i) = false := Nat.testBit_lt_two_pow (Nat.lt_of_lt_of_le hR (Nat.pow_le_pow_right (n := 2) (by decide) (by omega)))
    simp [this]
theorem octD_dig : ∀ {n : Nat} {x : List Nat} {i : Nat}, (∀ z ∈ x, z ≤ 7) → i < n → octD n x / 8 ^ (n - 1 - i) % 8 = x.getD i 7
  | 0, _, _, _, h => absurd h (by omega)
  | n + 1, x, i, hx, hi => by
    have hh : x.headD 7 ≤ 7 := by
      cases x with
      | nil => exact Nat.le_refl _
      | cons c x => exact hx c (List.mem_cons_self ..)
    have ht : ∀ z ∈ x.tail, z ≤ 7 := fun z hz => hx z (List.mem_of_mem_tail hz)
    have lt := octD_lt (n := n) ht
    show (x.headD 7 * 8 ^ n + octD n x.tail) / 8 ^ (n + 1 - 1 - i) % 8 = _
    cases i with
    | zero =>
      rw [show n + 1 - 1 - 0 = n by omega, Nat.mul_comm, Nat.mul_add_div (Nat.pow_pos (by decide)), Nat.div_eq_of_lt lt, Nat.add_zero, Nat.mod_eq_of_lt (by omega)]
      cases x with
      | nil => rfl
      | cons c x => rfl
    | succ i =>
      have ih := octD_dig (n := n) (x := x.tail) (i := i) ht (by omega)
      rw [show n + 1 - 1 - (i + 1) = n - 1 - i by omega]
      have e : x.headD 7 * 8 ^ n = 8 ^ (n - 1 - i) * (x.headD 7 * 8 ^ i * 8) := by
        rw [show n = (n - 1 - i) + i + 1 by omega, Nat.pow_succ, Nat.pow_add]
        rw [show (n - 1 - i) + i + 1 - 1 - i = n - 1 - i by omega]
        simp only [Nat.mul_assoc, Nat.mul_left_comm]
      rw [e, Nat.mul_add_div (Nat.pow_pos (by decide)), Nat.add_mod, Nat.mul_mod_left, Nat.zero_add, Nat.mod_mod, ih]
      cases x with
      | nil => rfl
      | cons c x => rfl
theorem sh_i : ∀ i, i < 7 → (3 * (6 - nI i) : Int32) = nI (3 * (6 - i)) := by decide +kernel
theorem s_Pl_digit {d : Nat} {M : Mem} {f : Nat → Nat → Int32} {g : Nat → Nat → Int64} {R : Option Value → Mem → Prop} {x : List Nat} {i : Nat} (hd : 1 ≤ d) (hx : ∀ z ∈ x, z ≤ 7) (hi : i < 7) (hR : R (some (.int (nI (x.getD i 7)))) (mm M f g)) : Call d 50 [.int (nI (octD 7 x)), .int (nI i)] (mm M f g) R := by
  have lt := octD_lt (n := 7) hx
  have ev : (((nI (octD 7 x)).toUInt32 >>> ((3 * (6 - nI i) : Int32).toUInt32 &&& Int32.toUInt32 31)).toInt32 &&& 7) = nI (x.getD i 7) := by
    rw [sh_i i hi, nI_ushr (by omega) (by omega), show (7 : Int32) = nI 7 from rfl, nI_and, show (7 : Nat) = 2 ^ 3 - 1 from rfl, Nat.and_two_pow_sub_one_eq_mod]
    have := octD_dig (n := 7) (i := i) hx hi
    rw [show 7 - 1 - i = 6 - i by omega, show (8 : Nat) = 2 ^ 3 from rfl, ← Nat.pow_mul] at this
    rw [show (2 ^ 3 - 1 : Nat) = 7 from rfl] at *
    rw [this]
  show Go d 50 0 0 0 [.int (nI (octD 7 x)), .int (nI i)] [] (mm M f g) R
  refine go_blk 2 [] (pc' := 2) (vs' := [.int (nI (octD 7 x)), .int (nI i)]) (st' := [.int (nI i), .int (nI (octD 7 x))]) (M' := mm M f g) (ps := []) rfl trivial ?_
  refine go_callS rfl (by decide) rfl rfl (by omega) rfl (by decide) (by decide) ?_
  show Go (d - 1) 51 0 0 0 [.int (nI i)] [] (mm M f g) _
  refine go_blk 5 [] (pc' := 6) (vs' := [.int (nI i)]) (st' := [.int (3 * (6 - (nI i)))]) (M' := mm M f g) (ps := []) rfl trivial ?_
  refine go_iret rfl rfl ?_
  refine ⟨ne_i, ?_⟩
  show Go d 50 0 0 5 [.int (nI (octD 7 x)), .int (nI i)] [.int (3 * (6 - (nI i))), .int (nI (octD 7 x))] (mm M f g) R
  refine go_blk 3 [] (pc' := 9) (vs' := [.int (nI (octD 7 x)), .int (nI i)]) (st' := [.int ((((nI (octD 7 x)).toUInt32 >>> ((3 * (6 - (nI i))).toUInt32 &&& Int32.toUInt32 31)).toInt32) &&& 7)]) (M' := mm M f g) (ps := []) rfl trivial ?_
  refine go_iret rfl rfl ?_
  rw [ev]
  exact hR
/-- a row copied -/
def cpR (ad : Nat → Nat → Nat) (t : Nat) (l : List Nat) (f : Nat → Nat → Int32) (i : Nat) (f' : Nat → Nat → Int32) : Prop := (∀ a j k, ¬ (a = 3 ∧ j = t ∧ k = 4) → ¬ (a = 5 ∧ j = t) → f' (ad a j) k = f (ad a j) k) ∧ f' (ad 3 t) 4 = nI i ∧ ∀ j, j < i → f' (ad 5 t) j = nI (l.getD j 0)

set_option maxHeartbeats 4000000 in
set_option maxRecDepth 100000 in
theorem s_Pl_copyRow {d : Nat} {M : Mem} {f : Nat → Nat → Int32} {g : Nat → Nat → Int64} {ad : Nat → Nat → Nat} {R : Option Value → Mem → Prop} {td l : List Nat} {nt t : Nat} {bk : Nat → Nat} (hd : 3 ≤ d) (hi : Inj ad) (hF : Fx M ad) (hT : Ts M ad nt) (ht : t < nt) (nt3 : nt ≤ 3) (T7 : td.length ≤ 7) (h7 : ∀ c ∈ td, c < 7) (l7 : l.length ≤ 7) (hl : ∀ c ∈ l, c ∈ td) (c2 : f (ad 0 7) 2 = nI td.length) (w0 : f (ad 3 t) 0 = nI t) (h30 : f (ad 0 30) t = nI (octR td l 7)) (hj : ∀ k, k < td.length → mR M (ad 0 17) k = some (ad 6 (bk k)) ∧ ob M (ad 6 (bk k)) 3 ∧ f (ad 6 (bk k)) 1 = nI (td.getD k 0)) (hR : ∀ f', cpR ad t l f l.length f' → R none (mm M f' g)) : Call d 49 [.ref (ad 0 7), .ref (ad 3 t)] (mm M f g) R := by
  obtain ⟨x, hx⟩ : ∃ x, l.map td.idxOf = x := ⟨_, rfl⟩
  rw [octR_D, hx] at h30
  have xl : x.length = l.length := by rw [← hx, List.length_map]
  have xT : ∀ z ∈ x, z < td.length := fun z hz => by
    rw [← hx] at hz
    obtain ⟨c, hc, rfl⟩ := List.mem_map.mp hz
    exact List.idxOf_lt_length_of_mem (hl c hc)
  have x7 : ∀ z ∈ x, z ≤ 7 := fun z hz => by have := xT z hz; omega
  have xi : ∀ i, i < l.length → x.getD i 7 = td.idxOf (l.getD i 0) := fun i hlt => by
    rw [← hx, List.getD_eq_getElem?_getD, List.getElem?_map, List.getD_eq_getElem?_getD, List.getElem?_eq_getElem hlt]; rfl
  obtain ⟨q, hq⟩ : ∃ q, td.length = q := ⟨_, rfl⟩
  rw [hq] at c2 T7
  obtain ⟨L, hL⟩ : ∃ L, l.length = L := ⟨_, rfl⟩
  rw [hL] at l7 xi hR
  have loop : ∀ i, i ≤ L → ∀ (f' : Nat → Nat → Int32) (u3 : Value), cpR ad t l f i f' → Go d 49 0 0 7 [.ref (ad 0 7), .ref (ad 3 t), .int (nI i), u3] [] (mm M f' g) R := by
    refine up_ind (P := fun i => ∀ (f' : Nat → Nat → Int32) (u3 : Value), cpR ad t l f i f' → Go d 49 0 0 7 [.ref (ad 0 7), .ref (ad 3 t), .int (nI i), u3] [] (mm M f' g) R) L (fun f' u3 k => ?_) (fun i hlt ih f' u3 k => ?_)
    · have k2 : f' (ad 0 7) 2 = nI q := (k.1 0 7 2 (by omega) (by omega)).trans c2
      have k0 : f' (ad 3 t) 0 = nI t := (k.1 3 t 0 (by omega) (by omega)).trans w0
      have k30 : f' (ad 0 30) t = nI (octD 7 x) := (k.1 0 30 t (by omega) (by omega)).trans h30
      by_cases e7 : L = 7
      ·
        show Go d 49 0 0 7 [.ref (ad 0 7), .ref (ad 3 t), .int (nI L), u3] [] (mm M f' g) R
        refine go_blk 2 [] (pc' := 10) (vs' := [.ref (ad 0 7), .ref (ad 3 t), .int (nI L), u3]) (st' := [.int 7, .int (nI L)]) (M' := mm M f' g) (ps := []) rfl trivial ?_
        refine go_icmp rfl (fun _ => ?_) (fun (z : ¬ (7 ≤ (nI L))) => absurd (show 7 ≤ (nI L) from (by rw [e7]; decide)) z)
        refine go_vret rfl rfl ?_
        exact hR f' k
      · have eD : x.getD L 7 = 7 := by rw [List.getD_eq_getElem?_getD, List.getElem?_eq_none (by omega)]; rfl
        show Go d 49 0 0 7 [.ref (ad 0 7), .ref (ad 3 t), .int (nI L), u3] [] (mm M f' g) R
        refine go_blk 2 [] (pc' := 10) (vs' := [.ref (ad 0 7), .ref (ad 3 t), .int (nI L), u3]) (st' := [.int 7, .int (nI L)]) (M' := mm M f' g) (ps := []) rfl trivial ?_
        refine go_icmp rfl (fun (z : 7 ≤ (nI L)) => absurd z (show ¬ (7 ≤ (nI L)) from (Int32.not_le.mpr ((nI_lts (a := L) (b := 7) (by omega) (by decide)).mpr (by omega))))) (fun _ => ?_)
        refine go_blk 6 [some (.ref (ad 0 30)), some (.int (nI t)), some (.int (nI (octD 7 x)))] (pc' := 23) (vs' := [.ref (ad 0 7), .ref (ad 3 t), .int (nI L), u3]) (st' := [.int (nI L), .int (nI (octD 7 x))]) (M' := mm M f' g) (ps := [ob (mm M f' g) (ad 0 7) 6, mR (mm M f' g) (ad 0 7) 18 = some (ad 0 30), va_rf (some (ad 0 30)) = .ref (ad 0 30), ob (mm M f' g) (ad 3 t) 8, (Value.int (f' (ad 3 t) 0)) = .int (nI t), ob (mm M f' g) (ad 0 30) 15, vp_in (nI t) (mN (mm M f' g) (ad 0 30)), (Value.int (f' (ad 0 30) ((nI t).toNatClampNeg))) = .int (nI (octD 7 x))]) rfl ⟨(hF.o 7), (hF.r 7 18 30), rfl, (hT t (by assumption)).2.1, congrArg Value.int k0, (hF.o 30), (vpi (hF.n 30) (show _ < 3 by omega)), congrArg Value.int ((congrArg (fun z => f' (ad 0 30) z) (nI_clamp (by omega))).trans k30), trivial⟩ ?_
        refine go_callS rfl (by decide) rfl rfl (by omega) rfl (by decide) (by decide) ?_
        refine s_Pl_digit (by omega) x7 (by omega) ⟨ne_i, ?_⟩
        show Go d 49 0 0 26 [.ref (ad 0 7), .ref (ad 3 t), .int (nI L), u3] [.int (nI (x.getD L 7))] (mm M f' g) R
        rw [eD]
        show Go d 49 0 0 26 [.ref (ad 0 7), .ref (ad 3 t), .int (nI L), u3] [.int (nI 7)] (mm M f' g) R
        refine go_blk 4 [some (.int (nI q))] (pc' := 32) (vs' := [.ref (ad 0 7), .ref (ad 3 t), .int (nI L), .int (nI 7)]) (st' := [.int (nI q), .int (nI 7)]) (M' := mm M f' g) (ps := [ob (mm M f' g) (ad 0 7) 6, (Value.int (f' (ad 0 7) 2)) = .int (nI q)]) rfl ⟨(hF.o 7), congrArg Value.int k2, trivial⟩ ?_
        refine go_icmp rfl (fun (z : (nI 7) < nI q) => absurd z (show ¬ ((nI 7) < nI q) from (Int32.not_lt.mpr ((nI_les (a := q) (b := 7) (by omega) (by decide)).mpr T7)))) (fun _ => ?_)
        refine go_vret rfl rfl ?_
        exact hR f' k
    · have k2 : f' (ad 0 7) 2 = nI q := (k.1 0 7 2 (by omega) (by omega)).trans c2
      have k0 : f' (ad 3 t) 0 = nI t := (k.1 3 t 0 (by omega) (by omega)).trans w0
      have k30 : f' (ad 0 30) t = nI (octD 7 x) := (k.1 0 30 t (by omega) (by omega)).trans h30
      have hm : l.getD i 0 ∈ td := hl _ (getD_in (by omega))
      obtain ⟨c, hc⟩ : ∃ c, l.getD i 0 = c := ⟨_, rfl⟩
      rw [hc] at hm
      obtain ⟨k0x, hk0⟩ : ∃ k0x, td.idxOf c = k0x := ⟨_, rfl⟩
      have eK : x.getD i 7 = k0x := by rw [xi i hlt, hc, hk0]
      have kl : k0x < q := by rw [← hk0, ← hq]; exact List.idxOf_lt_length_of_mem hm
      obtain ⟨j1, j2, j3⟩ := hj k0x (by omega)
      have ec : td.getD k0x 0 = c := by
        have hl' : td.idxOf c < td.length := List.idxOf_lt_length_of_mem hm
        rw [← hk0, List.getD_eq_getElem?_getD, List.getElem?_eq_getElem hl']
        exact List.getElem_idxOf hl'
      rw [ec] at j3
      have e1 : f' (ad 6 (bk k0x)) 1 = nI c := (k.1 6 _ 1 (by omega) (by omega)).trans j3
      show Go d 49 0 0 7 [.ref (ad 0 7), .ref (ad 3 t), .int (nI i), u3] [] (mm M f' g) R
      refine go_blk 2 [] (pc' := 10) (vs' := [.ref (ad 0 7), .ref (ad 3 t), .int (nI i), u3]) (st' := [.int 7, .int (nI i)]) (M' := mm M f' g) (ps := []) rfl trivial ?_
      refine go_icmp rfl (fun (z : 7 ≤ (nI i)) => absurd z (show ¬ (7 ≤ (nI i)) from (Int32.not_le.mpr ((nI_lts (a := i) (b := 7) (by omega) (by decide)).mpr (by omega))))) (fun _ => ?_)
      refine go_blk 6 [some (.ref (ad 0 30)), some (.int (nI t)), some (.int (nI (octD 7 x)))] (pc' := 23) (vs' := [.ref (ad 0 7), .ref (ad 3 t), .int (nI i), u3]) (st' := [.int (nI i), .int (nI (octD 7 x))]) (M' := mm M f' g) (ps := [ob (mm M f' g) (ad 0 7) 6, mR (mm M f' g) (ad 0 7) 18 = some (ad 0 30), va_rf (some (ad 0 30)) = .ref (ad 0 30), ob (mm M f' g) (ad 3 t) 8, (Value.int (f' (ad 3 t) 0)) = .int (nI t), ob (mm M f' g) (ad 0 30) 15, vp_in (nI t) (mN (mm M f' g) (ad 0 30)), (Value.int (f' (ad 0 30) ((nI t).toNatClampNeg))) = .int (nI (octD 7 x))]) rfl ⟨(hF.o 7), (hF.r 7 18 30), rfl, (hT t (by assumption)).2.1, congrArg Value.int k0, (hF.o 30), (vpi (hF.n 30) (show _ < 3 by omega)), congrArg Value.int ((congrArg (fun z => f' (ad 0 30) z) (nI_clamp (by omega))).trans k30), trivial⟩ ?_
      refine go_callS rfl (by decide) rfl rfl (by omega) rfl (by decide) (by decide) ?_
      refine s_Pl_digit (by omega) x7 (by omega) ⟨ne_i, ?_⟩
      show Go d 49 0 0 26 [.ref (ad 0 7), .ref (ad 3 t), .int (nI i), u3] [.int (nI (x.getD i 7))] (mm M f' g) R
      rw [eK]
      show Go d 49 0 0 26 [.ref (ad 0 7), .ref (ad 3 t), .int (nI i), u3] [.int (nI k0x)] (mm M f' g) R
      refine go_blk 4 [some (.int (nI q))] (pc' := 32) (vs' := [.ref (ad 0 7), .ref (ad 3 t), .int (nI i), .int (nI k0x)]) (st' := [.int (nI q), .int (nI k0x)]) (M' := mm M f' g) (ps := [ob (mm M f' g) (ad 0 7) 6, (Value.int (f' (ad 0 7) 2)) = .int (nI q)]) rfl ⟨(hF.o 7), congrArg Value.int k2, trivial⟩ ?_
      refine go_icmp rfl (fun _ => ?_) (fun (z : ¬ ((nI k0x) < nI q)) => absurd (show (nI k0x) < nI q from ((nI_lts (a := k0x) (b := q) (by omega) (by omega)).mpr (by omega))) z)
      refine go_blk 16 [some (.ref (ad 5 t)), some (.ref (ad 0 17)), some (.ref (ad 6 (bk k0x))), some (.int (nI c))] (pc' := 7) (vs' := [.ref (ad 0 7), .ref (ad 3 t), .int ((nI i) + 1), .int (nI k0x)]) (st' := []) (M' := mm M (up2 (up2 f' (ad 5 t) ((nI i).toNatClampNeg) (nI c)) (ad 3 t) 4 ((nI i) + 1)) g) (ps := [ob (mm M f' g) (ad 3 t) 8, mR (mm M f' g) (ad 3 t) 3 = some (ad 5 t), va_rf (some (ad 5 t)) = .ref (ad 5 t), ob (mm M f' g) (ad 0 7) 6, mR (mm M f' g) (ad 0 7) 1 = some (ad 0 17), va_rf (some (ad 0 17)) = .ref (ad 0 17), ob (mm M f' g) (ad 0 17) 19, 17 ≤ 19 ∧ 19 < 22, vp_in (nI k0x) (mN (mm M f' g) (ad 0 17)), mR (mm M f' g) (ad 0 17) ((nI k0x).toNatClampNeg) = some (ad 6 (bk k0x)), va_rf (some (ad 6 (bk k0x))) = .ref (ad 6 (bk k0x)), ob (mm M f' g) (ad 6 (bk k0x)) 3, (Value.int (f' (ad 6 (bk k0x)) 1)) = .int (nI c), ob (mm M f' g) (ad 5 t) 15, vp_in (nI i) (mN (mm M f' g) (ad 5 t)), ob (mm M (up2 f' (ad 5 t) ((nI i).toNatClampNeg) (nI c)) g) (ad 3 t) 8]) rfl ⟨(hT t (by assumption)).2.1, (hT t (by assumption)).2.2.2.1, rfl, (hF.o 7), (hF.r 7 1 17), rfl, (hF.o 17), (by decide), (vpi (hF.n 17) (show _ < 7 by omega)), (cl_rf rfl (by omega) j1), rfl, j2, congrArg Value.int e1, (hT t (by assumption)).2.2.2.2.1, (vpi (hT t (by assumption)).2.2.2.2.2 (by omega)), (hT t (by assumption)).2.1, trivial⟩ ?_
      rw [nI_clamp (n := i) (by omega)]
      rw [show nI i + 1 = nI (i + 1) from nI_add i 1]
      refine ih _ _ ⟨fun a j n z1 z2 => ?_, up2_s _ _ _ _, fun j hj' => ?_⟩
      · rw [up2_n _ _ (fun y => z1 ⟨(hi _ _ _ _ y.1).1, (hi _ _ _ _ y.1).2, y.2⟩), up2_n _ _ (fun y => z2 (hi _ _ _ _ y.1))]; exact k.1 a j n z1 z2
      · rw [up2_n _ _ (fun y => absurd (hi _ _ _ _ y.1).1 (by decide))]
        by_cases e : j = i
        · rw [e, up2_s, hc]
        · rw [up2_n _ _ (fun y => e y.2)]; exact k.2.2 j (by omega)
  show Go d 49 0 0 0 [.ref (ad 0 7), .ref (ad 3 t), .retAddr 0, .retAddr 0] [] (mm M f g) R
  refine go_blk 5 [] (pc' := 7) (vs' := [.ref (ad 0 7), .ref (ad 3 t), .int 0, .retAddr 0]) (st' := []) (M' := mm M (up2 f (ad 3 t) 4 0) g) (ps := [ob (mm M f g) (ad 3 t) 8]) rfl ⟨(hT t (by assumption)).2.1, trivial⟩ ?_
  exact loop 0 (Nat.zero_le _) _ _ ⟨fun a j n z1 z2 => up2_n _ _ (fun y => z1 ⟨(hi _ _ _ _ y.1).1, (hi _ _ _ _ y.1).2, y.2⟩), up2_s _ _ _ _, fun j hj' => absurd hj' (by omega)⟩

set_option maxHeartbeats 4000000 in
set_option maxRecDepth 100000 in
theorem lp_CY_plan {d : Nat} {M : Mem} {f : Nat → Nat → Int32} {g : Nat → Nat → Int64} {ad : Nat → Nat → Nat} {R : Option Value → Mem → Prop} {td : List Nat} {nt : Nat} {bk : Nat → Nat} {ρ : Nat → List Nat} (hd : 5 ≤ d) (hi : Inj ad) (hF : Fx M ad) (hT : Ts M ad nt) (nt3 : nt ≤ 3) (T7 : td.length ≤ 7) (h7 : ∀ c ∈ td, c < 7) (l7 : ∀ t, t < nt → (ρ t).length ≤ 7 ∧ ∀ c ∈ ρ t, c ∈ td) (c2 : f (ad 0 7) 2 = nI td.length) (c5 : f (ad 0 0) 5 = nI nt) (w0 : ∀ t, t < nt → f (ad 3 t) 0 = nI t) (h30 : ∀ t, t < nt → f (ad 0 30) t = nI (octR td (ρ t) 7)) (hj : ∀ k, k < td.length → mR M (ad 0 17) k = some (ad 6 (bk k)) ∧ ob M (ad 6 (bk k)) 3 ∧ f (ad 6 (bk k)) 1 = nI (td.getD k 0)) (hR : ∀ f', ((∀ a j k, ¬ (a = 3 ∧ k = 4) → ¬ a = 5 → f' (ad a j) k = f (ad a j) k) ∧ ∀ t', t' < nt → f' (ad 3 t') 4 = nI (ρ t').length ∧ ∀ i, i < (ρ t').length → f' (ad 5 t') i = nI ((ρ t').getD i 0)) → Go d 134 0 0 38 [.ref (ad 0 0), .int (nI nt)] [] (mm M f' g) R) : ∀ t, t ≤ nt → ∀ (f' : Nat → Nat → Int32), ((∀ a j k, ¬ (a = 3 ∧ k = 4) → ¬ a = 5 → f' (ad a j) k = f (ad a j) k) ∧ ∀ t', t' < t → f' (ad 3 t') 4 = nI (ρ t').length ∧ ∀ i, i < (ρ t').length → f' (ad 5 t') i = nI ((ρ t').getD i 0)) → Go d 134 0 0 11 [.ref (ad 0 0), .int (nI t)] [] (mm M f' g) R := by
  refine up_ind (P := fun t => ∀ (f' : Nat → Nat → Int32), ((∀ a j k, ¬ (a = 3 ∧ k = 4) → ¬ a = 5 → f' (ad a j) k = f (ad a j) k) ∧ ∀ t', t' < t → f' (ad 3 t') 4 = nI (ρ t').length ∧ ∀ i, i < (ρ t').length → f' (ad 5 t') i = nI ((ρ t').getD i 0)) → Go d 134 0 0 11 [.ref (ad 0 0), .int (nI t)] [] (mm M f' g) R) nt (fun f' k => ?_) (fun t ht ih f' k => ?_)
  ·
    show Go d 134 0 0 11 [.ref (ad 0 0), .int (nI nt)] [] (mm M f' g) R
    refine go_blk 3 [some (.int (nI nt))] (pc' := 16) (vs' := [.ref (ad 0 0), .int (nI nt)]) (st' := [.int (nI nt), .int (nI nt)]) (M' := mm M f' g) (ps := [ob (mm M f' g) (ad 0 0) 11, (Value.int (f' (ad 0 0) 5)) = .int (nI nt)]) rfl ⟨(hF.o 0), congrArg Value.int ((k.1 0 0 5 (by omega) (by omega)).trans c5), trivial⟩ ?_
    refine go_icmp rfl (fun _ => ?_) (fun (z : ¬ (nI nt ≤ (nI nt))) => absurd (show nI nt ≤ (nI nt) from Int32.le_refl _) z)
    exact hR f' k
  ·
    show Go d 134 0 0 11 [.ref (ad 0 0), .int (nI t)] [] (mm M f' g) R
    refine go_blk 3 [some (.int (nI nt))] (pc' := 16) (vs' := [.ref (ad 0 0), .int (nI t)]) (st' := [.int (nI nt), .int (nI t)]) (M' := mm M f' g) (ps := [ob (mm M f' g) (ad 0 0) 11, (Value.int (f' (ad 0 0) 5)) = .int (nI nt)]) rfl ⟨(hF.o 0), congrArg Value.int ((k.1 0 0 5 (by omega) (by omega)).trans c5), trivial⟩ ?_
    refine go_icmp rfl (fun (z : nI nt ≤ (nI t)) => absurd z (show ¬ (nI nt ≤ (nI t)) from (Int32.not_le.mpr ((nI_lts (a := t) (b := nt) (by omega) (by omega)).mpr ht)))) (fun _ => ?_)
    refine go_blk 6 [some (.ref (ad 0 7)), some (.ref (ad 0 3)), some (.ref (ad 3 t))] (pc' := 29) (vs' := [.ref (ad 0 0), .int (nI t)]) (st' := [.ref (ad 3 t), .ref (ad 0 7)]) (M' := mm M f' g) (ps := [ob (mm M f' g) (ad 0 0) 11, mR (mm M f' g) (ad 0 0) 14 = some (ad 0 7), va_rf (some (ad 0 7)) = .ref (ad 0 7), ob (mm M f' g) (ad 0 0) 11, mR (mm M f' g) (ad 0 0) 4 = some (ad 0 3), va_rf (some (ad 0 3)) = .ref (ad 0 3), ob (mm M f' g) (ad 0 3) 20, 17 ≤ 20 ∧ 20 < 22, vp_in (nI t) (mN (mm M f' g) (ad 0 3)), mR (mm M f' g) (ad 0 3) ((nI t).toNatClampNeg) = some (ad 3 t), va_rf (some (ad 3 t)) = .ref (ad 3 t)]) rfl ⟨(hF.o 0), (hF.r 0 14 7), rfl, (hF.o 0), (hF.r 0 4 3), rfl, (hF.o 3), (by decide), (vpi (hF.n 3) (show _ < 3 by omega)), (cl_rf rfl (by omega) (hT t (by assumption)).1), rfl, trivial⟩ ?_
    refine go_callV rfl rfl rfl (by omega) rfl (by decide) (by decide) (hF.o 7) ?_
    refine s_Pl_copyRow (td := td) (l := ρ t) (bk := bk) (by omega) hi hF hT ht nt3 T7 h7 (l7 t ht).1 (l7 t ht).2 ((k.1 0 7 2 (by omega) (by omega)).trans c2) ((k.1 3 t 0 (by omega) (by omega)).trans (w0 t ht)) ((k.1 0 30 t (by omega) (by omega)).trans (h30 t ht)) (fun j hj' => ⟨(hj j hj').1, (hj j hj').2.1, (k.1 6 _ 1 (by omega) (by omega)).trans (hj j hj').2.2⟩) (fun f2 e => ⟨ne_v, ?_⟩)
    · -- ('v',)
      show Go d 134 0 0 32 [.ref (ad 0 0), .int (nI t)] [] (mm M f2 g) R
      refine go_blk 2 [] (pc' := 11) (vs' := [.ref (ad 0 0), .int ((nI t) + 1)]) (st' := []) (M' := mm M f2 g) (ps := []) rfl trivial ?_
      rw [show nI t + 1 = nI (t + 1) from nI_add t 1]
      refine ih f2 ⟨fun a j n z1 z2 => (e.1 a j n (by omega) (by omega)).trans (k.1 a j n z1 z2), fun t' ht' => ?_⟩
      by_cases z : t' = t
      · rw [z]; exact e.2
      · refine ⟨(e.1 3 t' 4 (by omega) (by omega)).trans (k.2 t' (by omega)).1, fun i hlt => (e.1 5 t' i (by omega) (by omega)).trans ((k.2 t' (by omega)).2 i hlt)⟩

set_option maxHeartbeats 4000000 in
set_option maxRecDepth 100000 in
theorem lp_Mo_plan {d : Nat} {M : Mem} {f : Nat → Nat → Int32} {g : Nat → Nat → Int64} {ad : Nat → Nat → Nat} {R : Option Value → Mem → Prop} (hd : 1 ≤ d) (hi : Inj ad) (hM : Mx M ad) (hR : R (some (.int 1)) (mm M (cpF ad 51 56 3 (cpF ad 50 55 21 f)) g)) : Go d 222 0 0 11 [.ref (ad 10 0), .int 0] [] (mm M f g) R := by
  have two : ∀ k, k ≤ 3 → Go d 222 0 0 37 [.ref (ad 10 0), .int (nI k)] [] (mm M (cpF ad 51 56 k (cpF ad 50 55 21 f)) g) R := by
    refine up_ind (P := fun k => Go d 222 0 0 37 [.ref (ad 10 0), .int (nI k)] [] (mm M (cpF ad 51 56 k (cpF ad 50 55 21 f)) g) R) 3 ?_ (fun k hlt ih => ?_)
    ·
      show Go d 222 0 0 37 [.ref (ad 10 0), .int (nI 3)] [] (mm M (cpF ad 51 56 3 (cpF ad 50 55 21 f)) g) R
      refine go_blk 2 [] (pc' := 39) (vs' := [.ref (ad 10 0), .int (nI 3)]) (st' := [.int 3, .int (nI 3)]) (M' := mm M (cpF ad 51 56 3 (cpF ad 50 55 21 f)) g) (ps := []) rfl trivial ?_
      refine go_icmp rfl (fun _ => ?_) (fun (z : ¬ (3 ≤ (nI 3))) => absurd (show 3 ≤ (nI 3) from (by decide)) z)
      refine go_blk 1 [] (pc' := 61) (vs' := [.ref (ad 10 0), .int (nI 3)]) (st' := [.int 1]) (M' := mm M (cpF ad 51 56 3 (cpF ad 50 55 21 f)) g) (ps := []) rfl trivial ?_
      refine go_zret rfl rfl (Or.inr rfl) ?_
      exact hR
    ·
      show Go d 222 0 0 37 [.ref (ad 10 0), .int (nI k)] [] (mm M (cpF ad 51 56 k (cpF ad 50 55 21 f)) g) R
      refine go_blk 2 [] (pc' := 39) (vs' := [.ref (ad 10 0), .int (nI k)]) (st' := [.int 3, .int (nI k)]) (M' := mm M (cpF ad 51 56 k (cpF ad 50 55 21 f)) g) (ps := []) rfl trivial ?_
      refine go_icmp rfl (fun (z : 3 ≤ (nI k)) => absurd z (show ¬ (3 ≤ (nI k)) from (Int32.not_le.mpr ((nI_lts (a := k) (b := 3) (by omega) (by omega)).mpr hlt)))) (fun _ => ?_)
      refine go_blk 10 [some (.ref (ad 9 51)), some (.ref (ad 9 56)), some (.int (cpF ad 50 55 21 f (ad 9 56) k))] (pc' := 37) (vs' := [.ref (ad 10 0), .int ((nI k) + 1)]) (st' := []) (M' := mm M (up2 (cpF ad 51 56 k (cpF ad 50 55 21 f)) (ad 9 51) ((nI k).toNatClampNeg) (cpF ad 50 55 21 f (ad 9 56) k)) g) (ps := [ob (mm M (cpF ad 51 56 k (cpF ad 50 55 21 f)) g) (ad 10 0) 12, mR (mm M (cpF ad 51 56 k (cpF ad 50 55 21 f)) g) (ad 10 0) 51 = some (ad 9 51), va_rf (some (ad 9 51)) = .ref (ad 9 51), ob (mm M (cpF ad 51 56 k (cpF ad 50 55 21 f)) g) (ad 10 0) 12, mR (mm M (cpF ad 51 56 k (cpF ad 50 55 21 f)) g) (ad 10 0) 56 = some (ad 9 56), va_rf (some (ad 9 56)) = .ref (ad 9 56), ob (mm M (cpF ad 51 56 k (cpF ad 50 55 21 f)) g) (ad 9 56) 15, vp_in (nI k) (mN (mm M (cpF ad 51 56 k (cpF ad 50 55 21 f)) g) (ad 9 56)), (Value.int ((cpF ad 51 56 k (cpF ad 50 55 21 f)) (ad 9 56) ((nI k).toNatClampNeg))) = .int (cpF ad 50 55 21 f (ad 9 56) k), ob (mm M (cpF ad 51 56 k (cpF ad 50 55 21 f)) g) (ad 9 51) 15, vp_in (nI k) (mN (mm M (cpF ad 51 56 k (cpF ad 50 55 21 f)) g) (ad 9 51))]) rfl ⟨hM.1, (hM.r 51 15 3), rfl, hM.1, (hM.r 56 15 3), rfl, (hM.o 56 15 3), (vpi (hM.n 56 15 3) (by omega)), congrArg Value.int ((congrArg (fun z => (cpF ad 51 56 k (cpF ad 50 55 21 f)) (ad 9 56) z) (nI_clamp (by omega))).trans (cpF_n hi (by omega))), (hM.o 51 15 3), (vpi (hM.n 51 15 3) (by omega)), trivial⟩ ?_
      rw [nI_clamp (n := k) (by omega)]
      rw [cpF_s, show nI k + 1 = nI (k + 1) from nI_add k 1]
      exact ih
  have one : ∀ k, k ≤ 21 → Go d 222 0 0 11 [.ref (ad 10 0), .int (nI k)] [] (mm M (cpF ad 50 55 k f) g) R := by
    refine up_ind (P := fun k => Go d 222 0 0 11 [.ref (ad 10 0), .int (nI k)] [] (mm M (cpF ad 50 55 k f) g) R) 21 ?_ (fun k hlt ih => ?_)
    ·
      show Go d 222 0 0 11 [.ref (ad 10 0), .int (nI 21)] [] (mm M (cpF ad 50 55 21 f) g) R
      refine go_blk 2 [] (pc' := 14) (vs' := [.ref (ad 10 0), .int (nI 21)]) (st' := [.int 21, .int (nI 21)]) (M' := mm M (cpF ad 50 55 21 f) g) (ps := []) rfl trivial ?_
      refine go_icmp rfl (fun _ => ?_) (fun (z : ¬ (21 ≤ (nI 21))) => absurd (show 21 ≤ (nI 21) from (by decide)) z)
      refine go_blk 2 [] (pc' := 37) (vs' := [.ref (ad 10 0), .int 0]) (st' := []) (M' := mm M (cpF ad 50 55 21 f) g) (ps := []) rfl trivial ?_
      have z := two 0 (Nat.zero_le _)
      rw [cpF_0] at z
      exact z
    ·
      show Go d 222 0 0 11 [.ref (ad 10 0), .int (nI k)] [] (mm M (cpF ad 50 55 k f) g) R
      refine go_blk 2 [] (pc' := 14) (vs' := [.ref (ad 10 0), .int (nI k)]) (st' := [.int 21, .int (nI k)]) (M' := mm M (cpF ad 50 55 k f) g) (ps := []) rfl trivial ?_
      refine go_icmp rfl (fun (z : 21 ≤ (nI k)) => absurd z (show ¬ (21 ≤ (nI k)) from (Int32.not_le.mpr ((nI_lts (a := k) (b := 21) (by omega) (by omega)).mpr hlt)))) (fun _ => ?_)
      refine go_blk 10 [some (.ref (ad 9 50)), some (.ref (ad 9 55)), some (.int (f (ad 9 55) k))] (pc' := 11) (vs' := [.ref (ad 10 0), .int ((nI k) + 1)]) (st' := []) (M' := mm M (up2 (cpF ad 50 55 k f) (ad 9 50) ((nI k).toNatClampNeg) (f (ad 9 55) k)) g) (ps := [ob (mm M (cpF ad 50 55 k f) g) (ad 10 0) 12, mR (mm M (cpF ad 50 55 k f) g) (ad 10 0) 50 = some (ad 9 50), va_rf (some (ad 9 50)) = .ref (ad 9 50), ob (mm M (cpF ad 50 55 k f) g) (ad 10 0) 12, mR (mm M (cpF ad 50 55 k f) g) (ad 10 0) 55 = some (ad 9 55), va_rf (some (ad 9 55)) = .ref (ad 9 55), ob (mm M (cpF ad 50 55 k f) g) (ad 9 55) 15, vp_in (nI k) (mN (mm M (cpF ad 50 55 k f) g) (ad 9 55)), (Value.int ((cpF ad 50 55 k f) (ad 9 55) ((nI k).toNatClampNeg))) = .int (f (ad 9 55) k), ob (mm M (cpF ad 50 55 k f) g) (ad 9 50) 15, vp_in (nI k) (mN (mm M (cpF ad 50 55 k f) g) (ad 9 50))]) rfl ⟨hM.1, (hM.r 50 15 21), rfl, hM.1, (hM.r 55 15 21), rfl, (hM.o 55 15 21), (vpi (hM.n 55 15 21) (by omega)), congrArg Value.int ((congrArg (fun z => (cpF ad 50 55 k f) (ad 9 55) z) (nI_clamp (by omega))).trans (cpF_n hi (by omega))), (hM.o 50 15 21), (vpi (hM.n 50 15 21) (by omega)), trivial⟩ ?_
      rw [nI_clamp (n := k) (by omega)]
      rw [cpF_s, show nI k + 1 = nI (k + 1) from nI_add k 1]
      exact ih
  have z := one 0 (Nat.zero_le _)
  rw [cpF_0] at z
  exact z

