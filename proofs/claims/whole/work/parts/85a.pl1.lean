/-! the problem in natural numbers: a team's state is its minute, its place, its sets -/
theorem rg_n {lo hi : Nat} {x : Int32} (h : rg lo hi x) (hh : hi < 2 ^ 31) : x = nI x.toNatClampNeg ∧ lo ≤ x.toNatClampNeg ∧ x.toNatClampNeg ≤ hi := by
  obtain ⟨k, h1, h2, h3⟩ := h
  rw [h3, nI_clamp (by omega)]
  exact ⟨rfl, h1, h2⟩
theorem rg_ti {lo hi : Nat} {x : Int32} (h : rg lo hi x) (hh : hi < 2 ^ 31) : x.toInt = (x.toNatClampNeg : Int) := by
  have e := (rg_n h hh).1
  have l := (rg_n h hh).2.2
  conv => lhs; rw [e]
  exact nI_toInt (by omega)
section PN
variable (p : Nat → Nat → Int32) (nt nc wk nw : Nat)
def goN (a c l : Nat) : Nat := (mnD p (p 0 0) (7 * wk + c) a c (nI l)).toNatClampNeg
def sbN (t c l : Nat) : Nat := (sbD p t (7 * wk + c) (nI l)).toNatClampNeg
def ouN (c : Nat) : Nat := (p 33 (7 * wk + c)).toNatClampNeg
def duN (c : Nat) : Nat := (p 34 (7 * wk + c)).toNatClampNeg
def ckN (c : Nat) : Nat := (p 35 (7 * wk + c)).toNatClampNeg
def enN (s : Nat × Nat × Nat) (c : Nat) : Nat := max (s.1 + goN p wk s.2.1 c s.2.2) (ouN p wk c) + ckN p wk c
def laN (s : Nat × Nat × Nat) (c : Nat) : Nat := enN p wk s c - duN p wk c
def mvN (t c : Nat) : Nat := match inRw p nt c with
  | some t' => if t' = t then 0 else 1
  | none => 0
def spN (t : Nat) (s : Nat × Nat × Nat) (c : Nat) : Nat × Nat × Nat := (enN p wk s c, 1 + c, sbN p wk t c s.2.2)
def kcN (t : Nat) (s : Nat × Nat × Nat) (c : Nat) : Nat := laN p wk s c * 65536 + mvN p nt t c * 4096 + goN p wk s.2.1 c s.2.2
def stN (t : Nat) : Nat := if p 44 t = 0 then nw else if p 44 t = 3 then (p 46 t).toNatClampNeg
  else max (if p 44 t = 1 then (p 46 t).toNatClampNeg else nw) (ouN p wk (p 45 t).toNatClampNeg) + ckN p wk (p 45 t).toNatClampNeg
def s0N (t : Nat) : Nat × Nat × Nat := (stN p wk nw t, (p 48 t).toNatClampNeg, (p 47 t).toNatClampNeg)
/-- the three parts of a row's cost -/
def rc3 (t : Nat) : Nat × Nat × Nat → List Nat → Nat × Nat × Nat
  | _, [] => (0, 0, 0)
  | s, c :: r => (laN p wk s c + (rc3 t (spN p wk t s c) r).1, mvN p nt t c + (rc3 t (spN p wk t s c) r).2.1, goN p wk s.2.1 c s.2.2 + (rc3 t (spN p wk t s c) r).2.2)
def pl3 (ρ : Nat → List Nat) : Nat → Nat × Nat × Nat
  | 0 => (0, 0, 0)
  | t + 1 => ((pl3 ρ t).1 + (rc3 p nt wk t (s0N p wk nw t) (ρ t)).1, (pl3 ρ t).2.1 + (rc3 p nt wk t (s0N p wk nw t) (ρ t)).2.1, (pl3 ρ t).2.2 + (rc3 p nt wk t (s0N p wk nw t) (ρ t)).2.2)
/-- what is known of the problem's numbers -/
def PW : Prop := (∀ c, c ∈ tdL p nc wk → rg 0 1440 (p 33 (7 * wk + c)) ∧ rg 0 1440 (p 34 (7 * wk + c)) ∧ rg 1 400 (p 35 (7 * wk + c)) ∧ rg 0 12 (p 36 (7 * wk + c))) ∧
  (∀ t, t < nt → stN p wk nw t ≤ 2080 ∧ stV p wk nw t = (stN p wk nw t : Int) ∧ rg 0 7 (p 48 t) ∧ rg 0 30 (p 47 t)) ∧ cnW p nt (p 0 0) ∧ nc ≤ 7
def sOK (k : Nat) (s : Nat × Nat × Nat) : Prop := s.1 ≤ 2080 + 640 * k ∧ s.2.1 < 8 ∧ s.2.2 ≤ 30
end PN
def pk3 (v : Nat × Nat × Nat) : Nat := v.1 * 65536 + v.2.1 * 4096 + v.2.2
section PNT
variable {p : Nat → Nat → Int32} {nt nc wk nw : Nat}
theorem td_lt {c : Nat} (h : c ∈ tdL p nc wk) : c < nc := by
  unfold tdL at h
  exact List.mem_range.mp (List.mem_filter.mp h).1
theorem td_nd : (tdL p nc wk).Nodup := by
  unfold tdL
  exact List.Pairwise.filter _ List.nodup_range
theorem td_as : (tdL p nc wk).Pairwise (· < ·) := by
  unfold tdL
  exact List.Pairwise.filter _ List.pairwise_lt_range
theorem td_le : (tdL p nc wk).length ≤ nc := by
  unfold tdL
  exact Nat.le_trans (List.length_filter_le _ _) (by rw [List.length_range]; exact Nat.le_refl _)
theorem PW.st (h : PW p nt nc wk nw) {t c k : Nat} {s : Nat × Nat × Nat} (ht : t < nt) (hc : c ∈ tdL p nc wk) (hs : sOK k s) :
    sOK (k + 1) (spN p wk t s c) ∧ (goN p wk s.2.1 c s.2.2 ≤ 240 ∧ laN p wk s c ≤ 2080 + 640 * (k + 1) ∧ mvN p nt t c ≤ 1) ∧
    mnD p (p 0 0) (7 * wk + c) s.2.1 c (nI s.2.2) = nI (goN p wk s.2.1 c s.2.2) ∧ sbD p t (7 * wk + c) (nI s.2.2) = nI (sbN p wk t c s.2.2) ∧
    (p 33 (7 * wk + c) = nI (ouN p wk c) ∧ ouN p wk c ≤ 1440) ∧ (p 34 (7 * wk + c) = nI (duN p wk c) ∧ duN p wk c ≤ 1440) ∧ (p 35 (7 * wk + c) = nI (ckN p wk c) ∧ ckN p wk c ≤ 400) := by
  obtain ⟨h1, h2, h3, h4⟩ := h
  obtain ⟨a1, a2, a3, a4⟩ := h1 c hc
  obtain ⟨s1, s2, s3⟩ := hs
  have hc7 : c < 7 := by have := td_lt hc; omega
  have g := rg_n (rg_mn (j := 7 * wk + c) (has := nI s.2.2) h3 s2 hc7) (by decide)
  have b := rg_n (rg_sb (j := 7 * wk + c) (has := nI s.2.2) h3 ht a4 ⟨s.2.2, by omega, s3, rfl⟩) (by decide)
  have o := rg_n a1 (by decide)
  have u := rg_n a2 (by decide)
  have l := rg_n a3 (by decide)
  have hg : goN p wk s.2.1 c s.2.2 ≤ 240 := g.2.2
  have he : enN p wk s c ≤ 2080 + 640 * (k + 1) := by
    unfold enN
    have := o.2.2
    have := l.2.2
    unfold ouN ckN
    omega
  refine ⟨⟨he, by show 1 + c < 8; omega, b.2.2⟩, ⟨hg, ?_, ?_⟩, g.1, b.1, ⟨o.1, o.2.2⟩, ⟨u.1, u.2.2⟩, ⟨l.1, l.2.2⟩⟩
  · unfold laN; omega
  · unfold mvN
    cases inRw p nt c with
    | none => exact Nat.zero_le _
    | some t' => 
      show (if t' = t then 0 else 1) ≤ 1
      split <;> omega
theorem PW.s0 (h : PW p nt nc wk nw) {t : Nat} (ht : t < nt) : sOK 0 (s0N p wk nw t) := by
  obtain ⟨h1, h2, h3, h4⟩ := h
  obtain ⟨a1, a2, a3, a4⟩ := h2 t ht
  exact ⟨a1, by have := (rg_n a3 (by decide)).2.2; show (p 48 t).toNatClampNeg < 8; omega, (rg_n a4 (by decide)).2.2⟩
theorem PW.rc (h : PW p nt nc wk nw) {t : Nat} (ht : t < nt) : ∀ {r : List Nat} {k : Nat} {s : Nat × Nat × Nat}, sOK k s → (∀ c ∈ r, c ∈ tdL p nc wk) →
    (rc3 p nt wk t s r).1 ≤ r.length * (2080 + 640 * (k + r.length)) ∧ (rc3 p nt wk t s r).2.1 ≤ r.length ∧ (rc3 p nt wk t s r).2.2 ≤ 240 * r.length ∧ pk3 (rc3 p nt wk t s r) = rcW (spN p wk) (kcN p nt wk) t s r ∧ sOK (k + r.length) (rsW (spN p wk) t s r)
  | [], k, s, hs, _ => ⟨Nat.zero_le _, Nat.zero_le _, Nat.zero_le _, by simp [pk3, rc3, rcW], hs⟩
  | c :: r, k, s, hs, hr => by
    obtain ⟨g1, ⟨g2, g3, g4⟩, -⟩ := h.st ht (hr c (List.mem_cons_self ..)) hs
    obtain ⟨i1, i2, i3, i4, i5⟩ := h.rc ht (r := r) g1 (fun x hx => hr x (List.mem_cons_of_mem _ hx))
    refine ⟨?_, ?_, ?_, ?_, ?_⟩
    · show laN p wk s c + (rc3 p nt wk t (spN p wk t s c) r).1 ≤ (r.length + 1) * (2080 + 640 * (k + (r.length + 1)))
      rw [show k + 1 + r.length = k + (r.length + 1) by omega] at i1
      rw [Nat.add_mul, Nat.one_mul]
      omega
    · show mvN p nt t c + (rc3 p nt wk t (spN p wk t s c) r).2.1 ≤ r.length + 1
      omega
    · show goN p wk s.2.1 c s.2.2 + (rc3 p nt wk t (spN p wk t s c) r).2.2 ≤ 240 * (r.length + 1)
      omega
    · show (laN p wk s c + (rc3 p nt wk t (spN p wk t s c) r).1) * 65536 + (mvN p nt t c + (rc3 p nt wk t (spN p wk t s c) r).2.1) * 4096 + (goN p wk s.2.1 c s.2.2 + (rc3 p nt wk t (spN p wk t s c) r).2.2) = kcN p nt wk t s c + rcW (spN p wk) (kcN p nt wk) t (spN p wk t s c) r
      rw [← i4]
      unfold pk3 kcN
      omega
    · show sOK (k + (r.length + 1)) (rsW (spN p wk) t (spN p wk t s c) r)
      rw [show k + (r.length + 1) = k + 1 + r.length by omega]
      exact i5
theorem PW.cast (h : PW p nt nc wk nw) {t : Nat} (ht : t < nt) : ∀ {r : List Nat} {k : Nat} {s : Nat × Nat × Nat}, sOK k s → k + r.length ≤ 7 → (∀ c ∈ r, c ∈ tdL p nc wk) →
    rowV p nt wk t (s.1 : Int) s.2.1 (s.2.2 : Int) r = (((rc3 p nt wk t s r).1 : Int), ((rc3 p nt wk t s r).2.1 : Int), ((rc3 p nt wk t s r).2.2 : Int))
  | [], _, _, _, _, _ => rfl
  | c :: r, k, s, hs, hk, hr => by
    have hct := hr c (List.mem_cons_self ..)
    obtain ⟨g1, ⟨g2, g3, g4⟩, g5, g6, g7, g8, g9⟩ := h.st ht hct hs
    have ih := h.cast ht (r := r) g1 (by simp at hk; omega) (fun x hx => hr x (List.mem_cons_of_mem _ hx))
    obtain ⟨h1, h2, h3, h4⟩ := id h
    obtain ⟨a1, a2, a3, a4⟩ := h1 c hct
    have hc7 : c < 7 := by have := td_lt hct; omega
    obtain ⟨q1, q2, q3⟩ := hs
    have eL : linV p wk c = ((p 36 (7 * wk + c)).toNatClampNeg : Int) := rg_ti a4 (by decide)
    have eW : ∀ a b, a < 8 → b < 8 → wayV p a b = ((wyD p a b).toNatClampNeg : Int) := fun a b ha hb => by
      rw [← rg_ti (rg_wy h3 ha hb) (by decide)]
      unfold wayV wyD
      split
      · rfl
      · rfl
    have e36 := rg_n a4 (by decide)
    have cmp : (p 36 (7 * wk + c) ≤ nI s.2.2) ↔ (p 36 (7 * wk + c)).toNatClampNeg ≤ s.2.2 := by
      conv => lhs; rw [e36.1]
      exact nI_les (by omega) (by omega)
    have cmpV : (linV p wk c ≤ (s.2.2 : Int)) ↔ (p 36 (7 * wk + c)).toNatClampNeg ≤ s.2.2 := by rw [eL]; omega
    have eG : goV p wk s.2.1 c (s.2.2 : Int) = (goN p wk s.2.1 c s.2.2 : Int) := by
      unfold goV goN mnD
      by_cases z : (p 36 (7 * wk + c)).toNatClampNeg ≤ s.2.2
      · rw [if_pos (cmpV.mpr z), if_pos (cmp.mpr z), eW _ _ q2 (by omega)]
      · rw [if_neg (fun y => z (cmpV.mp y)), if_neg (fun y => z (cmp.mp y)), eW _ _ q2 (by omega), eW 0 _ (by omega) (by omega)]
        have w1 := rg_n (rg_wy h3 q2 (show 0 < 8 by omega)) (by decide)
        have w2 := rg_n (rg_wy h3 (show 0 < 8 by omega) (show 1 + c < 8 by omega)) (by decide)
        have w3 := rg_n h3.2.2 (by decide)
        rw [rg_ti h3.2.2 (by decide)]
        conv => rhs; rw [w1.1, w2.1, w3.1, nI_add, nI_add, nI_clamp (by omega)]
        omega
    have eE : endV p wk (s.1 : Int) s.2.1 c (s.2.2 : Int) = (enN p wk s c : Int) := by
      unfold endV enN
      rw [eG, rg_ti a1 (by decide), rg_ti a3 (by decide)]
      unfold ouN ckN
      omega
    have eLf : leftV p wk t c (s.2.2 : Int) = (sbN p wk t c s.2.2 : Int) := by
      have b := rg_sb (j := 7 * wk + c) (has := nI s.2.2) h3 ht a4 ⟨s.2.2, by omega, q3, rfl⟩
      unfold leftV sbN
      rw [← rg_ti b (by decide)]
      unfold sbD
      have l := rg_n (h3.1 t ht) (by decide)
      rw [eL]
      by_cases z : (p 36 (7 * wk + c)).toNatClampNeg ≤ s.2.2
      · rw [if_pos (by rw [← eL]; exact cmpV.mpr z), if_pos (cmp.mpr z)]
        conv => rhs; rw [e36.1, pk_sub_toInt (by omega) (by omega)]
      · rw [if_neg (fun y => z (by omega)), if_neg (fun y => z (cmp.mp y)), rg_ti (h3.1 t ht) (by decide)]
        conv => rhs; rw [e36.1, l.1, pk_sub_toInt (by omega) (by omega)]
    have eLa : lateV p wk (s.1 : Int) s.2.1 c (s.2.2 : Int) = (laN p wk s c : Int) := by
      unfold lateV laN
      rw [eE, rg_ti a2 (by decide)]
      unfold duN
      omega
    have eM : mvdV p nt t c = (mvN p nt t c : Int) := by
      unfold mvdV mvN
      cases inRw p nt c with
      | none => rfl
      | some t' =>
        show (if t' = t then (0 : Int) else 1) = ((if t' = t then 0 else 1 : Nat) : Int)
        split <;> rfl
    show (lateV p wk (s.1 : Int) s.2.1 c (s.2.2 : Int) + (rowV p nt wk t (endV p wk (s.1 : Int) s.2.1 c (s.2.2 : Int)) (1 + c) (leftV p wk t c (s.2.2 : Int)) r).1, mvdV p nt t c + (rowV p nt wk t (endV p wk (s.1 : Int) s.2.1 c (s.2.2 : Int)) (1 + c) (leftV p wk t c (s.2.2 : Int)) r).2.1, goV p wk s.2.1 c (s.2.2 : Int) + (rowV p nt wk t (endV p wk (s.1 : Int) s.2.1 c (s.2.2 : Int)) (1 + c) (leftV p wk t c (s.2.2 : Int)) r).2.2) = _
    rw [eE, eLf, eLa, eM, eG, show rowV p nt wk t (enN p wk s c : Int) (1 + c) (sbN p wk t c s.2.2 : Int) r = _ from ih]
    show ((laN p wk s c : Int) + ((rc3 p nt wk t (spN p wk t s c) r).1 : Int), (mvN p nt t c : Int) + ((rc3 p nt wk t (spN p wk t s c) r).2.1 : Int), (goN p wk s.2.1 c s.2.2 : Int) + ((rc3 p nt wk t (spN p wk t s c) r).2.2 : Int)) = (((laN p wk s c + (rc3 p nt wk t (spN p wk t s c) r).1 : Nat) : Int), ((mvN p nt t c + (rc3 p nt wk t (spN p wk t s c) r).2.1 : Nat) : Int), ((goN p wk s.2.1 c s.2.2 + (rc3 p nt wk t (spN p wk t s c) r).2.2 : Nat) : Int))
    rw [Int.natCast_add, Int.natCast_add, Int.natCast_add]
end PNT
