/-! openDay: who leaves -/
def waP (V : Nat → Nat → Int32) (wk c b : Nat) : Bool := (V 16 b == 1) && (V 6 b == nI c) && (V 7 b + 1 == nI wk)
def waO (V : Nat → Nat → Int32) (nb wk c : Nat) : Option Nat := (List.range nb).find? (waP V wk c)
theorem waP_of {V : Nat → Nat → Int32} {wk c b : Nat} : waP V wk c b = true ↔ V 16 b = 1 ∧ V 6 b = nI c ∧ V 7 b + 1 = nI wk := by
  unfold waP
  simp only [Bool.and_eq_true, beq_iff_eq, and_assoc]
theorem waO_some {V : Nat → Nat → Int32} {nb wk c b : Nat} (h : waO V nb wk c = some b) : b < nb ∧ V 16 b = 1 ∧ V 6 b = nI c ∧ V 7 b + 1 = nI wk := ⟨List.mem_range.mp (List.mem_of_find?_eq_some h), waP_of.mp (List.find?_some h)⟩
theorem waO_none {V : Nat → Nat → Int32} {nb wk c : Nat} (h : waO V nb wk c = none) : ∀ b, b < nb → ¬ (V 16 b = 1 ∧ V 6 b = nI c ∧ V 7 b + 1 = nI wk) := fun b hb z => List.find?_eq_none.mp h b (List.mem_range.mpr hb) (waP_of.mpr z)
theorem op_W {M : Mem} {ad : Nat → Nat → Nat} {nc nb nt wk nw nx nl ne nk kd : Nat} (hW : WI M ad nc nb nt wk nw nx nl ne nk kd false) (hwk : wk < 52) :
    (∀ c, c < nc → mR M (ad 0 4) (7 * wk + c) = none) ∧
    (∀ c b, c < nc → waO (fun i k => mI M (ad 9 i) k) nb wk c = some b → b < nb ∧ mI M (ad 9 6) b = nI c ∧ mI M (ad 9 7) b + 1 = nI wk ∧ ¬ hJ (vw ad (mI M)) wk false b) ∧
    (∀ c c' b, c < nc → c' < c → waO (fun i k => mI M (ad 9 i) k) nb wk c = some b → ¬ waO (fun i k => mI M (ad 9 i) k) nb wk c' = some b) ∧
    (wk = 0 → ∀ c, c < nc → waO (fun i k => mI M (ad 9 i) k) nb wk c = none) ∧
    (∀ w, w + 1 = wk → ∀ c, c < nc → mR M (ad 0 4) (7 * w + c) = (waO (fun i k => mI M (ad 9 i) k) nb wk c).map (ad 2)) := by
  obtain ⟨hi, ⟨hF0, hM, hC0, hB0, hT, hX0⟩, ⟨iS, iC, iB, iR, iL, iT⟩, ⟨jO, jR, jB, jX, jL⟩, -, -, -, -, -⟩ := hW
  have nc3 := iS.1.2.2
  have hS := jR.2.1
  have bw : ∀ b, b < nb → ∃ w, w < 52 ∧ mI M (ad 9 7) b = nI w ∧ (mI M (ad 9 16) b = 1 → mI M (ad 9 15) b = 1 ∧ w < wk) := fun b hb => by
    obtain ⟨-, -, ⟨w, w1, w2, w3⟩, -⟩ := iB.1 b hb
    refine ⟨w, w1, w2, fun z => ⟨(w3 z).1, ?_⟩⟩
    rcases (w3 z).2 with y | y
    · exact y
    · exact absurd y.2 (by decide)
  have nxt : ∀ w, w < 52 → (nI w + 1 = nI wk ↔ w + 1 = wk) := fun w hw => by
    rw [show nI w + 1 = nI (w + 1) from nI_add w 1]
    exact nI_eqs (by omega) (by omega)
  refine ⟨fun c hc => ?_, fun c b hc hb => ?_, fun c c' b hc hlt hb hb' => ?_, fun hz c hc => ?_, fun w hw c hc => ?_⟩
  · rcases hS wk c hwk (by omega) with ⟨b, hb, g1, g2, g3, -⟩ | ⟨hr, -⟩
    · obtain ⟨w, w1, w2, w3⟩ := bw b hb
      have e := (nI_eqs (a := w) (b := wk) (by omega) (by omega)).mp (w2.symm.trans g3)
      have := (w3 g1).2
      omega
    · exact hr
  · obtain ⟨h1, h2, h3, h4⟩ := waO_some hb
    refine ⟨h1, h3, h4, fun hj => ?_⟩
    obtain ⟨-, w, w1, w2, w3⟩ := hj
    have w1' : mI M (ad 9 7) b = nI w := w1
    have h4' : mI M (ad 9 7) b + 1 = nI wk := h4
    rw [w1'] at h4'
    have := (nxt w w2).mp h4'
    rcases w3 with y | y
    · omega
    · exact absurd y.2 (by decide)
  · have e := (waO_some hb).2.2.1.symm.trans (waO_some hb').2.2.1
    have := (nI_eqs (a := c) (b := c') (by omega) (by omega)).mp e
    omega
  · cases hb : waO (fun i k => mI M (ad 9 i) k) nb wk c with
    | none => rfl
    | some b =>
      obtain ⟨h1, h2, h3, h4⟩ := waO_some hb
      obtain ⟨w, w1, w2, -⟩ := bw b h1
      have h4' : mI M (ad 9 7) b + 1 = nI wk := h4
      rw [w2] at h4'
      have := (nxt w w1).mp h4'
      omega
  · have hw52 : w < 52 := by omega
    rcases hS w c hw52 (by omega) with ⟨b, hb, g1, g2, g3, hr⟩ | ⟨hr, hn⟩
    · have g1' : mI M (ad 9 16) b = 1 := g1
      have g2' : mI M (ad 9 6) b = nI c := g2
      have g3' : mI M (ad 9 7) b = nI w := g3
      have hz : mI M (ad 9 7) b + 1 = nI wk := by rw [g3']; exact (nxt w hw52).mpr hw
      cases ha : waO (fun i k => mI M (ad 9 i) k) nb wk c with
      | none => exact absurd ⟨g1', g2', hz⟩ (waO_none ha b hb)
      | some a =>
        obtain ⟨h1, h2, h3, h4⟩ := waO_some ha
        obtain ⟨w', p1, p2, p3⟩ := bw a h1
        obtain ⟨w'', s1, s2, s3⟩ := bw b hb
        have h4' : mI M (ad 9 7) a + 1 = nI wk := h4
        rw [p2] at h4'
        have hww : w' = w := by have := (nxt w' p1).mp h4'; omega
        have e : a = b := iB.2 a b h1 hb (p3 h2).1 (s3 g1').1 (h3.trans g2'.symm) (by
          show mI M (ad 9 7) a = mI M (ad 9 7) b
          rw [p2, g3', hww])
        rw [hr, e]; rfl
    · cases ha : waO (fun i k => mI M (ad 9 i) k) nb wk c with
      | none => rw [hr]; rfl
      | some a =>
        obtain ⟨h1, h2, h3, h4⟩ := waO_some ha
        obtain ⟨w', p1, p2, p3⟩ := bw a h1
        have h4' : mI M (ad 9 7) a + 1 = nI wk := h4
        rw [p2] at h4'
        have hww : w' = w := by have := (nxt w' p1).mp h4'; omega
        exact absurd (hn a h1 h2 h3 (by show mI M (ad 9 7) a = nI w; rw [p2, hww])) id
