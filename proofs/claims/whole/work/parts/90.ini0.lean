/-! the beginning: memory by places, while the constructors make cells -/
def upS (S : Nat → Nat → Option (Nat × Nat)) (t i : Nat) (v : Nat × Nat) : Nat → Nat → Option (Nat × Nat) := fun t' i' => if t' = t ∧ i' = i then some v else S t' i'
theorem upS_s (S : Nat → Nat → Option (Nat × Nat)) (t i : Nat) (v : Nat × Nat) : upS S t i v t i = some v := if_pos ⟨rfl, rfl⟩
theorem upS_n {S : Nat → Nat → Option (Nat × Nat)} {t i t' i' : Nat} {v : Nat × Nat} (h : ¬ (t' = t ∧ i' = i)) : upS S t i v t' i' = S t' i' := if_neg h
/-- S: the places taken, with kind and length; φ ψ χ: what stands there -/
def MV (M : Mem) (ad : Nat → Nat → Nat) (S : Nat → Nat → Option (Nat × Nat)) (φ : VI) (ψ : VJ) (χ : Nat → Nat → Nat → Option (Nat × Nat)) : Prop :=
  Inj ad ∧ (∀ q, ¬ q ∈ mL M → mN M q = 0) ∧
  (∀ t i c n, S t i = some (c, n) → ob M (ad t i) c ∧ mN M (ad t i) = n ∧ (∀ k, mI M (ad t i) k = φ t i k) ∧ (∀ k, mJ M (ad t i) k = ψ t i k) ∧ (∀ k, mR M (ad t i) k = (χ t i k).map (fun p => ad p.1 p.2))) ∧
  (∀ t i, S t i = none → (∀ k, φ t i k = 0) ∧ (∀ k, ψ t i k = 0) ∧ ∀ k, χ t i k = none) ∧
  ∀ t i k p, χ t i k = some p → ∃ v, S p.1 p.2 = some v
section
variable {M : Mem} {ad : Nat → Nat → Nat} {S : Nat → Nat → Option (Nat × Nat)} {φ : VI} {ψ : VJ} {χ : Nat → Nat → Nat → Option (Nat × Nat)} {q t i c n k : Nat}
/-- addresses of places taken stay -/
def adS (S : Nat → Nat → Option (Nat × Nat)) (ad ad' : Nat → Nat → Nat) : Prop := ∀ t i v, S t i = some v → ad' t i = ad t i
theorem MV.grow {M' : Mem} (h : MV M ad S φ ψ χ) (hq : q ∉ mL M) (hS : S t i = none) (hl : mL M' = mL M ++ [q]) (hn : ∀ a, ¬ a = q → mN M' a = mN M a) (hnq : mN M' q = n) (hk : ∀ a, ¬ a = q → mK M' a = mK M a) (hkq : mK M' q = c) (hI : ∀ a, ¬ a = q → mI M' a = mI M a) (hIq : ∀ k, mI M' q k = 0) (hJ : ∀ a, ¬ a = q → mJ M' a = mJ M a) (hJq : ∀ k, mJ M' q k = 0) (hR : ∀ a, ¬ a = q → mR M' a = mR M a) (hRq : ∀ k, mR M' q k = none) :
    ∃ ad', MV M' ad' (upS S t i (c, n)) φ ψ χ ∧ adS S ad ad' ∧ ad' t i = q := by
  obtain ⟨h1, h2, h3, h4, h5⟩ := h
  have hne : ∀ t' i' v, S t' i' = some v → ¬ ad t' i' = q := fun t' i' v hv z => hq (by rw [← z]; exact (h3 t' i' v.1 v.2 hv).1.1)
  have old : adS S ad (swp ad q t i) := fun t' i' v hv => swp_old (fun z => by rw [z.1, z.2, hS] at hv; cases hv) (hne t' i' v hv)
  refine ⟨swp ad q t i, ⟨swp_inj h1 q t i, fun a ha => ?_, fun t' i' c' n' hv => ?_, fun t' i' hv => ?_, fun t' i' k' p hp => ?_⟩, old, swp_new ad q t i⟩
  · rw [hl, List.mem_append, List.mem_singleton] at ha
    rw [hn a (fun z => ha (Or.inr z))]
    exact h2 a (fun z => ha (Or.inl z))
  · by_cases e : t' = t ∧ i' = i
    · obtain ⟨rfl, rfl⟩ := e
      rw [upS_s] at hv
      cases hv
      rw [swp_new]
      obtain ⟨z1, z2, z3⟩ := h4 t' i' hS
      refine ⟨⟨by rw [hl]; exact List.mem_append_right _ (List.mem_singleton.mpr rfl), hkq⟩, hnq, fun k' => by rw [hIq, z1], fun k' => by rw [hJq, z2], fun k' => by rw [hRq, z3]; rfl⟩
    · rw [upS_n e] at hv
      obtain ⟨z1, z2, z3, z4, z5⟩ := h3 t' i' c' n' hv
      have ne := hne t' i' _ hv
      rw [old t' i' _ hv, hn _ ne, hI _ ne, hJ _ ne, hR _ ne]
      refine ⟨⟨by rw [hl]; exact List.mem_append_left _ z1.1, (hk _ ne).trans z1.2⟩, z2, z3, z4, fun k' => ?_⟩
      rw [z5 k']
      cases hx : χ t' i' k' with
      | none => rfl
      | some p =>
        obtain ⟨v, hv'⟩ := h5 t' i' k' p hx
        show some (ad p.1 p.2) = some (swp ad q t i p.1 p.2)
        rw [old p.1 p.2 v hv']
  · have e : ¬ (t' = t ∧ i' = i) := fun z => by rw [z.1, z.2, upS_s] at hv; cases hv
    rw [upS_n e] at hv
    exact h4 t' i' hv
  · obtain ⟨v, hv⟩ := h5 t' i' k' p hp
    by_cases e : p.1 = t ∧ p.2 = i
    · exact ⟨(c, n), by rw [e.1, e.2, upS_s]⟩
    · exact ⟨v, by rw [upS_n e]; exact hv⟩
theorem MV.alO (h : MV M ad S φ ψ χ) (hq : q ∉ mL M) (hS : S t i = none) (c : Nat) : ∃ ad', MV (alO M q c) ad' (upS S t i (c, 0)) φ ψ χ ∧ adS S ad ad' ∧ ad' t i = q :=
  h.grow hq hS rfl (fun _ _ => rfl) (h.2.1 q hq) (fun a ha => va_up_o ha) (by show va_up (mK M) q c q = c; simp [va_up]) (fun a ha => va_up_o ha) (fun k => by show va_up (mI M) q (fun _ => 0) q k = 0; simp [va_up]) (fun a ha => va_up_o ha) (fun k => by show va_up (mJ M) q (fun _ => 0) q k = 0; simp [va_up]) (fun a ha => va_up_o ha) (fun k => by show va_up (mR M) q (fun _ => none) q k = none; simp [va_up])
theorem MV.alA (h : MV M ad S φ ψ χ) (hq : q ∉ mL M) (hS : S t i = none) (c n : Nat) : ∃ ad', MV (alA M q c n) ad' (upS S t i (c, n)) φ ψ χ ∧ adS S ad ad' ∧ ad' t i = q :=
  h.grow hq hS rfl (fun a ha => va_up_o ha) (by show va_up (mN M) q n q = n; simp [va_up]) (fun a ha => va_up_o ha) (by show va_up (mK M) q c q = c; simp [va_up]) (fun a ha => va_up_o ha) (fun k => by show va_up (mI M) q (fun _ => 0) q k = 0; simp [va_up]) (fun a ha => va_up_o ha) (fun k => by show va_up (mJ M) q (fun _ => 0) q k = 0; simp [va_up]) (fun a ha => va_up_o ha) (fun k => by show va_up (mR M) q (fun _ => none) q k = none; simp [va_up])
/-- cells written -/
theorem MV.set {f : Nat → Nat → Int32} {g : Nat → Nat → Int64} {r : Nat → Nat → Option Nat} {φ' : VI} {ψ' : VJ} {χ' : Nat → Nat → Nat → Option (Nat × Nat)} (h : MV M ad S φ ψ χ) (hf : ∀ t i v, S t i = some v → ∀ k, f (ad t i) k = φ' t i k) (hg : ∀ t i v, S t i = some v → ∀ k, g (ad t i) k = ψ' t i k) (hr : ∀ t i v, S t i = some v → ∀ k, r (ad t i) k = (χ' t i k).map (fun p => ad p.1 p.2)) (hz : ∀ t i, S t i = none → (∀ k, φ' t i k = 0) ∧ (∀ k, ψ' t i k = 0) ∧ ∀ k, χ' t i k = none) (hc : ∀ t i k p, χ' t i k = some p → ∃ v, S p.1 p.2 = some v) : MV (mm (mr M r) f g) ad S φ' ψ' χ' :=
  ⟨h.1, h.2.1, fun t i c n hv => ⟨(h.2.2.1 t i c n hv).1, (h.2.2.1 t i c n hv).2.1, hf t i _ hv, hg t i _ hv, hr t i _ hv⟩, hz, hc⟩
theorem MV.setI {v : Int32} {w : Nat × Nat} (h : MV M ad S φ ψ χ) (hS : S t i = some w) : MV (mm M (up2 (mI M) (ad t i) k v) (mJ M)) ad S (up3 φ t i k v) ψ χ := by
  obtain ⟨h1, h2, h3, h4, h5⟩ := h
  refine ⟨h1, h2, fun t' i' c n hv => ⟨(h3 t' i' c n hv).1, (h3 t' i' c n hv).2.1, fun k' => ?_, (h3 t' i' c n hv).2.2.2⟩, fun t' i' hv => ⟨fun k' => ?_, (h4 t' i' hv).2⟩, h5⟩
  · show up2 (mI M) (ad t i) k v (ad t' i') k' = up3 φ t i k v t' i' k'
    rw [up2_ad h1]
    unfold up3
    split
    · rfl
    · exact (h3 t' i' c n hv).2.2.1 k'
  · unfold up3
    rw [if_neg (fun z => by rw [z.1, z.2.1, hS] at hv; cases hv)]
    exact (h4 t' i' hv).1 k'
theorem MV.setJ {v : Int64} {w : Nat × Nat} (h : MV M ad S φ ψ χ) (hS : S t i = some w) : MV (mm M (mI M) (up2 (mJ M) (ad t i) k v)) ad S φ (up3 ψ t i k v) χ := by
  obtain ⟨h1, h2, h3, h4, h5⟩ := h
  refine ⟨h1, h2, fun t' i' c n hv => ⟨(h3 t' i' c n hv).1, (h3 t' i' c n hv).2.1, (h3 t' i' c n hv).2.2.1, fun k' => ?_, (h3 t' i' c n hv).2.2.2.2⟩, fun t' i' hv => ⟨(h4 t' i' hv).1, fun k' => ?_, (h4 t' i' hv).2.2⟩, h5⟩
  · show up2 (mJ M) (ad t i) k v (ad t' i') k' = up3 ψ t i k v t' i' k'
    rw [up2_ad h1]
    unfold up3
    split
    · rfl
    · exact (h3 t' i' c n hv).2.2.2.1 k'
  · unfold up3
    rw [if_neg (fun z => by rw [z.1, z.2.1, hS] at hv; cases hv)]
    exact (h4 t' i' hv).2.1 k'
theorem MV.setR {w w' : Nat × Nat} {t' i' : Nat} (h : MV M ad S φ ψ χ) (hS : S t i = some w) (hS' : S t' i' = some w') : MV (mr M (up2 (mR M) (ad t i) k (some (ad t' i')))) ad S φ ψ (up3 χ t i k (some (t', i'))) := by
  obtain ⟨h1, h2, h3, h4, h5⟩ := h
  refine ⟨h1, h2, fun a b c n hv => ⟨(h3 a b c n hv).1, (h3 a b c n hv).2.1, (h3 a b c n hv).2.2.1, (h3 a b c n hv).2.2.2.1, fun k' => ?_⟩, fun a b hv => ⟨(h4 a b hv).1, (h4 a b hv).2.1, fun k' => ?_⟩, fun a b k' p hp => ?_⟩
  · show up2 (mR M) (ad t i) k (some (ad t' i')) (ad a b) k' = (up3 χ t i k (some (t', i')) a b k').map (fun p => ad p.1 p.2)
    rw [up2_ad h1]
    unfold up3
    split
    · rfl
    · exact (h3 a b c n hv).2.2.2.2 k'
  · unfold up3
    rw [if_neg (fun z => by rw [z.1, z.2.1, hS] at hv; cases hv)]
    exact (h4 a b hv).2.2 k'
  · unfold up3 at hp
    by_cases e : a = t ∧ b = i ∧ k' = k
    · rw [if_pos e] at hp
      cases hp
      exact ⟨w', hS'⟩
    · rw [if_neg e] at hp
      exact h5 a b k' p hp
end
/-- nothing yet -/
theorem MV_0 {b L : Nat} {xs : Nat → Int32} {ad : Nat → Nat → Nat} (h : Inj ad) : MV ([], fun _ => 0, fun _ => 0, fun _ _ => 0, fun _ _ => 0, fun _ _ => none, b, L, xs) ad (fun _ _ => none) (fun _ _ _ => 0) (fun _ _ _ => 0) (fun _ _ _ => none) :=
  ⟨h, fun _ _ => rfl, fun t i c n hv => (by cases hv), fun _ _ _ => ⟨fun _ => rfl, fun _ => rfl, fun _ => rfl⟩, fun t i k p hp => (by cases hp)⟩
