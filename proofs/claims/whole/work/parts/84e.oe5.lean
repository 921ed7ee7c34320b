/-! openDay: the model's loop, one comes -/
set_option maxHeartbeats 4000000 in
theorem MLo.come {ad : Nat → Nat → Nat} {f0 f : Nat → Nat → Int32} {ne kd wk c e b : Nat} {Q W : Nat → Option Nat} (hi : Inj ad) (hu : ∀ c' b, c' < c → Q c' = some b → ¬ Q c = some b) (h : MLo ad f0 ne kd wk Q W c e f) (hq : Q c = some b) : MLo ad f0 ne kd wk Q W (c + 1) e (up2 (enF ad (up2 f (ad 9 16) b 1) (ne + cnQ Q c) (nI c) (nI b)) (ad 9 12) b (cdV (kd + cnQ Q c))) := by
  obtain ⟨h1, h2, h3, h4, h5, h6⟩ := h
  refine ⟨fun t i k z => ?_, ?_, fun c' b' hc hb' => ?_, fun b' hb' => ?_, fun c' b' hc hb' => ?_, fun i k hm hk => ?_⟩
  · have y := h1 t i k z
    unfold mlX mjR at z
    simp only [enF, up2_ad hi]
    rw [if_neg (by omega), if_neg (by omega), if_neg (by omega), if_neg (by omega), if_neg (by omega), if_neg (by omega), if_neg (by omega), if_neg (by omega)]
    exact y
  · rw [cnQ_s hq]
    simp [enF, up2_ad hi, Nat.add_assoc]
  · by_cases g : c' = c
    · subst g
      rw [hq] at hb'
      cases hb'
      refine ⟨by simp [enF, up2_ad hi], by simp [enF, up2_ad hi], by simp [enF, up2_ad hi], by simp [enF, up2_ad hi], fun th ht => ?_⟩
      rcases (show th = 0 ∨ th = 1 ∨ th = 2 by omega) with rfl | rfl | rfl <;> simp [enF, up2_ad hi]
    · have hbb : ¬ b' = b := fun z => hu c' b' (by omega) hb' (by rw [z]; exact hq)
      have m1 := cnQ_mono Q (show c' + 1 ≤ c by omega)
      rw [cnQ_s hb'] at m1
      have n1 : ¬ ne + cnQ Q c' = ne + cnQ Q c := by omega
      obtain ⟨a1, a2, a3, a4, a5⟩ := h3 c' b' (by omega) hb'
      refine ⟨?_, ?_, ?_, ?_, fun th ht => ?_⟩
      · simp [enF, up2_ad hi, hbb]; exact a1
      · simp [enF, up2_ad hi, hbb]; exact a2
      · simp only [enF, up2_ad hi]; rw [if_neg (by omega), if_neg (by omega), if_neg (by omega), if_neg (by omega), if_neg (by omega), if_neg (by omega), if_neg (by omega), if_neg (by omega)]; exact a3
      · simp only [enF, up2_ad hi]; rw [if_neg (by omega), if_neg (by omega), if_neg (by omega), if_neg (by omega), if_neg (by omega), if_neg (by omega), if_neg (by omega), if_neg (by omega)]; exact a4
      · simp only [enF, up2_ad hi]; rw [if_neg (by omega), if_neg (by omega), if_neg (by omega), if_neg (by omega), if_neg (by omega), if_neg (by omega), if_neg (by omega), if_neg (by omega)]; exact a5 th ht
  · have hbb : ¬ b' = b := fun z => hb' c (by omega) (by rw [z]; exact hq)
    have a := h4 b' (fun c' hc => hb' c' (by omega))
    refine ⟨?_, ?_⟩
    · simp [enF, up2_ad hi, hbb]; exact a.1
    · simp [enF, up2_ad hi, hbb]; exact a.2
  · simpa [enF, up2_ad hi] using h5 c' b' hc hb'
  · have y := h6 i k hm hk
    unfold mjR at hm
    simp only [enF, up2_ad hi]
    rw [if_neg (by omega), if_neg (by omega), if_neg (by omega), if_neg (by omega), if_neg (by omega), if_neg (by omega), if_neg (by omega), if_neg (by omega)]
    exact y
