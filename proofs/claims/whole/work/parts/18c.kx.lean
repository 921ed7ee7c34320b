/-! what the start's heap holds -/
set_option maxRecDepth 100000 in
theorem KX_start {s : State} {b : Nat} (hts : ∀ w ∈ tables_1, w.before #[Value.ref b] s = true) (hgv : (Jvm.Cond.and given_1 narrow_1).before #[Value.ref b] s = true) : KX s.heap.size s.heap s := by
  have hg := flat_of_before _ hgv
  have hA : ∀ a : Nat, a < s.heap.size → ¬ zA s.heap.size a := fun a h9 => Nat.not_le.mpr h9
  have hw : ∀ {w : Cond} (i : Nat), tables_1[i]? = some w → w.before #[Value.ref b] s = true := fun i h => hts _ (List.mem_of_getElem? h)
  obtain ⟨adK, adV, hS, hE⟩ := vk_Sof (args := #[Value.ref b]) (s := s) (A := zA s.heap.size) (tm := fun _ => .string "CottageYear$Text" 25) (len := [6]) (byt := [[99, 108, 114, 103, 100, 104]]) (N := 1)
    (fun i hi => by revert i hi; decide)
    (fun i hi => hg (.exactly (.string "CottageYear$Text" 25) "java/lang/String") (by decide +kernel))
    (fun i hi => hg (.eq (.field (.string "CottageYear$Text" 25) "java/lang/String" "coder" "B") (.int 0)) (by decide +kernel))
    (fun i hi => hg (.arrayOf (.field (.string "CottageYear$Text" 25) "java/lang/String" "value" "[B") .byte) (by decide +kernel))
    (fun i hi => by
      obtain rfl : i = 0 := by omega
      exact hg (.eq (.length (.field (.string "CottageYear$Text" 25) "java/lang/String" "value" "[B")) (.int 6)) (by decide +kernel))
    (fun i hi j hj => by
      obtain rfl : i = 0 := by omega
      have hj : j < 6 := hj
      match j, hj with
      | 0, _ => exact hg (.eq (.elem (.field (.string "CottageYear$Text" 25) "java/lang/String" "value" "[B") (.int 0)) (.int 99)) (by decide +kernel)
      | 1, _ => exact hg (.eq (.elem (.field (.string "CottageYear$Text" 25) "java/lang/String" "value" "[B") (.int 1)) (.int 108)) (by decide +kernel)
      | 2, _ => exact hg (.eq (.elem (.field (.string "CottageYear$Text" 25) "java/lang/String" "value" "[B") (.int 2)) (.int 114)) (by decide +kernel)
      | 3, _ => exact hg (.eq (.elem (.field (.string "CottageYear$Text" 25) "java/lang/String" "value" "[B") (.int 3)) (.int 103)) (by decide +kernel)
      | 4, _ => exact hg (.eq (.elem (.field (.string "CottageYear$Text" 25) "java/lang/String" "value" "[B") (.int 4)) (.int 100)) (by decide +kernel)
      | 5, _ => exact hg (.eq (.elem (.field (.string "CottageYear$Text" 25) "java/lang/String" "value" "[B") (.int 5)) (.int 104)) (by decide +kernel)
      | j + 6, h => exact absurd h (by omega))
    (fun i j hi hj hij => absurd (show i = j by omega) hij) hA
  refine ⟨⟨adK, adV, hS, vk_R.of (hw 1128 (by decide +kernel)) (hE 0 (by decide))⟩, va_Zof (hw 1142 (by decide +kernel)) (hw 21 (by decide +kernel)) (va_eqi (hg (.eq (.static "java/lang/String" "COMPACT_STRINGS" "Z") (.int 1)) (by decide +kernel))) hA,
    vx_Zqof (hw 1389 (by decide +kernel)) (hw 17 (by decide +kernel)) (hg (.isRef (.static Bundle.tN "UNASSIGNED_STACK" Bundle.steD)) (by decide +kernel)) hA, vx_Zqof (hw 1391 (by decide +kernel)) (hw 17 (by decide +kernel)) (hg (.isRef (.static Bundle.tN "SUPPRESSED_SENTINEL" Bundle.listD)) (by decide +kernel)) hA,
    va_Nw.of rfl (hw 1364 (by decide +kernel)), va_Nw.of rfl (hw 1365 (by decide +kernel)), va_Nw.of rfl (hw 1367 (by decide +kernel)), va_Nw.of rfl (hw 1369 (by decide +kernel))⟩
theorem traces_off {l : Launch} (h : l.flags = flags0) : l.stackTraces = false := by
  unfold Launch.stackTraces
  rw [h]
  decide
