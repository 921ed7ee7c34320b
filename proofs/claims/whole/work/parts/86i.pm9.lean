/-! ceilings: what some plan costs -/
def PK (nt T : Nat) (ξ : Nat → List Nat) : Prop := ((List.range nt).flatMap ξ).Perm (List.range T)
def tcK (p : Nat → Nat → Int32) (nt nc wk nw : Nat) (ξ : Nat → List Nat) : Nat → Nat
  | 0 => 0
  | t + 1 => tcK p nt nc wk nw ξ t + rcK p nt nc wk nw t (ξ t)
/-- a cost that some plan has, or none at all -/
def CeV (p : Nat → Nat → Int32) (nt nc wk nw V : Nat) : Prop := V = 2 ^ 60 ∨ (V < 2 ^ 50 ∧ ∃ ξ, PK nt (tdL p nc wk).length ξ ∧ tcK p nt nc wk nw ξ nt = V)
theorem fm_up {ξ : Nat → List Nat} {t k : Nat} : ∀ {n : Nat}, t < n → ((List.range n).flatMap (up1 ξ t (ξ t ++ [k]))).Perm ((List.range n).flatMap ξ ++ [k])
  | n + 1, h => by
    rw [List.range_succ, List.flatMap_append, List.flatMap_append]
    by_cases e : t = n
    · have e1 : (List.range n).flatMap (up1 ξ t (ξ t ++ [k])) = (List.range n).flatMap ξ := fm_congr (fun x hx => up1_n (by have := List.mem_range.mp hx; omega))
      rw [e1, List.append_assoc]
      have e2 : [n].flatMap (up1 ξ t (ξ t ++ [k])) = [n].flatMap ξ ++ [k] := by
        simp [up1, e]
      rw [e2]
    · have ih := fm_up (ξ := ξ) (t := t) (k := k) (n := n) (by omega)
      have e2 : [n].flatMap (up1 ξ t (ξ t ++ [k])) = [n].flatMap ξ := fm_congr (fun x hx => up1_n (by rw [List.mem_singleton.mp hx]; omega))
      rw [e2]
      refine (List.Perm.append_right _ ih).trans ?_
      rw [List.append_assoc, List.append_assoc]
      exact List.Perm.append_left _ List.perm_append_comm
theorem nd_full {T : Nat} {U : List Nat} (hn : U.Nodup) (hl : ∀ k ∈ U, k < T) (hT : U.length = T) : U.Perm (List.range T) := by
  refine (List.perm_ext_iff_of_nodup hn List.nodup_range).mpr (fun k => ⟨fun h => List.mem_range.mpr (hl k h), fun h => ?_⟩)
  refine Classical.byContradiction (fun z => ?_)
  have := nd_len (T := T) (x := k :: U) (List.nodup_cons.mpr ⟨z, hn⟩) (fun j hj => by
    rcases List.mem_cons.mp hj with y | y
    · rw [y]; exact List.mem_range.mp h
    · exact hl j y)
  rw [List.length_cons] at this
  omega
section
variable {p : Nat → Nat → Int32} {nt nc wk nw : Nat} {ξ : Nat → List Nat}
theorem PK.row (h : PK nt (tdL p nc wk).length ξ) {t : Nat} (ht : t < nt) : (ξ t).Nodup ∧ ∀ k ∈ ξ t, k < (tdL p nc wk).length := by
  have nd : ((List.range nt).flatMap ξ).Nodup := h.nodup_iff.mpr List.nodup_range
  refine ⟨?_, fun k hk => List.mem_range.mp (h.mem_iff.mp (List.mem_flatMap.mpr ⟨t, List.mem_range.mpr ht, hk⟩))⟩
  exact (List.pairwise_flatMap.mp nd).1 t (List.mem_range.mpr ht)
theorem tcK_bd (hP : PW p nt nc wk nw) (h : ∀ t, t < nt → (ξ t).Nodup ∧ ∀ k ∈ ξ t, k < (tdL p nc wk).length) : ∀ n, n ≤ nt → tcK p nt nc wk nw ξ n ≤ n * 2 ^ 40
  | 0, _ => Nat.zero_le _
  | n + 1, hn => by
    have ih := tcK_bd hP h n (by omega)
    have := (rcK_bd (x := ξ n) hP (show n < nt by omega) (h n (by omega)).1 (h n (by omega)).2).1
    rw [tcK, Nat.add_mul]
    omega
theorem td_idx {c : Nat} (hc : c ∈ tdL p nc wk) : (tdL p nc wk).idxOf c < (tdL p nc wk).length ∧ tdK p nc wk ((tdL p nc wk).idxOf c) = c := by
  have h := List.idxOf_lt_length_of_mem hc
  refine ⟨h, ?_⟩
  unfold tdK
  rw [List.getD_eq_getElem?_getD, List.getElem?_eq_getElem h]
  exact List.getElem_idxOf h
theorem tdK_idx {k : Nat} (hk : k < (tdL p nc wk).length) : (tdL p nc wk).idxOf (tdK p nc wk k) = k := by
  have e : tdK p nc wk k = (tdL p nc wk)[k] := by
    unfold tdK
    rw [List.getD_eq_getElem?_getD, List.getElem?_eq_getElem hk]; rfl
  rw [e]
  exact (td_nd (p := p) (nc := nc) (wk := wk)).idxOf_getElem k hk
end
theorem bit_at : ∀ O, O < 128 → ∀ k, k < 7 → (((nI O).toUInt32 >>> ((nI k).toUInt32 &&& Int32.toUInt32 31)).toInt32 &&& 1 = 0 ↔ O.testBit k = false) := by decide +kernel
