/-! openDay: the codes are new -/
def cdG : Nat → Int64 → List Int32
  | 0, _ => []
  | n + 1, s => (((s.toUInt64 >>> ((33 : Int32).toInt64.toUInt64 &&& Int64.toUInt64 63)).toInt64) - ((s.toUInt64 >>> ((33 : Int32).toInt64.toUInt64 &&& Int64.toUInt64 63)).toInt64) / 10000 * 10000).toInt32 :: cdG n (s * 6364136223846793005 + 1442695040888963407)
theorem cdG_at : ∀ n m k, k < n → (cdG n (cdS (m + 1)))[k]? = some (cdV (m + k))
  | n + 1, m, 0, _ => rfl
  | n + 1, m, k + 1, h => by
    have := cdG_at n (m + 1) k (by omega)
    rw [show m + (k + 1) = m + 1 + k by omega, ← this]
    rfl
def cdN : List Int := [4774, 4153, 1196, 2870, 1034, 9795, 7130, 6902, 8089, 6746, 123, 802, 7452, 8400, 7034, 4812, 4890, 495, 3332, 9365, 7627, 1357, 4926, 3410, 2669, 7328, 6004, 9872, 9121, 5968, 607, 7538, 9708, 3925, 2494, 1082, 3786, 4858, 316, 8589, 9455, 7172, 8410, 7080, 4861, 4934, 3508, 2901, 6063, 5394, 522, 7544, 4636, 3794, 8461, 9000, 1718, 3955, 5207, 3830, 3753]
theorem cdG_eq : (cdG 61 (cdS 1)).map Int32.toInt = cdN := by decide +kernel
theorem cdG_at0 (n k : Nat) (h : k < n) : (cdG n (cdS 1))[k]? = some (cdV k) := by
  have z := cdG_at n 0 k h
  rw [Nat.zero_add, Nat.zero_add] at z
  exact z
theorem cd_look {G : List Int32} {L : List Int} {k : Nat} {v : Int32} (h1 : G[k]? = some v) (h2 : G.map Int32.toInt = L) : v.toInt = L.getD k 0 := by
  rw [← h2, List.getD_eq_getElem?_getD, List.getElem?_map, h1]
  rfl
theorem cdV_int {k : Nat} (h : k < 61) : (cdV k).toInt = cdN.getD k 0 := cd_look (cdG_at0 61 k h) cdG_eq
theorem cdL_new : ∀ k, k < 61 → (0 : Int) ≤ cdN.getD k 0 ∧ ∀ j, j < k → ¬ (cdN.getD k 0 : Int) = cdN.getD j 0 := by decide +kernel
theorem cdV_m {k : Nat} (h : k < 61) : ¬ cdV k = -1 := by
  intro z
  have h1 := cdV_int h
  have h2 := (cdL_new k h).1
  rw [← h1, z] at h2
  exact absurd h2 (by decide)
theorem cdV_n {k j : Nat} (h : k < 61) (hj : j < k) : ¬ cdV k = cdV j := by
  intro z
  have h1 := cdV_int h
  have h3 := cdV_int (k := j) (by omega)
  have h2 := (cdL_new k h).2 j hj
  rw [← h1, ← h3, z] at h2
  exact h2 rfl
