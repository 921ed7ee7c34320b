/-! the tables' words by their places; the fields of each class -/
theorem lay0 : u_ws "CottageYear$Booking" zT0 13 = [472, 474, 476, 478, 480, 482, 484, 486, 488, 490, 492, 494, 496].filterMap (fun i => tables_1[i]?) := by decide +kernel
theorem layg0 : (u_ws "CottageYear$Booking" zT0 13).all goodWord = true := by decide +kernel
theorem nm0 : ∀ a, a < 13 → ∀ b, b < 13 → a ≠ b → (zT0 a).2.1 ≠ (zT0 b).2.1 := by decide +kernel
theorem fy0 : ∀ k, k < 13 → parseFieldDescriptor (zT0 k).2.2.1 = some (zFy 0 k) := by decide +kernel
theorem lay1 : u_ws "CottageYear$Books" zT1 6 = [218, 220, 222, 224, 226, 228].filterMap (fun i => tables_1[i]?) := by decide +kernel
theorem layg1 : (u_ws "CottageYear$Books" zT1 6).all goodWord = true := by decide +kernel
theorem nm1 : ∀ a, a < 6 → ∀ b, b < 6 → a ≠ b → (zT1 a).2.1 ≠ (zT1 b).2.1 := by decide +kernel
theorem fy1 : ∀ k, k < 6 → parseFieldDescriptor (zT1 k).2.2.1 = some (zFy 1 k) := by decide +kernel
theorem lay2 : u_ws "CottageYear$Cottage" zT2 8 = [386, 388, 390, 392, 394, 396, 398, 400].filterMap (fun i => tables_1[i]?) := by decide +kernel
theorem layg2 : (u_ws "CottageYear$Cottage" zT2 8).all goodWord = true := by decide +kernel
theorem nm2 : ∀ a, a < 8 → ∀ b, b < 8 → a ≠ b → (zT2 a).2.1 ≠ (zT2 b).2.1 := by decide +kernel
theorem fy2 : ∀ k, k < 8 → parseFieldDescriptor (zT2 k).2.2.1 = some (zFy 2 k) := by decide +kernel
theorem lay3 : u_ws "CottageYear$Job" zT3 12 = [724, 726, 728, 730, 732, 734, 736, 738, 740, 742, 744, 746].filterMap (fun i => tables_1[i]?) := by decide +kernel
theorem layg3 : (u_ws "CottageYear$Job" zT3 12).all goodWord = true := by decide +kernel
theorem nm3 : ∀ a, a < 12 → ∀ b, b < 12 → a ≠ b → (zT3 a).2.1 ≠ (zT3 b).2.1 := by decide +kernel
theorem fy3 : ∀ k, k < 12 → parseFieldDescriptor (zT3 k).2.2.1 = some (zFy 3 k) := by decide +kernel
theorem lay4 : u_ws "CottageYear$Laundry" zT4 8 = [187, 189, 191, 193, 195, 197, 199, 201].filterMap (fun i => tables_1[i]?) := by decide +kernel
theorem layg4 : (u_ws "CottageYear$Laundry" zT4 8).all goodWord = true := by decide +kernel
theorem nm4 : ∀ a, a < 8 → ∀ b, b < 8 → a ≠ b → (zT4 a).2.1 ≠ (zT4 b).2.1 := by decide +kernel
theorem fy4 : ∀ k, k < 8 → parseFieldDescriptor (zT4 k).2.2.1 = some (zFy 4 k) := by decide +kernel
theorem lay5 : u_ws "CottageYear$Moves" zT5 9 = [62, 64, 66, 68, 70, 72, 74, 76, 78].filterMap (fun i => tables_1[i]?) := by decide +kernel
theorem layg5 : (u_ws "CottageYear$Moves" zT5 9).all goodWord = true := by decide +kernel
theorem nm5 : ∀ a, a < 9 → ∀ b, b < 9 → a ≠ b → (zT5 a).2.1 ≠ (zT5 b).2.1 := by decide +kernel
theorem fy5 : ∀ k, k < 9 → parseFieldDescriptor (zT5 k).2.2.1 = some (zFy 5 k) := by decide +kernel
theorem lay6 : u_ws "CottageYear$Planner" zT6 20 = [129, 131, 133, 135, 137, 139, 141, 143, 145, 147, 149, 151, 153, 155, 157, 159, 161, 163, 165, 167].filterMap (fun i => tables_1[i]?) := by decide +kernel
theorem layg6 : (u_ws "CottageYear$Planner" zT6 20).all goodWord = true := by decide +kernel
theorem nm6 : ∀ a, a < 20 → ∀ b, b < 20 → a ≠ b → (zT6 a).2.1 ≠ (zT6 b).2.1 := by decide +kernel
theorem fy6 : ∀ k, k < 20 → parseFieldDescriptor (zT6 k).2.2.1 = some (zFy 6 k) := by decide +kernel
theorem lay7 : u_ws "CottageYear$Roads" zT7 2 = [101, 103].filterMap (fun i => tables_1[i]?) := by decide +kernel
theorem layg7 : (u_ws "CottageYear$Roads" zT7 2).all goodWord = true := by decide +kernel
theorem nm7 : ∀ a, a < 2 → ∀ b, b < 2 → a ≠ b → (zT7 a).2.1 ≠ (zT7 b).2.1 := by decide +kernel
theorem fy7 : ∀ k, k < 2 → parseFieldDescriptor (zT7 k).2.2.1 = some (zFy 7 k) := by decide +kernel
theorem lay8 : u_ws "CottageYear$Team" zT8 11 = [615, 617, 619, 621, 623, 625, 627, 629, 631, 633, 635].filterMap (fun i => tables_1[i]?) := by decide +kernel
theorem layg8 : (u_ws "CottageYear$Team" zT8 11).all goodWord = true := by decide +kernel
theorem nm8 : ∀ a, a < 11 → ∀ b, b < 11 → a ≠ b → (zT8 a).2.1 ≠ (zT8 b).2.1 := by decide +kernel
theorem fy8 : ∀ k, k < 11 → parseFieldDescriptor (zT8 k).2.2.1 = some (zFy 8 k) := by decide +kernel
theorem lay9 : u_ws "CottageYear$Text" zT9 9 = [255, 257, 259, 261, 263, 265, 267, 269, 271].filterMap (fun i => tables_1[i]?) := by decide +kernel
theorem layg9 : (u_ws "CottageYear$Text" zT9 9).all goodWord = true := by decide +kernel
theorem nm9 : ∀ a, a < 9 → ∀ b, b < 9 → a ≠ b → (zT9 a).2.1 ≠ (zT9 b).2.1 := by decide +kernel
theorem fy9 : ∀ k, k < 9 → parseFieldDescriptor (zT9 k).2.2.1 = some (zFy 9 k) := by decide +kernel
theorem lay10 : u_ws "CottageYear$Wages" zT10 9 = [289, 291, 293, 295, 297, 299, 301, 303, 305].filterMap (fun i => tables_1[i]?) := by decide +kernel
theorem layg10 : (u_ws "CottageYear$Wages" zT10 9).all goodWord = true := by decide +kernel
theorem nm10 : ∀ a, a < 9 → ∀ b, b < 9 → a ≠ b → (zT10 a).2.1 ≠ (zT10 b).2.1 := by decide +kernel
theorem fy10 : ∀ k, k < 9 → parseFieldDescriptor (zT10 k).2.2.1 = some (zFy 10 k) := by decide +kernel
theorem lay11 : u_ws "CottageYear" zT11 18 = [326, 328, 330, 332, 334, 336, 338, 340, 342, 344, 346, 348, 350, 352, 354, 356, 358, 360].filterMap (fun i => tables_1[i]?) := by decide +kernel
theorem layg11 : (u_ws "CottageYear" zT11 18).all goodWord = true := by decide +kernel
theorem nm11 : ∀ a, a < 18 → ∀ b, b < 18 → a ≠ b → (zT11 a).2.1 ≠ (zT11 b).2.1 := by decide +kernel
theorem fy11 : ∀ k, k < 18 → parseFieldDescriptor (zT11 k).2.2.1 = some (zFy 11 k) := by decide +kernel
theorem lay12 : u_ws "CottageYearModel" zT12 100 = [1533, 1535, 1537, 1539, 1541, 1543, 1545, 1547, 1549, 1551, 1553, 1555, 1557, 1559, 1561, 1563, 1565, 1567, 1569, 1571, 1573, 1575, 1577, 1579, 1581, 1583, 1585, 1587, 1589, 1591, 1593, 1595, 1597, 1599, 1601, 1603, 1605, 1607, 1609, 1611, 1613, 1615, 1617, 1619, 1621, 1623, 1625, 1627, 1629, 1631, 1633, 1635, 1637, 1639, 1641, 1643, 1645, 1647, 1649, 1651, 1653, 1655, 1657, 1659, 1661, 1663, 1665, 1667, 1669, 1671, 1673, 1675, 1677, 1679, 1681, 1683, 1685, 1687, 1689, 1691, 1693, 1695, 1697, 1699, 1701, 1703, 1705, 1707, 1709, 1711, 1713, 1715, 1717, 1719, 1721, 1723, 1725, 1727, 1729, 1731].filterMap (fun i => tables_1[i]?) := by decide +kernel
theorem layg12 : (u_ws "CottageYearModel" zT12 100).all goodWord = true := by decide +kernel
theorem nm12 : ∀ a, a < 100 → ∀ b, b < 100 → a ≠ b → (zT12 a).2.1 ≠ (zT12 b).2.1 := by decide +kernel
theorem fy12 : ∀ k, k < 100 → parseFieldDescriptor (zT12 k).2.2.1 = some (zFy 12 k) := by decide +kernel
theorem tb_in {w : Cond} (h : w ∈ tables_1) (hg : goodWord w = true) : w ∈ zTb := List.mem_filter.mpr ⟨List.mem_append_right _ h, hg⟩
theorem tb_fm {l : List Nat} {ws : List Cond} (h : ws = l.filterMap (fun i => tables_1[i]?)) (hg : ws.all goodWord = true) : ∀ w ∈ ws, w ∈ zTb := by
  intro w hw
  have hg1 := List.all_eq_true.mp hg w hw
  rw [h] at hw
  obtain ⟨i, -, hi⟩ := List.mem_filterMap.mp hw
  exact tb_in (List.mem_of_getElem? hi) hg1
theorem tb_I {t : Nat} {w : Cond} (h : tbI t w = true) : w ∈ tables_1 := List.mem_of_getElem? (of_decide_eq_true h)
theorem lay_ok {c : Nat} {q : vw_C} (h : zcl[c]? = some q) : ∀ w ∈ u_ws q.1 q.2.1 q.2.2, w ∈ zTb := by
  match c, h with
  | 0, h => cases h; exact tb_fm lay0 layg0
  | 1, h => cases h; exact tb_fm lay1 layg1
  | 2, h => cases h; exact tb_fm lay2 layg2
  | 3, h => cases h; exact tb_fm lay3 layg3
  | 4, h => cases h; exact tb_fm lay4 layg4
  | 5, h => cases h; exact tb_fm lay5 layg5
  | 6, h => cases h; exact tb_fm lay6 layg6
  | 7, h => cases h; exact tb_fm lay7 layg7
  | 8, h => cases h; exact tb_fm lay8 layg8
  | 9, h => cases h; exact tb_fm lay9 layg9
  | 10, h => cases h; exact tb_fm lay10 layg10
  | 11, h => cases h; exact tb_fm lay11 layg11
  | 12, h => cases h; exact tb_fm lay12 layg12
  | c + 13, h => simp [zcl] at h
theorem nm_ok {c : Nat} {q : vw_C} (h : zcl[c]? = some q) : ∀ a, a < q.2.2 → ∀ b, b < q.2.2 → a ≠ b → (q.2.1 a).2.1 ≠ (q.2.1 b).2.1 := by
  match c, h with
  | 0, h => cases h; exact nm0
  | 1, h => cases h; exact nm1
  | 2, h => cases h; exact nm2
  | 3, h => cases h; exact nm3
  | 4, h => cases h; exact nm4
  | 5, h => cases h; exact nm5
  | 6, h => cases h; exact nm6
  | 7, h => cases h; exact nm7
  | 8, h => cases h; exact nm8
  | 9, h => cases h; exact nm9
  | 10, h => cases h; exact nm10
  | 11, h => cases h; exact nm11
  | 12, h => cases h; exact nm12
  | c + 13, h => simp [zcl] at h
theorem fy_ok {c : Nat} {q : vw_C} (h : zcl[c]? = some q) : ∀ k, k < q.2.2 → parseFieldDescriptor (q.2.1 k).2.2.1 = some (zFy c k) := by
  match c, h with
  | 0, h => cases h; exact fy0
  | 1, h => cases h; exact fy1
  | 2, h => cases h; exact fy2
  | 3, h => cases h; exact fy3
  | 4, h => cases h; exact fy4
  | 5, h => cases h; exact fy5
  | 6, h => cases h; exact fy6
  | 7, h => cases h; exact fy7
  | 8, h => cases h; exact fy8
  | 9, h => cases h; exact fy9
  | 10, h => cases h; exact fy10
  | 11, h => cases h; exact fy11
  | 12, h => cases h; exact fy12
  | c + 13, h => simp [zcl] at h
def fkOK (c j : Nat) : Bool := match zfT c j with
  | 0 => decide (zFy c j = .int)
  | 1 => decide (zFy c j = .boolean)
  | 2 => decide (zFy c j = .byte)
  | 3 => decide (zFy c j = .long)
  | 4 => (match zFy c j with | .object _ => true | .array _ => true | _ => false)
  | _ => false
theorem fk_all : (List.range 13).all (fun c => (List.range (clNn c)).all (fkOK c)) = true := by decide +kernel
theorem fk_at {c j : Nat} (hc : c < 13) (hj : j < clNn c) : fkOK c j = true := List.all_eq_true.mp (List.all_eq_true.mp fk_all c (List.mem_range.mpr hc)) j (List.mem_range.mpr hj)
theorem clNn_at {c : Nat} {q : vw_C} (h : zcl[c]? = some q) : clNn c = q.2.2 := by unfold clNn; rw [h]
theorem zcl_lt {c : Nat} {q : vw_C} (h : zcl[c]? = some q) : c < 13 := (List.getElem?_eq_some_iff.mp h).1
theorem fet_ok {k pc : Nat} {i : Ins} (h0 : fet k pc = some i) : i.1 = pc ∧ okI (pOwn (tbl k)) (iniP (tbl k)) (pB (tbl k)) i = true ∧ lenOK i = true := by
  have hh : fnd ((pCd (tbl k)).getD (pc / 64) []) pc = some i ∧ lenOK i = true := by
    unfold fet at h0
    split at h0
    · rename_i j hj
      cases hl : lenOK j with
      | true => rw [hl] at h0; cases h0; exact ⟨hj, hl⟩
      | false => rw [hl] at h0; cases h0
    · cases h0
  obtain ⟨h, hlen⟩ := hh
  have key : ∀ l : List Ins, fnd l pc = some i → i.1 = pc ∧ i ∈ l := by
    intro l
    induction l with
    | nil => intro h; cases h
    | cons x r ih =>
      intro h
      unfold fnd at h
      cases hb : Nat.beq x.1 pc with
      | true => rw [hb] at h; cases h; exact ⟨Nat.eq_of_beq_eq_true hb, List.mem_cons_self⟩
      | false => rw [hb] at h; exact ⟨(ih h).1, List.mem_cons_of_mem _ (ih h).2⟩
  obtain ⟨h1, h2⟩ := key _ h
  refine ⟨h1, ?_, hlen⟩
  rcases getD_mem (l := pCd (tbl k)) (i := pc / 64) (d := []) with hm | hm
  · exact List.all_eq_true.mp (okP_tbl k _ hm) i h2
  · rw [hm] at h2; cases h2
theorem fet_dec {k pc : Nat} {p0 : Nat} {ins : Instr} {len a b t : Nat} {x : Int32} {w : Int64} {ts : List (Int32 × Nat)} (h : fet k pc = some (p0, ins, len, a, b, t, x, w, ts)) : p0 = pc ∧ decode (pB (tbl k)) pc = .ok (ins, len) ∧ okX (pOwn (tbl k)) (iniP (tbl k)) (pc, ins, len, a, b, t, x, w, ts) = true ∧ (lenI ins = len ∨ lenI ins = 0) := by
  obtain ⟨h1, h2, h3⟩ := fet_ok h
  unfold okI at h2
  rw [Bool.and_eq_true] at h2
  cases h1
  refine ⟨rfl, of_decide_eq_true h2.1, h2.2, ?_⟩
  unfold lenOK at h3
  rw [Bool.or_eq_true] at h3
  exact h3.imp Nat.eq_of_beq_eq_true Nat.eq_of_beq_eq_true

