/-! the constructors -/
/-- the diagonal -/
def dia (a n : Nat) (f : Nat → Nat → Int32) : Nat → Nat → Int32 := fun b k => if b = a ∧ k % 9 = 0 ∧ k < 9 * n then 0 else f b k
def dia3 (φ : VI) (t i n : Nat) : VI := fun t' i' k => if t' = t ∧ i' = i ∧ k % 9 = 0 ∧ k < 9 * n then 0 else φ t' i' k
theorem dia_0 {a : Nat} {f : Nat → Nat → Int32} : dia a 0 f = f := by
  funext b k
  unfold dia
  rw [if_neg (by omega)]
theorem dia_s {a n : Nat} {f : Nat → Nat → Int32} : up2 (dia a n f) a (9 * n) 0 = dia a (n + 1) f := by
  funext b k
  unfold up2 dia
  by_cases e : b = a ∧ k = 9 * n
  · rw [if_pos e, if_pos ⟨e.1, by omega, by omega⟩]
  · rw [if_neg e]
    by_cases z : b = a ∧ k % 9 = 0 ∧ k < 9 * n
    · rw [if_pos z, if_pos ⟨z.1, z.2.1, by omega⟩]
    · rw [if_neg z, if_neg (fun y => z ⟨y.1, y.2.1, by
        have : ¬ k = 9 * n := fun q => e ⟨y.1, q⟩
        omega⟩)]
theorem MW.diag {ad0 ad : Nat → Nat → Nat} {S0 S : Nat → Nat → Option (Nat × Nat)} {sc : Nat × Nat × (Nat → Int32)} {M : Mem} {φ : VI} {ψ : VJ} {χ : Nat → Nat → Nat → Option (Nat × Nat)} {t i n : Nat} {w : Nat × Nat} {f : Nat → Nat → Int32} {g : Nat → Nat → Int64} (h : MW ad0 S0 sc (mm M f g) ad S φ ψ χ) (hS : S t i = some w) : MW ad0 S0 sc (mm M (dia (ad t i) n f) g) ad S (dia3 φ t i n) ψ χ := by
  refine ⟨h.1.set (r := mR M) (fun t1 i1 v hv k => ?_) (fun t1 i1 v hv k => (h.1.2.2.1 t1 i1 v.1 v.2 hv).2.2.2.1 k) (fun t1 i1 v hv k => (h.1.2.2.1 t1 i1 v.1 v.2 hv).2.2.2.2 k) (fun t1 i1 hv => ⟨fun k => ?_, (h.1.2.2.2.1 t1 i1 hv).2⟩) h.1.2.2.2.2, h.2.1, h.2.2.1, h.2.2.2⟩
  · unfold dia dia3
    by_cases e : t1 = t ∧ i1 = i ∧ k % 9 = 0 ∧ k < 9 * n
    · rw [if_pos e, if_pos ⟨by rw [e.1, e.2.1], e.2.2⟩]
    · rw [if_neg e, if_neg (fun z => e ⟨(h.1.1 _ _ _ _ z.1).1, (h.1.1 _ _ _ _ z.1).2, z.2⟩)]
      exact (h.1.2.2.1 t1 i1 v.1 v.2 hv).2.2.1 k
  · unfold dia3
    rw [if_neg (fun z => by rw [z.1, z.2.1, hS] at hv; cases hv)]
    exact (h.1.2.2.2.1 t1 i1 hv).1 k
set_option maxRecDepth 100000
def SA0 : Nat → Nat → Option (Nat × Nat) := fun _ _ => none
def XA0 : Nat → Nat → Nat → Option (Nat × Nat) := fun _ _ _ => none
def PA0 : VI := fun _ _ _ => 0
def QA0 : VJ := fun _ _ _ => 0
def SA1 : Nat → Nat → Option (Nat × Nat) := upS SA0 0 0 (11, 0)
def SA2 : Nat → Nat → Option (Nat × Nat) := upS SA1 0 1 (18, 7)
def XA1 : Nat → Nat → Nat → Option (Nat × Nat) := up3 XA0 0 0 0 (some (0, 1))
def SA3 : Nat → Nat → Option (Nat × Nat) := upS SA2 0 2 (17, 60)
def XA2 : Nat → Nat → Nat → Option (Nat × Nat) := up3 XA1 0 0 2 (some (0, 2))
def SA4 : Nat → Nat → Option (Nat × Nat) := upS SA3 0 3 (20, 3)
def XA3 : Nat → Nat → Nat → Option (Nat × Nat) := up3 XA2 0 0 4 (some (0, 3))
def SA5 : Nat → Nat → Option (Nat × Nat) := upS SA4 0 4 (17, 364)
def XA4 : Nat → Nat → Nat → Option (Nat × Nat) := up3 XA3 0 0 10 (some (0, 4))
def SA6 : Nat → Nat → Option (Nat × Nat) := upS SA5 0 5 (19, 7)
def XA5 : Nat → Nat → Nat → Option (Nat × Nat) := up3 XA4 0 0 11 (some (0, 5))
def QA1 : VJ := up3 QA0 0 0 12 (1)
def SA7 : Nat → Nat → Option (Nat × Nat) := upS SA6 0 6 (5, 0)
def SA8 : Nat → Nat → Option (Nat × Nat) := upS SA7 0 11 (18, 7)
def XA6 : Nat → Nat → Nat → Option (Nat × Nat) := up3 XA5 0 6 0 (some (0, 11))
def SA9 : Nat → Nat → Option (Nat × Nat) := upS SA8 0 12 (13, 7)
def XA7 : Nat → Nat → Nat → Option (Nat × Nat) := up3 XA6 0 6 1 (some (0, 12))
def SA10 : Nat → Nat → Option (Nat × Nat) := upS SA9 0 13 (17, 7)
def XA8 : Nat → Nat → Nat → Option (Nat × Nat) := up3 XA7 0 6 3 (some (0, 13))
def SA11 : Nat → Nat → Option (Nat × Nat) := upS SA10 0 14 (15, 7)
def XA9 : Nat → Nat → Nat → Option (Nat × Nat) := up3 XA8 0 6 5 (some (0, 14))
def SA12 : Nat → Nat → Option (Nat × Nat) := upS SA11 0 15 (15, 7)
def XA10 : Nat → Nat → Nat → Option (Nat × Nat) := up3 XA9 0 6 6 (some (0, 15))
def XA11 : Nat → Nat → Nat → Option (Nat × Nat) := up3 XA10 0 0 13 (some (0, 6))
def SA13 : Nat → Nat → Option (Nat × Nat) := upS SA12 0 7 (6, 0)
def SA14 : Nat → Nat → Option (Nat × Nat) := upS SA13 0 16 (7, 0)
def SA15 : Nat → Nat → Option (Nat × Nat) := upS SA14 0 31 (15, 64)
def XA12 : Nat → Nat → Nat → Option (Nat × Nat) := up3 XA11 0 16 0 (some (0, 31))
def PA1 : VI := up3 PA0 0 16 1 (5)
def PA2 : VI := dia3 (rng PA1 0 31 64 10) 0 31 8
def XA13 : Nat → Nat → Nat → Option (Nat × Nat) := up3 XA12 0 7 0 (some (0, 16))
def SA16 : Nat → Nat → Option (Nat × Nat) := upS SA15 0 17 (19, 7)
def XA14 : Nat → Nat → Nat → Option (Nat × Nat) := up3 XA13 0 7 1 (some (0, 17))
def SA17 : Nat → Nat → Option (Nat × Nat) := upS SA16 0 18 (15, 7)
def XA15 : Nat → Nat → Nat → Option (Nat × Nat) := up3 XA14 0 7 3 (some (0, 18))
def SA18 : Nat → Nat → Option (Nat × Nat) := upS SA17 0 19 (16, 384)
def XA16 : Nat → Nat → Nat → Option (Nat × Nat) := up3 XA15 0 7 5 (some (0, 19))
def SA19 : Nat → Nat → Option (Nat × Nat) := upS SA18 0 20 (15, 384)
def XA17 : Nat → Nat → Nat → Option (Nat × Nat) := up3 XA16 0 7 6 (some (0, 20))
def SA20 : Nat → Nat → Option (Nat × Nat) := upS SA19 0 21 (15, 8)
def XA18 : Nat → Nat → Nat → Option (Nat × Nat) := up3 XA17 0 7 7 (some (0, 21))
def SA21 : Nat → Nat → Option (Nat × Nat) := upS SA20 0 22 (15, 8)
def XA19 : Nat → Nat → Nat → Option (Nat × Nat) := up3 XA18 0 7 8 (some (0, 22))
def SA22 : Nat → Nat → Option (Nat × Nat) := upS SA21 0 23 (15, 8)
def XA20 : Nat → Nat → Nat → Option (Nat × Nat) := up3 XA19 0 7 9 (some (0, 23))
def SA23 : Nat → Nat → Option (Nat × Nat) := upS SA22 0 24 (15, 8)
def XA21 : Nat → Nat → Nat → Option (Nat × Nat) := up3 XA20 0 7 10 (some (0, 24))
def SA24 : Nat → Nat → Option (Nat × Nat) := upS SA23 0 25 (16, 8)
def XA22 : Nat → Nat → Nat → Option (Nat × Nat) := up3 XA21 0 7 11 (some (0, 25))
def SA25 : Nat → Nat → Option (Nat × Nat) := upS SA24 0 26 (15, 3584)
def XA23 : Nat → Nat → Nat → Option (Nat × Nat) := up3 XA22 0 7 12 (some (0, 26))
def SA26 : Nat → Nat → Option (Nat × Nat) := upS SA25 0 27 (15, 3584)
def XA24 : Nat → Nat → Nat → Option (Nat × Nat) := up3 XA23 0 7 13 (some (0, 27))
def SA27 : Nat → Nat → Option (Nat × Nat) := upS SA26 0 28 (16, 3584)
def XA25 : Nat → Nat → Nat → Option (Nat × Nat) := up3 XA24 0 7 14 (some (0, 28))
def SA28 : Nat → Nat → Option (Nat × Nat) := upS SA27 0 29 (15, 896)
def XA26 : Nat → Nat → Nat → Option (Nat × Nat) := up3 XA25 0 7 15 (some (0, 29))
def SA29 : Nat → Nat → Option (Nat × Nat) := upS SA28 0 30 (15, 3)
def XA27 : Nat → Nat → Nat → Option (Nat × Nat) := up3 XA26 0 7 18 (some (0, 30))
def XA28 : Nat → Nat → Nat → Option (Nat × Nat) := up3 XA27 0 0 14 (some (0, 7))
def SA30 : Nat → Nat → Option (Nat × Nat) := upS SA29 0 8 (4, 0)
def PA3 : VI := up3 PA2 0 8 0 (20)
def PA4 : VI := up3 PA3 0 8 1 (10)
def XA29 : Nat → Nat → Nat → Option (Nat × Nat) := up3 XA28 0 0 15 (some (0, 8))
def SA31 : Nat → Nat → Option (Nat × Nat) := upS SA30 0 9 (1, 0)
def SA32 : Nat → Nat → Option (Nat × Nat) := upS SA31 0 32 (15, 120)
def XA30 : Nat → Nat → Nat → Option (Nat × Nat) := up3 XA29 0 9 0 (some (0, 32))
def SA33 : Nat → Nat → Option (Nat × Nat) := upS SA32 0 33 (15, 120)
def XA31 : Nat → Nat → Nat → Option (Nat × Nat) := up3 XA30 0 9 1 (some (0, 33))
def SA34 : Nat → Nat → Option (Nat × Nat) := upS SA33 0 34 (15, 180)
def XA32 : Nat → Nat → Nat → Option (Nat × Nat) := up3 XA31 0 9 3 (some (0, 34))
def SA35 : Nat → Nat → Option (Nat × Nat) := upS SA34 0 35 (15, 3)
def PA5 : VI := up3 PA4 0 35 0 (1)
def PA6 : VI := up3 PA5 0 35 1 (1)
def PA7 : VI := up3 PA6 0 35 2 (1)
def XA33 : Nat → Nat → Nat → Option (Nat × Nat) := up3 XA32 0 9 5 (some (0, 35))
def XA34 : Nat → Nat → Nat → Option (Nat × Nat) := up3 XA33 0 0 16 (some (0, 9))
def SA36 : Nat → Nat → Option (Nat × Nat) := upS SA35 0 10 (10, 0)
def SA37 : Nat → Nat → Option (Nat × Nat) := upS SA36 7 0 (9, 0)
def SA38 : Nat → Nat → Option (Nat × Nat) := upS SA37 8 0 (15, 120)
def XA35 : Nat → Nat → Nat → Option (Nat × Nat) := up3 XA34 7 0 0 (some (8, 0))
def PA8 : VI := up3 PA7 7 0 2 (-1)
def PA9 : VI := up3 PA8 7 0 3 (-1)
def XA36 : Nat → Nat → Nat → Option (Nat × Nat) := up3 XA35 0 10 0 (some (7, 0))
def SA39 : Nat → Nat → Option (Nat × Nat) := upS SA38 0 36 (21, 20)
def XA37 : Nat → Nat → Nat → Option (Nat × Nat) := up3 XA36 0 10 1 (some (0, 36))
def SA40 : Nat → Nat → Option (Nat × Nat) := upS SA39 0 37 (15, 3000)
def XA38 : Nat → Nat → Nat → Option (Nat × Nat) := up3 XA37 0 10 3 (some (0, 37))
def SA41 : Nat → Nat → Option (Nat × Nat) := upS SA40 0 38 (19, 3000)
def XA39 : Nat → Nat → Nat → Option (Nat × Nat) := up3 XA38 0 10 4 (some (0, 38))
def SA42 : Nat → Nat → Option (Nat × Nat) := upS SA41 0 39 (15, 3000)
def XA40 : Nat → Nat → Nat → Option (Nat × Nat) := up3 XA39 0 10 5 (some (0, 39))
def XA41 : Nat → Nat → Nat → Option (Nat × Nat) := up3 XA40 0 0 17 (some (0, 10))
def SA43 : Nat → Nat → Option (Nat × Nat) := upS SA42 10 0 (12, 0)
def SA44 : Nat → Nat → Option (Nat × Nat) := upS SA43 9 1 (15, 7)
def XA42 : Nat → Nat → Nat → Option (Nat × Nat) := up3 XA41 10 0 1 (some (9, 1))
def SA45 : Nat → Nat → Option (Nat × Nat) := upS SA44 9 2 (15, 7)
def XA43 : Nat → Nat → Nat → Option (Nat × Nat) := up3 XA42 10 0 2 (some (9, 2))
def SA46 : Nat → Nat → Option (Nat × Nat) := upS SA45 9 3 (15, 7)
def XA44 : Nat → Nat → Nat → Option (Nat × Nat) := up3 XA43 10 0 3 (some (9, 3))
def SA47 : Nat → Nat → Option (Nat × Nat) := upS SA46 9 4 (13, 7)
def XA45 : Nat → Nat → Nat → Option (Nat × Nat) := up3 XA44 10 0 4 (some (9, 4))
def SA48 : Nat → Nat → Option (Nat × Nat) := upS SA47 9 5 (13, 364)
def XA46 : Nat → Nat → Nat → Option (Nat × Nat) := up3 XA45 10 0 5 (some (9, 5))
def SA49 : Nat → Nat → Option (Nat × Nat) := upS SA48 9 6 (15, 60)
def XA47 : Nat → Nat → Nat → Option (Nat × Nat) := up3 XA46 10 0 6 (some (9, 6))
def SA50 : Nat → Nat → Option (Nat × Nat) := upS SA49 9 7 (15, 60)
def XA48 : Nat → Nat → Nat → Option (Nat × Nat) := up3 XA47 10 0 7 (some (9, 7))
def SA51 : Nat → Nat → Option (Nat × Nat) := upS SA50 9 8 (15, 60)
def XA49 : Nat → Nat → Nat → Option (Nat × Nat) := up3 XA48 10 0 8 (some (9, 8))
def SA52 : Nat → Nat → Option (Nat × Nat) := upS SA51 9 9 (15, 60)
def XA50 : Nat → Nat → Nat → Option (Nat × Nat) := up3 XA49 10 0 9 (some (9, 9))
def SA53 : Nat → Nat → Option (Nat × Nat) := upS SA52 9 10 (15, 60)
def XA51 : Nat → Nat → Nat → Option (Nat × Nat) := up3 XA50 10 0 10 (some (9, 10))
def SA54 : Nat → Nat → Option (Nat × Nat) := upS SA53 9 11 (15, 60)
def XA52 : Nat → Nat → Nat → Option (Nat × Nat) := up3 XA51 10 0 11 (some (9, 11))
def SA55 : Nat → Nat → Option (Nat × Nat) := upS SA54 9 12 (15, 60)
def XA53 : Nat → Nat → Nat → Option (Nat × Nat) := up3 XA52 10 0 12 (some (9, 12))
def SA56 : Nat → Nat → Option (Nat × Nat) := upS SA55 9 13 (15, 60)
def XA54 : Nat → Nat → Nat → Option (Nat × Nat) := up3 XA53 10 0 13 (some (9, 13))
def SA57 : Nat → Nat → Option (Nat × Nat) := upS SA56 9 14 (13, 60)
def XA55 : Nat → Nat → Nat → Option (Nat × Nat) := up3 XA54 10 0 14 (some (9, 14))
def SA58 : Nat → Nat → Option (Nat × Nat) := upS SA57 9 15 (13, 60)
def XA56 : Nat → Nat → Nat → Option (Nat × Nat) := up3 XA55 10 0 15 (some (9, 15))
def SA59 : Nat → Nat → Option (Nat × Nat) := upS SA58 9 16 (13, 60)
def XA57 : Nat → Nat → Nat → Option (Nat × Nat) := up3 XA56 10 0 16 (some (9, 16))
def SA60 : Nat → Nat → Option (Nat × Nat) := upS SA59 9 22 (15, 60)
def XA58 : Nat → Nat → Nat → Option (Nat × Nat) := up3 XA57 10 0 22 (some (9, 22))
def SA61 : Nat → Nat → Option (Nat × Nat) := upS SA60 9 23 (15, 60)
def XA59 : Nat → Nat → Nat → Option (Nat × Nat) := up3 XA58 10 0 23 (some (9, 23))
def SA62 : Nat → Nat → Option (Nat × Nat) := upS SA61 9 24 (13, 7)
def XA60 : Nat → Nat → Nat → Option (Nat × Nat) := up3 XA59 10 0 24 (some (9, 24))
def SA63 : Nat → Nat → Option (Nat × Nat) := upS SA62 9 28 (15, 3)
def XA61 : Nat → Nat → Nat → Option (Nat × Nat) := up3 XA60 10 0 28 (some (9, 28))
def SA64 : Nat → Nat → Option (Nat × Nat) := upS SA63 9 29 (15, 64)
def XA62 : Nat → Nat → Nat → Option (Nat × Nat) := up3 XA61 10 0 29 (some (9, 29))
def PA10 : VI := up3 PA9 10 0 31 (5)
def SA65 : Nat → Nat → Option (Nat × Nat) := upS SA64 9 32 (13, 364)
def XA63 : Nat → Nat → Nat → Option (Nat × Nat) := up3 XA62 10 0 32 (some (9, 32))
def SA66 : Nat → Nat → Option (Nat × Nat) := upS SA65 9 33 (15, 364)
def XA64 : Nat → Nat → Nat → Option (Nat × Nat) := up3 XA63 10 0 33 (some (9, 33))
def SA67 : Nat → Nat → Option (Nat × Nat) := upS SA66 9 34 (15, 364)
def XA65 : Nat → Nat → Nat → Option (Nat × Nat) := up3 XA64 10 0 34 (some (9, 34))
def SA68 : Nat → Nat → Option (Nat × Nat) := upS SA67 9 35 (15, 364)
def XA66 : Nat → Nat → Nat → Option (Nat × Nat) := up3 XA65 10 0 35 (some (9, 35))
def SA69 : Nat → Nat → Option (Nat × Nat) := upS SA68 9 36 (15, 364)
def XA67 : Nat → Nat → Nat → Option (Nat × Nat) := up3 XA66 10 0 36 (some (9, 36))
def SA70 : Nat → Nat → Option (Nat × Nat) := upS SA69 9 37 (15, 364)
def XA68 : Nat → Nat → Nat → Option (Nat × Nat) := up3 XA67 10 0 37 (some (9, 37))
def SA71 : Nat → Nat → Option (Nat × Nat) := upS SA70 9 38 (15, 364)
def XA69 : Nat → Nat → Nat → Option (Nat × Nat) := up3 XA68 10 0 38 (some (9, 38))
def SA72 : Nat → Nat → Option (Nat × Nat) := upS SA71 9 39 (15, 364)
def XA70 : Nat → Nat → Nat → Option (Nat × Nat) := up3 XA69 10 0 39 (some (9, 39))
def SA73 : Nat → Nat → Option (Nat × Nat) := upS SA72 9 40 (15, 364)
def XA71 : Nat → Nat → Nat → Option (Nat × Nat) := up3 XA70 10 0 40 (some (9, 40))
def SA74 : Nat → Nat → Option (Nat × Nat) := upS SA73 9 41 (15, 364)
def XA72 : Nat → Nat → Nat → Option (Nat × Nat) := up3 XA71 10 0 41 (some (9, 41))
def SA75 : Nat → Nat → Option (Nat × Nat) := upS SA74 9 42 (15, 364)
def XA73 : Nat → Nat → Nat → Option (Nat × Nat) := up3 XA72 10 0 42 (some (9, 42))
def SA76 : Nat → Nat → Option (Nat × Nat) := upS SA75 9 43 (15, 364)
def XA74 : Nat → Nat → Nat → Option (Nat × Nat) := up3 XA73 10 0 43 (some (9, 43))
def SA77 : Nat → Nat → Option (Nat × Nat) := upS SA76 9 44 (15, 3)
def XA75 : Nat → Nat → Nat → Option (Nat × Nat) := up3 XA74 10 0 44 (some (9, 44))
def SA78 : Nat → Nat → Option (Nat × Nat) := upS SA77 9 45 (15, 3)
def XA76 : Nat → Nat → Nat → Option (Nat × Nat) := up3 XA75 10 0 45 (some (9, 45))
def SA79 : Nat → Nat → Option (Nat × Nat) := upS SA78 9 46 (15, 3)
def XA77 : Nat → Nat → Nat → Option (Nat × Nat) := up3 XA76 10 0 46 (some (9, 46))
def SA80 : Nat → Nat → Option (Nat × Nat) := upS SA79 9 47 (15, 3)
def XA78 : Nat → Nat → Nat → Option (Nat × Nat) := up3 XA77 10 0 47 (some (9, 47))
def SA81 : Nat → Nat → Option (Nat × Nat) := upS SA80 9 48 (15, 3)
def XA79 : Nat → Nat → Nat → Option (Nat × Nat) := up3 XA78 10 0 48 (some (9, 48))
def SA82 : Nat → Nat → Option (Nat × Nat) := upS SA81 9 49 (15, 3)
def XA80 : Nat → Nat → Nat → Option (Nat × Nat) := up3 XA79 10 0 49 (some (9, 49))
def SA83 : Nat → Nat → Option (Nat × Nat) := upS SA82 9 50 (15, 21)
def XA81 : Nat → Nat → Nat → Option (Nat × Nat) := up3 XA80 10 0 50 (some (9, 50))
def SA84 : Nat → Nat → Option (Nat × Nat) := upS SA83 9 51 (15, 3)
def XA82 : Nat → Nat → Nat → Option (Nat × Nat) := up3 XA81 10 0 51 (some (9, 51))
def SA85 : Nat → Nat → Option (Nat × Nat) := upS SA84 9 53 (15, 21)
def XA83 : Nat → Nat → Nat → Option (Nat × Nat) := up3 XA82 10 0 53 (some (9, 53))
def SA86 : Nat → Nat → Option (Nat × Nat) := upS SA85 9 54 (15, 3)
def XA84 : Nat → Nat → Nat → Option (Nat × Nat) := up3 XA83 10 0 54 (some (9, 54))
def SA87 : Nat → Nat → Option (Nat × Nat) := upS SA86 9 55 (15, 21)
def XA85 : Nat → Nat → Nat → Option (Nat × Nat) := up3 XA84 10 0 55 (some (9, 55))
def SA88 : Nat → Nat → Option (Nat × Nat) := upS SA87 9 56 (15, 3)
def XA86 : Nat → Nat → Nat → Option (Nat × Nat) := up3 XA85 10 0 56 (some (9, 56))
def SA89 : Nat → Nat → Option (Nat × Nat) := upS SA88 9 57 (13, 7)
def XA87 : Nat → Nat → Nat → Option (Nat × Nat) := up3 XA86 10 0 57 (some (9, 57))
def PA11 : VI := up3 PA10 10 0 62 (20)
def PA12 : VI := up3 PA11 10 0 63 (10)
def PA13 : VI := up3 PA12 10 0 64 (20)
def SA90 : Nat → Nat → Option (Nat × Nat) := upS SA89 9 72 (15, 15000)
def XA88 : Nat → Nat → Nat → Option (Nat × Nat) := up3 XA87 10 0 72 (some (9, 72))
def SA91 : Nat → Nat → Option (Nat × Nat) := upS SA90 9 75 (14, 120)
def XA89 : Nat → Nat → Nat → Option (Nat × Nat) := up3 XA88 10 0 75 (some (9, 75))
def SA92 : Nat → Nat → Option (Nat × Nat) := upS SA91 9 76 (14, 2400)
def XA90 : Nat → Nat → Nat → Option (Nat × Nat) := up3 XA89 10 0 76 (some (9, 76))
def SA93 : Nat → Nat → Option (Nat × Nat) := upS SA92 9 77 (15, 20)
def XA91 : Nat → Nat → Nat → Option (Nat × Nat) := up3 XA90 10 0 77 (some (9, 77))
def SA94 : Nat → Nat → Option (Nat × Nat) := upS SA93 9 78 (15, 20)
def XA92 : Nat → Nat → Nat → Option (Nat × Nat) := up3 XA91 10 0 78 (some (9, 78))
def SA95 : Nat → Nat → Option (Nat × Nat) := upS SA94 9 79 (15, 20)
def XA93 : Nat → Nat → Nat → Option (Nat × Nat) := up3 XA92 10 0 79 (some (9, 79))
def XA94 : Nat → Nat → Nat → Option (Nat × Nat) := up3 XA93 10 0 82 (some (9, 75))
def SA96 : Nat → Nat → Option (Nat × Nat) := upS SA95 9 91 (15, 600)
def XA95 : Nat → Nat → Nat → Option (Nat × Nat) := up3 XA94 10 0 91 (some (9, 91))
def SA97 : Nat → Nat → Option (Nat × Nat) := upS SA96 9 92 (15, 600)
def XA96 : Nat → Nat → Nat → Option (Nat × Nat) := up3 XA95 10 0 92 (some (9, 92))
def SA98 : Nat → Nat → Option (Nat × Nat) := upS SA97 9 93 (15, 1800)
def XA97 : Nat → Nat → Nat → Option (Nat × Nat) := up3 XA96 10 0 93 (some (9, 93))
def SA99 : Nat → Nat → Option (Nat × Nat) := upS SA98 9 94 (15, 3)
def XA98 : Nat → Nat → Nat → Option (Nat × Nat) := up3 XA97 10 0 94 (some (9, 94))
def SA100 : Nat → Nat → Option (Nat × Nat) := upS SA99 9 97 (15, 12)
def XA99 : Nat → Nat → Nat → Option (Nat × Nat) := up3 XA98 10 0 97 (some (9, 97))
def QA2 : VJ := up3 QA1 10 0 99 (1)
def PA14 : VI := rng PA13 9 29 64 10
def PA15 : VI := rng PA14 9 94 3 1
def PA16 : VI := rng PA15 9 39 364 (-1)
def SA101 : Nat → Nat → Option (Nat × Nat) := upS SA100 0 40 (16, 1)
set_option maxHeartbeats 4000000 in
theorem c_Mv_init : CT 1310 36 0 6 SA7 PA0 QA1 XA5 SA12 PA0 QA1 XA10 := by
  intro M ad0 sc R h hR
  obtain ⟨ad, had⟩ : ∃ ad, ad = ad0 := ⟨_, rfl⟩
  have h1 : MW ad0 SA7 sc M ad SA7 PA0 QA1 XA5 := by rw [had]; exact h
  clear h had
  show Go 1310 36 5 35 0 [.ref (ad0 0 6)] [] M R
  refine st_sup (pc1 := 1) (fun _ _ => rfl) rfl (by decide) ?_
  refine st_aarr (t := 0) (i := 6) (f := 0) (t' := 0) (i' := 11) (x := 7) (n := 7) (bc' := 4) (bs' := 28) h1 (show SA7 0 6 = some (5, 0) by decide +kernel) (by decide +kernel) (fun _ _ => rfl) rfl (fun _ _ _ => rfl) (by decide +kernel) (by decide +kernel) ?_
  clear h1
  intro M ad h1
  replace h1 : MW ad0 SA7 sc M ad SA8 PA0 QA1 XA6 := h1
  show Go 1310 36 4 28 13 [.ref (ad0 0 6)] [] M R
  refine st_arr (t := 0) (i := 6) (f := 1) (t' := 0) (i' := 12) (x := 7) (n := 7) (bc' := 3) (bs' := 21) h1 (show SA7 0 6 = some (5, 0) by decide +kernel) (by decide +kernel) (fun _ _ => rfl) rfl (fun _ _ _ => rfl) (by decide +kernel) (by decide +kernel) ?_
  clear h1
  intro M ad h1
  replace h1 : MW ad0 SA7 sc M ad SA9 PA0 QA1 XA7 := h1
  show Go 1310 36 3 21 21 [.ref (ad0 0 6)] [] M R
  refine st_aarr (t := 0) (i := 6) (f := 3) (t' := 0) (i' := 13) (x := 7) (n := 7) (bc' := 2) (bs' := 14) h1 (show SA7 0 6 = some (5, 0) by decide +kernel) (by decide +kernel) (fun _ _ => rfl) rfl (fun _ _ _ => rfl) (by decide +kernel) (by decide +kernel) ?_
  clear h1
  intro M ad h1
  replace h1 : MW ad0 SA7 sc M ad SA10 PA0 QA1 XA8 := h1
  show Go 1310 36 2 14 30 [.ref (ad0 0 6)] [] M R
  refine st_arr (t := 0) (i := 6) (f := 5) (t' := 0) (i' := 14) (x := 7) (n := 7) (bc' := 1) (bs' := 7) h1 (show SA7 0 6 = some (5, 0) by decide +kernel) (by decide +kernel) (fun _ _ => rfl) rfl (fun _ _ _ => rfl) (by decide +kernel) (by decide +kernel) ?_
  clear h1
  intro M ad h1
  replace h1 : MW ad0 SA7 sc M ad SA11 PA0 QA1 XA9 := h1
  show Go 1310 36 1 7 38 [.ref (ad0 0 6)] [] M R
  refine st_arr (t := 0) (i := 6) (f := 6) (t' := 0) (i' := 15) (x := 7) (n := 7) (bc' := 0) (bs' := 0) h1 (show SA7 0 6 = some (5, 0) by decide +kernel) (by decide +kernel) (fun _ _ => rfl) rfl (fun _ _ _ => rfl) (by decide +kernel) (by decide +kernel) ?_
  clear h1
  intro M ad h1
  replace h1 : MW ad0 SA7 sc M ad SA12 PA0 QA1 XA10 := h1
  show Go 1310 36 0 0 46 [.ref (ad0 0 6)] [] M R
  refine go_vret rfl rfl ?_
  exact hR M ad h1
set_option maxHeartbeats 4000000 in
theorem c_Ro_init : CT 1309 67 0 16 SA14 PA0 QA1 XA11 SA15 PA2 QA1 XA12 := by
  intro M ad0 sc R h hR
  obtain ⟨ad, had⟩ : ∃ ad, ad = ad0 := ⟨_, rfl⟩
  have h1 : MW ad0 SA14 sc M ad SA14 PA0 QA1 XA11 := by rw [had]; exact h
  clear h had
  show Go 1309 67 1 64 0 [.ref (ad0 0 16), .retAddr 0] [] M R
  refine st_sup (pc1 := 1) (fun _ _ => rfl) rfl (by decide) ?_
  refine st_arr (t := 0) (i := 16) (f := 0) (t' := 0) (i' := 31) (x := 64) (n := 64) (bc' := 0) (bs' := 0) h1 (show SA14 0 16 = some (7, 0) by decide +kernel) (by decide +kernel) (fun _ _ => rfl) rfl (fun _ _ _ => rfl) (by decide +kernel) (by decide +kernel) ?_
  clear h1
  intro M ad h1
  replace h1 : MW ad0 SA14 sc M ad SA15 PA0 QA1 XA12 := h1
  show Go 1309 67 0 0 12 [.ref (ad0 0 16), .retAddr 0] [] M R
  refine st_int (t := 0) (i := 16) (f := 1) (x := 5) h1 (show SA14 0 16 = some (7, 0) by decide +kernel) (fun _ _ => rfl) ?_
  clear h1
  intro M h1
  replace h1 : MW ad0 SA14 sc M ad SA15 PA1 QA1 XA12 := h1
  show Go 1309 67 0 0 17 [.ref (ad0 0 16), .retAddr 0] [] M R
  have e0 := h1.at0 (show SA14 0 16 = some (7, 0) by decide +kernel)
  have hr := h1.r (t := 0) (i := 16) (f := 0) (t' := 0) (i' := 31) (c := 7) (n := 0) (by decide +kernel) (by decide +kernel)
  have ho := h1.ob (t := 0) (i := 16) (c := 7) (n := 0) (by decide +kernel)
  have hoa := h1.ob (t := 0) (i := 31) (c := 15) (n := 64) (by decide +kernel)
  have hna := h1.ln (t := 0) (i := 31) (c := 15) (n := 64) (by decide +kernel)
  rw [e0] at hr ho
  refine go_blk 3 [some (.ref (ad 0 31))] (pc' := 23) (vs' := [.ref (ad0 0 16), .retAddr 0]) (st' := [.int 10, .ref (ad 0 31)]) (M' := M) (ps := [ob M (ad0 0 16) 7, mR M (ad0 0 16) 0 = some (ad 0 31), va_rf (some (ad 0 31)) = .ref (ad 0 31)]) rfl ⟨ho, hr, rfl, trivial⟩ ?_
  refine go_callS rfl (by decide) rfl rfl (by omega) rfl (by decide) (by decide) ?_
  rw [← mm_self M]
  refine s_JA_fill0 (ad := ad) (N := 64) (by omega) hoa hna (by decide) ⟨ne_v, ?_⟩
  show Go 1309 67 0 0 26 [.ref (ad0 0 16), .retAddr 0] [] (mm M (fil (ad 0 31) 64 10 (mI M)) (mJ M)) R
  refine go_blk 2 [] (pc' := 28) (vs' := [.ref (ad0 0 16), .int 0]) (st' := []) (M' := mm M (fil (ad 0 31) 64 10 (mI M)) (mJ M)) (ps := []) rfl trivial ?_
  have loop : ∀ n, n ≤ 8 → Go 1309 67 0 0 28 [.ref (ad0 0 16), .int (nI n)] [] (mm M (dia (ad 0 31) n (fil (ad 0 31) 64 10 (mI M))) (mJ M)) R := by
    refine up_ind 8 ?_ (fun n hlt ih => ?_)
    · refine go_blk 2 [] (pc' := 31) (vs' := [.ref (ad0 0 16), .int (nI 8)]) (st' := [.int (nI 8), .int (nI 8)]) (M' := mm M (dia (ad 0 31) 8 (fil (ad 0 31) 64 10 (mI M))) (mJ M)) (ps := []) rfl trivial ?_
      refine go_icmp rfl (fun _ => ?_) (fun (z : ¬ (nI 8 ≤ nI 8)) => absurd (Int32.le_refl _) z)
      refine go_vret rfl rfl ?_
      exact hR _ ad ((h1.fill (t := 0) (i := 31) (n := 64) (x := 10) (w := (15, 64)) (by decide +kernel)).diag (t := 0) (i := 31) (n := 8) (w := (15, 64)) (by decide +kernel))
    · refine go_blk 2 [] (pc' := 31) (vs' := [.ref (ad0 0 16), .int (nI n)]) (st' := [.int (nI 8), .int (nI n)]) (M' := mm M (dia (ad 0 31) n (fil (ad 0 31) 64 10 (mI M))) (mJ M)) (ps := []) rfl trivial ?_
      refine go_icmp rfl (fun (z : nI 8 ≤ nI n) => absurd z (Int32.not_le.mpr ((nI_lts (a := n) (b := 8) (by omega) (by omega)).mpr hlt))) (fun _ => ?_)
      have ei : nI n * 8 + nI n = nI (9 * n) := by
        rw [show (8 : Int32) = nI 8 from rfl, pk_mul, nI_add]
        exact congrArg nI (by omega)
      refine go_blk 11 [some (.ref (ad 0 31))] (pc' := 28) (vs' := [.ref (ad0 0 16), .int (nI n + 1)]) (st' := []) (M' := mm M (up2 (dia (ad 0 31) n (fil (ad 0 31) 64 10 (mI M))) (ad 0 31) (nI n * 8 + nI n).toNatClampNeg 0) (mJ M)) (ps := [ob (mm M (dia (ad 0 31) n (fil (ad 0 31) 64 10 (mI M))) (mJ M)) (ad0 0 16) 7, mR (mm M (dia (ad 0 31) n (fil (ad 0 31) 64 10 (mI M))) (mJ M)) (ad0 0 16) 0 = some (ad 0 31), va_rf (some (ad 0 31)) = .ref (ad 0 31), ob (mm M (dia (ad 0 31) n (fil (ad 0 31) 64 10 (mI M))) (mJ M)) (ad 0 31) 15, vp_in (nI n * 8 + nI n) (mN (mm M (dia (ad 0 31) n (fil (ad 0 31) 64 10 (mI M))) (mJ M)) (ad 0 31))]) rfl ⟨ho, hr, rfl, hoa, by rw [ei]; exact vpi hna (by omega), trivial⟩ ?_
      rw [ei, nI_clamp (n := 9 * n) (by omega), dia_s, show nI n + 1 = nI (n + 1) from nI_add n 1]
      exact ih
  have := loop 0 (by omega)
  rw [dia_0] at this
  exact this
set_option maxHeartbeats 4000000 in
theorem c_Pl_init : CT 1310 45 0 7 SA13 PA0 QA1 XA11 SA29 PA2 QA1 XA27 := by
  intro M ad0 sc R h hR
  obtain ⟨ad, had⟩ : ∃ ad, ad = ad0 := ⟨_, rfl⟩
  have h1 : MW ad0 SA13 sc M ad SA13 PA0 QA1 XA11 := by rw [had]; exact h
  clear h had
  show Go 1310 45 16 12539 0 [.ref (ad0 0 7)] [] M R
  refine st_sup (pc1 := 1) (fun _ _ => rfl) rfl (by decide) ?_
  refine st_obj (t := 0) (i := 7) (f := 0) (t' := 0) (i' := 16) (bc' := 14) (bs' := 12473) h1 (show SA13 0 7 = some (6, 0) by decide +kernel) (by decide +kernel) (fun _ _ => rfl) rfl (by decide) (fun _ _ _ => rfl) rfl (by decide) rfl (fun _ _ => rfl) (fun _ _ _ => rfl) rfl (by decide +kernel) c_Ro_init ?_
  clear h1
  intro M ad h1
  replace h1 : MW ad0 SA13 sc M ad SA15 PA2 QA1 XA13 := h1
  show Go 1310 45 14 12473 15 [.ref (ad0 0 7)] [] M R
  refine st_aarr (t := 0) (i := 7) (f := 1) (t' := 0) (i' := 17) (x := 7) (n := 7) (bc' := 13) (bs' := 12466) h1 (show SA13 0 7 = some (6, 0) by decide +kernel) (by decide +kernel) (fun _ _ => rfl) rfl (fun _ _ _ => rfl) (by decide +kernel) (by decide +kernel) ?_
  clear h1
  intro M ad h1
  replace h1 : MW ad0 SA13 sc M ad SA16 PA2 QA1 XA14 := h1
  show Go 1310 45 13 12466 24 [.ref (ad0 0 7)] [] M R
  refine st_arr (t := 0) (i := 7) (f := 3) (t' := 0) (i' := 18) (x := 7) (n := 7) (bc' := 12) (bs' := 12459) h1 (show SA13 0 7 = some (6, 0) by decide +kernel) (by decide +kernel) (fun _ _ => rfl) rfl (fun _ _ _ => rfl) (by decide +kernel) (by decide +kernel) ?_
  clear h1
  intro M ad h1
  replace h1 : MW ad0 SA13 sc M ad SA17 PA2 QA1 XA15 := h1
  show Go 1310 45 12 12459 32 [.ref (ad0 0 7)] [] M R
  refine st_arr (t := 0) (i := 7) (f := 5) (t' := 0) (i' := 19) (x := 384) (n := 384) (bc' := 11) (bs' := 12075) h1 (show SA13 0 7 = some (6, 0) by decide +kernel) (by decide +kernel) (fun _ _ => rfl) rfl (fun _ _ _ => rfl) (by decide +kernel) (by decide +kernel) ?_
  clear h1
  intro M ad h1
  replace h1 : MW ad0 SA13 sc M ad SA18 PA2 QA1 XA16 := h1
  show Go 1310 45 11 12075 41 [.ref (ad0 0 7)] [] M R
  refine st_arr (t := 0) (i := 7) (f := 6) (t' := 0) (i' := 20) (x := 384) (n := 384) (bc' := 10) (bs' := 11691) h1 (show SA13 0 7 = some (6, 0) by decide +kernel) (by decide +kernel) (fun _ _ => rfl) rfl (fun _ _ _ => rfl) (by decide +kernel) (by decide +kernel) ?_
  clear h1
  intro M ad h1
  replace h1 : MW ad0 SA13 sc M ad SA19 PA2 QA1 XA17 := h1
  show Go 1310 45 10 11691 50 [.ref (ad0 0 7)] [] M R
  refine st_arr (t := 0) (i := 7) (f := 7) (t' := 0) (i' := 21) (x := 8) (n := 8) (bc' := 9) (bs' := 11683) h1 (show SA13 0 7 = some (6, 0) by decide +kernel) (by decide +kernel) (fun _ _ => rfl) rfl (fun _ _ _ => rfl) (by decide +kernel) (by decide +kernel) ?_
  clear h1
  intro M ad h1
  replace h1 : MW ad0 SA13 sc M ad SA20 PA2 QA1 XA18 := h1
  show Go 1310 45 9 11683 58 [.ref (ad0 0 7)] [] M R
  refine st_arr (t := 0) (i := 7) (f := 8) (t' := 0) (i' := 22) (x := 8) (n := 8) (bc' := 8) (bs' := 11675) h1 (show SA13 0 7 = some (6, 0) by decide +kernel) (by decide +kernel) (fun _ _ => rfl) rfl (fun _ _ _ => rfl) (by decide +kernel) (by decide +kernel) ?_
  clear h1
  intro M ad h1
  replace h1 : MW ad0 SA13 sc M ad SA21 PA2 QA1 XA19 := h1
  show Go 1310 45 8 11675 66 [.ref (ad0 0 7)] [] M R
  refine st_arr (t := 0) (i := 7) (f := 9) (t' := 0) (i' := 23) (x := 8) (n := 8) (bc' := 7) (bs' := 11667) h1 (show SA13 0 7 = some (6, 0) by decide +kernel) (by decide +kernel) (fun _ _ => rfl) rfl (fun _ _ _ => rfl) (by decide +kernel) (by decide +kernel) ?_
  clear h1
  intro M ad h1
  replace h1 : MW ad0 SA13 sc M ad SA22 PA2 QA1 XA20 := h1
  show Go 1310 45 7 11667 74 [.ref (ad0 0 7)] [] M R
  refine st_arr (t := 0) (i := 7) (f := 10) (t' := 0) (i' := 24) (x := 8) (n := 8) (bc' := 6) (bs' := 11659) h1 (show SA13 0 7 = some (6, 0) by decide +kernel) (by decide +kernel) (fun _ _ => rfl) rfl (fun _ _ _ => rfl) (by decide +kernel) (by decide +kernel) ?_
  clear h1
  intro M ad h1
  replace h1 : MW ad0 SA13 sc M ad SA23 PA2 QA1 XA21 := h1
  show Go 1310 45 6 11659 82 [.ref (ad0 0 7)] [] M R
  refine st_arr (t := 0) (i := 7) (f := 11) (t' := 0) (i' := 25) (x := 8) (n := 8) (bc' := 5) (bs' := 11651) h1 (show SA13 0 7 = some (6, 0) by decide +kernel) (by decide +kernel) (fun _ _ => rfl) rfl (fun _ _ _ => rfl) (by decide +kernel) (by decide +kernel) ?_
  clear h1
  intro M ad h1
  replace h1 : MW ad0 SA13 sc M ad SA24 PA2 QA1 XA22 := h1
  show Go 1310 45 5 11651 90 [.ref (ad0 0 7)] [] M R
  refine st_arr (t := 0) (i := 7) (f := 12) (t' := 0) (i' := 26) (x := 3584) (n := 3584) (bc' := 4) (bs' := 8067) h1 (show SA13 0 7 = some (6, 0) by decide +kernel) (by decide +kernel) (fun _ _ => rfl) rfl (fun _ _ _ => rfl) (by decide +kernel) (by decide +kernel) ?_
  clear h1
  intro M ad h1
  replace h1 : MW ad0 SA13 sc M ad SA25 PA2 QA1 XA23 := h1
  show Go 1310 45 4 8067 99 [.ref (ad0 0 7)] [] M R
  refine st_arr (t := 0) (i := 7) (f := 13) (t' := 0) (i' := 27) (x := 3584) (n := 3584) (bc' := 3) (bs' := 4483) h1 (show SA13 0 7 = some (6, 0) by decide +kernel) (by decide +kernel) (fun _ _ => rfl) rfl (fun _ _ _ => rfl) (by decide +kernel) (by decide +kernel) ?_
  clear h1
  intro M ad h1
  replace h1 : MW ad0 SA13 sc M ad SA26 PA2 QA1 XA24 := h1
  show Go 1310 45 3 4483 108 [.ref (ad0 0 7)] [] M R
  refine st_arr (t := 0) (i := 7) (f := 14) (t' := 0) (i' := 28) (x := 3584) (n := 3584) (bc' := 2) (bs' := 899) h1 (show SA13 0 7 = some (6, 0) by decide +kernel) (by decide +kernel) (fun _ _ => rfl) rfl (fun _ _ _ => rfl) (by decide +kernel) (by decide +kernel) ?_
  clear h1
  intro M ad h1
  replace h1 : MW ad0 SA13 sc M ad SA27 PA2 QA1 XA25 := h1
  show Go 1310 45 2 899 117 [.ref (ad0 0 7)] [] M R
  refine st_arr (t := 0) (i := 7) (f := 15) (t' := 0) (i' := 29) (x := 896) (n := 896) (bc' := 1) (bs' := 3) h1 (show SA13 0 7 = some (6, 0) by decide +kernel) (by decide +kernel) (fun _ _ => rfl) rfl (fun _ _ _ => rfl) (by decide +kernel) (by decide +kernel) ?_
  clear h1
  intro M ad h1
  replace h1 : MW ad0 SA13 sc M ad SA28 PA2 QA1 XA26 := h1
  show Go 1310 45 1 3 126 [.ref (ad0 0 7)] [] M R
  refine st_arr (t := 0) (i := 7) (f := 18) (t' := 0) (i' := 30) (x := 3) (n := 3) (bc' := 0) (bs' := 0) h1 (show SA13 0 7 = some (6, 0) by decide +kernel) (by decide +kernel) (fun _ _ => rfl) rfl (fun _ _ _ => rfl) (by decide +kernel) (by decide +kernel) ?_
  clear h1
  intro M ad h1
  replace h1 : MW ad0 SA13 sc M ad SA29 PA2 QA1 XA27 := h1
  show Go 1310 45 0 0 133 [.ref (ad0 0 7)] [] M R
  refine go_vret rfl rfl ?_
  exact hR M ad h1
set_option maxHeartbeats 4000000 in
theorem c_La_init : CT 1310 30 0 8 SA30 PA2 QA1 XA28 SA30 PA4 QA1 XA28 := by
  intro M ad0 sc R h hR
  obtain ⟨ad, had⟩ : ∃ ad, ad = ad0 := ⟨_, rfl⟩
  have h1 : MW ad0 SA30 sc M ad SA30 PA2 QA1 XA28 := by rw [had]; exact h
  clear h had
  show Go 1310 30 0 0 0 [.ref (ad0 0 8)] [] M R
  refine st_sup (pc1 := 1) (fun _ _ => rfl) rfl (by decide) ?_
  refine st_int (t := 0) (i := 8) (f := 0) (x := 20) h1 (show SA30 0 8 = some (4, 0) by decide +kernel) (fun _ _ => rfl) ?_
  clear h1
  intro M h1
  replace h1 : MW ad0 SA30 sc M ad SA30 PA3 QA1 XA28 := h1
  show Go 1310 30 0 0 10 [.ref (ad0 0 8)] [] M R
  refine st_int (t := 0) (i := 8) (f := 1) (x := 10) h1 (show SA30 0 8 = some (4, 0) by decide +kernel) (fun _ _ => rfl) ?_
  clear h1
  intro M h1
  replace h1 : MW ad0 SA30 sc M ad SA30 PA4 QA1 XA28 := h1
  show Go 1310 30 0 0 16 [.ref (ad0 0 8)] [] M R
  refine go_vret rfl rfl ?_
  exact hR M ad h1
set_option maxHeartbeats 4000000 in
theorem c_Bs_init : CT 1310 10 0 9 SA31 PA4 QA1 XA29 SA35 PA7 QA1 XA33 := by
  intro M ad0 sc R h hR
  obtain ⟨ad, had⟩ : ∃ ad, ad = ad0 := ⟨_, rfl⟩
  have h1 : MW ad0 SA31 sc M ad SA31 PA4 QA1 XA29 := by rw [had]; exact h
  clear h had
  show Go 1310 10 4 423 0 [.ref (ad0 0 9)] [] M R
  refine st_sup (pc1 := 1) (fun _ _ => rfl) rfl (by decide) ?_
  refine st_arr (t := 0) (i := 9) (f := 0) (t' := 0) (i' := 32) (x := 120) (n := 120) (bc' := 3) (bs' := 303) h1 (show SA31 0 9 = some (1, 0) by decide +kernel) (by decide +kernel) (fun _ _ => rfl) rfl (fun _ _ _ => rfl) (by decide +kernel) (by decide +kernel) ?_
  clear h1
  intro M ad h1
  replace h1 : MW ad0 SA31 sc M ad SA32 PA4 QA1 XA30 := h1
  show Go 1310 10 3 303 12 [.ref (ad0 0 9)] [] M R
  refine st_arr (t := 0) (i := 9) (f := 1) (t' := 0) (i' := 33) (x := 120) (n := 120) (bc' := 2) (bs' := 183) h1 (show SA31 0 9 = some (1, 0) by decide +kernel) (by decide +kernel) (fun _ _ => rfl) rfl (fun _ _ _ => rfl) (by decide +kernel) (by decide +kernel) ?_
  clear h1
  intro M ad h1
  replace h1 : MW ad0 SA31 sc M ad SA33 PA4 QA1 XA31 := h1
  show Go 1310 10 2 183 20 [.ref (ad0 0 9)] [] M R
  refine st_arr (t := 0) (i := 9) (f := 3) (t' := 0) (i' := 34) (x := 180) (n := 180) (bc' := 1) (bs' := 3) h1 (show SA31 0 9 = some (1, 0) by decide +kernel) (by decide +kernel) (fun _ _ => rfl) rfl (fun _ _ _ => rfl) (by decide +kernel) (by decide +kernel) ?_
  clear h1
  intro M ad h1
  replace h1 : MW ad0 SA31 sc M ad SA34 PA4 QA1 XA32 := h1
  show Go 1310 10 1 3 29 [.ref (ad0 0 9)] [] M R
  refine go_blk 2 [] (pc' := 31) (vs' := [.ref (ad0 0 9)]) (st' := [.int 3, .ref (ad0 0 9)]) (M' := M) (ps := []) rfl trivial ?_
  refine go_newa rfl (by decide) (by decide) (by decide) (by decide) (fun q hq => ?_)
  obtain ⟨ad1, g1, g2, g3⟩ := h1.1.alA hq (t := 0) (i := 35) (by decide +kernel) 15 3
  have h2 := h1.grow (by decide +kernel) g1 g2 rfl
  clear h1 g1 g2
  rw [← g3]
  obtain ⟨M1, hM1⟩ : ∃ M1, alA M q 15 3 = M1 := ⟨_, rfl⟩
  rw [hM1] at h2
  show Go 1310 10 0 0 33 [.ref (ad0 0 9)] [.ref (ad1 0 35), .ref (ad0 0 9)] (alA M (ad1 0 35) 15 3) R
  rw [g3, hM1, ← g3]
  clear hM1 hq g3
  replace h2 : MW ad0 SA31 sc M1 ad1 SA35 PA4 QA1 XA32 := h2
  refine go_blk 4 [] (pc' := 37) (vs' := [.ref (ad0 0 9)]) (st' := [.ref (ad1 0 35), .ref (ad0 0 9)]) (M' := sI M1 (ad1 0 35) (Int32.toNatClampNeg 0) 1) (ps := [(Value.ref (ad1 0 35)).category = 1, ob M1 (ad1 0 35) 15, vp_in 0 (mN M1 (ad1 0 35))]) rfl ⟨rfl, h2.ob (n := 3) (by decide +kernel), show vp_in (nI 0) _ from vpi (h2.ln (c := 15) (n := 3) (by decide +kernel)) (by decide), trivial⟩ ?_
  rw [show Int32.toNatClampNeg 0 = 0 by decide +kernel]
  replace h2 := h2.setI (t := 0) (i := 35) (f := 0) (x := 1) (w := (15, 3)) (by decide +kernel)
  obtain ⟨M2, hM2⟩ : ∃ M2, sI M1 (ad1 0 35) 0 1 = M2 := ⟨_, rfl⟩
  rw [hM2] at h2 ⊢
  clear hM2 M1
  obtain ⟨M1, hM1⟩ : ∃ M1, M2 = M1 := ⟨_, rfl⟩
  subst hM1
  replace h2 : MW ad0 SA31 sc M2 ad1 SA35 PA5 QA1 XA32 := h2
  obtain ⟨M1, hM1⟩ : ∃ M1, M1 = M2 := ⟨_, rfl⟩
  rw [← hM1] at h2 ⊢
  clear hM1 M2
  refine go_blk 4 [] (pc' := 41) (vs' := [.ref (ad0 0 9)]) (st' := [.ref (ad1 0 35), .ref (ad0 0 9)]) (M' := sI M1 (ad1 0 35) (Int32.toNatClampNeg 1) 1) (ps := [(Value.ref (ad1 0 35)).category = 1, ob M1 (ad1 0 35) 15, vp_in 1 (mN M1 (ad1 0 35))]) rfl ⟨rfl, h2.ob (n := 3) (by decide +kernel), show vp_in (nI 1) _ from vpi (h2.ln (c := 15) (n := 3) (by decide +kernel)) (by decide), trivial⟩ ?_
  rw [show Int32.toNatClampNeg 1 = 1 by decide +kernel]
  replace h2 := h2.setI (t := 0) (i := 35) (f := 1) (x := 1) (w := (15, 3)) (by decide +kernel)
  obtain ⟨M2, hM2⟩ : ∃ M2, sI M1 (ad1 0 35) 1 1 = M2 := ⟨_, rfl⟩
  rw [hM2] at h2 ⊢
  clear hM2 M1
  obtain ⟨M1, hM1⟩ : ∃ M1, M2 = M1 := ⟨_, rfl⟩
  subst hM1
  replace h2 : MW ad0 SA31 sc M2 ad1 SA35 PA6 QA1 XA32 := h2
  obtain ⟨M1, hM1⟩ : ∃ M1, M1 = M2 := ⟨_, rfl⟩
  rw [← hM1] at h2 ⊢
  clear hM1 M2
  refine go_blk 4 [] (pc' := 45) (vs' := [.ref (ad0 0 9)]) (st' := [.ref (ad1 0 35), .ref (ad0 0 9)]) (M' := sI M1 (ad1 0 35) (Int32.toNatClampNeg 2) 1) (ps := [(Value.ref (ad1 0 35)).category = 1, ob M1 (ad1 0 35) 15, vp_in 2 (mN M1 (ad1 0 35))]) rfl ⟨rfl, h2.ob (n := 3) (by decide +kernel), show vp_in (nI 2) _ from vpi (h2.ln (c := 15) (n := 3) (by decide +kernel)) (by decide), trivial⟩ ?_
  rw [show Int32.toNatClampNeg 2 = 2 by decide +kernel]
  replace h2 := h2.setI (t := 0) (i := 35) (f := 2) (x := 1) (w := (15, 3)) (by decide +kernel)
  obtain ⟨M2, hM2⟩ : ∃ M2, sI M1 (ad1 0 35) 2 1 = M2 := ⟨_, rfl⟩
  rw [hM2] at h2 ⊢
  clear hM2 M1
  obtain ⟨M1, hM1⟩ : ∃ M1, M2 = M1 := ⟨_, rfl⟩
  subst hM1
  replace h2 : MW ad0 SA31 sc M2 ad1 SA35 PA7 QA1 XA32 := h2
  obtain ⟨M1, hM1⟩ : ∃ M1, M1 = M2 := ⟨_, rfl⟩
  rw [← hM1] at h2 ⊢
  clear hM1 M2
  have e0 := h2.at0 (show SA31 0 9 = some (1, 0) by decide +kernel)
  refine go_blk 1 [] (pc' := 48) (vs' := [.ref (ad0 0 9)]) (st' := []) (M' := sR M1 (ad0 0 9) 5 (some (ad1 0 35))) (ps := [ob M1 (ad0 0 9) 1]) rfl ⟨by rw [← e0]; exact h2.ob (n := 0) (by decide +kernel), trivial⟩ ?_
  replace h2 := h2.setR (t := 0) (i := 9) (f := 5) (t' := 0) (i' := 35) (w := (1, 0)) (w' := (15, 3)) (by decide +kernel) (by decide +kernel)
  rw [e0] at h2
  clear e0 M ad
  obtain ⟨ad, had⟩ : ∃ ad, ad = ad1 := ⟨_, rfl⟩
  obtain ⟨M, hM⟩ : ∃ M, M = sR M1 (ad0 0 9) 5 (some (ad1 0 35)) := ⟨_, rfl⟩
  rw [← hM, ← had] at h2
  rw [← hM]
  have h1 : MW ad0 SA31 sc M ad SA35 PA7 QA1 XA33 := h2
  refine go_vret rfl rfl ?_
  exact hR M ad h1
set_option maxHeartbeats 4000000 in
theorem c_Tx_init : CT 1309 82 7 0 SA37 PA7 QA1 XA34 SA38 PA9 QA1 XA35 := by
  intro M ad0 sc R h hR
  obtain ⟨ad, had⟩ : ∃ ad, ad = ad0 := ⟨_, rfl⟩
  have h1 : MW ad0 SA37 sc M ad SA37 PA7 QA1 XA34 := by rw [had]; exact h
  clear h had
  show Go 1309 82 1 120 0 [.ref (ad0 7 0)] [] M R
  refine st_sup (pc1 := 1) (fun _ _ => rfl) rfl (by decide) ?_
  refine st_arr (t := 7) (i := 0) (f := 0) (t' := 8) (i' := 0) (x := 120) (n := 120) (bc' := 0) (bs' := 0) h1 (show SA37 7 0 = some (9, 0) by decide +kernel) (by decide +kernel) (fun _ _ => rfl) rfl (fun _ _ _ => rfl) (by decide +kernel) (by decide +kernel) ?_
  clear h1
  intro M ad h1
  replace h1 : MW ad0 SA37 sc M ad SA38 PA7 QA1 XA35 := h1
  show Go 1309 82 0 0 12 [.ref (ad0 7 0)] [] M R
  refine st_int (t := 7) (i := 0) (f := 2) (x := (-1)) h1 (show SA37 7 0 = some (9, 0) by decide +kernel) (fun _ _ => rfl) ?_
  clear h1
  intro M h1
  replace h1 : MW ad0 SA37 sc M ad SA38 PA8 QA1 XA35 := h1
  show Go 1309 82 0 0 17 [.ref (ad0 7 0)] [] M R
  refine st_int (t := 7) (i := 0) (f := 3) (x := (-1)) h1 (show SA37 7 0 = some (9, 0) by decide +kernel) (fun _ _ => rfl) ?_
  clear h1
  intro M h1
  replace h1 : MW ad0 SA37 sc M ad SA38 PA9 QA1 XA35 := h1
  show Go 1309 82 0 0 22 [.ref (ad0 7 0)] [] M R
  refine go_vret rfl rfl ?_
  exact hR M ad h1
set_option maxHeartbeats 4000000 in
theorem c_Wa_init : CT 1310 106 0 10 SA36 PA7 QA1 XA34 SA42 PA9 QA1 XA40 := by
  intro M ad0 sc R h hR
  obtain ⟨ad, had⟩ : ∃ ad, ad = ad0 := ⟨_, rfl⟩
  have h1 : MW ad0 SA36 sc M ad SA36 PA7 QA1 XA34 := by rw [had]; exact h
  clear h had
  show Go 1310 106 6 9149 0 [.ref (ad0 0 10)] [] M R
  refine st_sup (pc1 := 1) (fun _ _ => rfl) rfl (by decide) ?_
  refine st_obj (t := 0) (i := 10) (f := 0) (t' := 7) (i' := 0) (bc' := 4) (bs' := 9020) h1 (show SA36 0 10 = some (10, 0) by decide +kernel) (by decide +kernel) (fun _ _ => rfl) rfl (by decide) (fun _ _ _ => rfl) rfl (by decide) rfl (fun _ _ => rfl) (fun _ _ _ => rfl) rfl (by decide +kernel) c_Tx_init ?_
  clear h1
  intro M ad h1
  replace h1 : MW ad0 SA36 sc M ad SA38 PA9 QA1 XA36 := h1
  show Go 1310 106 4 9020 15 [.ref (ad0 0 10)] [] M R
  refine st_aarr (t := 0) (i := 10) (f := 1) (t' := 0) (i' := 36) (x := 20) (n := 20) (bc' := 3) (bs' := 9000) h1 (show SA36 0 10 = some (10, 0) by decide +kernel) (by decide +kernel) (fun _ _ => rfl) rfl (fun _ _ _ => rfl) (by decide +kernel) (by decide +kernel) ?_
  clear h1
  intro M ad h1
  replace h1 : MW ad0 SA36 sc M ad SA39 PA9 QA1 XA37 := h1
  show Go 1310 106 3 9000 24 [.ref (ad0 0 10)] [] M R
  refine st_arr (t := 0) (i := 10) (f := 3) (t' := 0) (i' := 37) (x := 3000) (n := 3000) (bc' := 2) (bs' := 6000) h1 (show SA36 0 10 = some (10, 0) by decide +kernel) (by decide +kernel) (fun _ _ => rfl) rfl (fun _ _ _ => rfl) (by decide +kernel) (by decide +kernel) ?_
  clear h1
  intro M ad h1
  replace h1 : MW ad0 SA36 sc M ad SA40 PA9 QA1 XA38 := h1
  show Go 1310 106 2 6000 33 [.ref (ad0 0 10)] [] M R
  refine st_aarr (t := 0) (i := 10) (f := 4) (t' := 0) (i' := 38) (x := 3000) (n := 3000) (bc' := 1) (bs' := 3000) h1 (show SA36 0 10 = some (10, 0) by decide +kernel) (by decide +kernel) (fun _ _ => rfl) rfl (fun _ _ _ => rfl) (by decide +kernel) (by decide +kernel) ?_
  clear h1
  intro M ad h1
  replace h1 : MW ad0 SA36 sc M ad SA41 PA9 QA1 XA39 := h1
  show Go 1310 106 1 3000 43 [.ref (ad0 0 10)] [] M R
  refine st_arr (t := 0) (i := 10) (f := 5) (t' := 0) (i' := 39) (x := 3000) (n := 3000) (bc' := 0) (bs' := 0) h1 (show SA36 0 10 = some (10, 0) by decide +kernel) (by decide +kernel) (fun _ _ => rfl) rfl (fun _ _ _ => rfl) (by decide +kernel) (by decide +kernel) ?_
  clear h1
  intro M ad h1
  replace h1 : MW ad0 SA36 sc M ad SA42 PA9 QA1 XA40 := h1
  show Go 1310 106 0 0 52 [.ref (ad0 0 10)] [] M R
  refine go_vret rfl rfl ?_
  exact hR M ad h1
set_option maxHeartbeats 4000000 in
theorem c_CY_init : CT 1311 115 0 0 SA1 PA0 QA0 XA0 SA42 PA9 QA1 XA41 := by
  intro M ad0 sc R h hR
  obtain ⟨ad, had⟩ : ∃ ad, ad = ad0 := ⟨_, rfl⟩
  have h1 : MW ad0 SA1 sc M ad SA1 PA0 QA0 XA0 := by rw [had]; exact h
  clear h had
  show Go 1311 115 41 22639 0 [.ref (ad0 0 0)] [] M R
  refine st_sup (pc1 := 1) (fun _ _ => rfl) rfl (by decide) ?_
  refine st_aarr (t := 0) (i := 0) (f := 0) (t' := 0) (i' := 1) (x := 7) (n := 7) (bc' := 40) (bs' := 22632) h1 (show SA1 0 0 = some (11, 0) by decide +kernel) (by decide +kernel) (fun _ _ => rfl) rfl (fun _ _ _ => rfl) (by decide +kernel) (by decide +kernel) ?_
  clear h1
  intro M ad h1
  replace h1 : MW ad0 SA1 sc M ad SA2 PA0 QA0 XA1 := h1
  show Go 1311 115 40 22632 13 [.ref (ad0 0 0)] [] M R
  refine st_aarr (t := 0) (i := 0) (f := 2) (t' := 0) (i' := 2) (x := 60) (n := 60) (bc' := 39) (bs' := 22572) h1 (show SA1 0 0 = some (11, 0) by decide +kernel) (by decide +kernel) (fun _ _ => rfl) rfl (fun _ _ _ => rfl) (by decide +kernel) (by decide +kernel) ?_
  clear h1
  intro M ad h1
  replace h1 : MW ad0 SA1 sc M ad SA3 PA0 QA0 XA2 := h1
  show Go 1311 115 39 22572 22 [.ref (ad0 0 0)] [] M R
  refine st_aarr (t := 0) (i := 0) (f := 4) (t' := 0) (i' := 3) (x := 3) (n := 3) (bc' := 38) (bs' := 22569) h1 (show SA1 0 0 = some (11, 0) by decide +kernel) (by decide +kernel) (fun _ _ => rfl) rfl (fun _ _ _ => rfl) (by decide +kernel) (by decide +kernel) ?_
  clear h1
  intro M ad h1
  replace h1 : MW ad0 SA1 sc M ad SA4 PA0 QA0 XA3 := h1
  show Go 1311 115 38 22569 30 [.ref (ad0 0 0)] [] M R
  refine st_aarr (t := 0) (i := 0) (f := 10) (t' := 0) (i' := 4) (x := 364) (n := 364) (bc' := 37) (bs' := 22205) h1 (show SA1 0 0 = some (11, 0) by decide +kernel) (by decide +kernel) (fun _ _ => rfl) rfl (fun _ _ _ => rfl) (by decide +kernel) (by decide +kernel) ?_
  clear h1
  intro M ad h1
  replace h1 : MW ad0 SA1 sc M ad SA5 PA0 QA0 XA4 := h1
  show Go 1311 115 37 22205 40 [.ref (ad0 0 0)] [] M R
  refine st_aarr (t := 0) (i := 0) (f := 11) (t' := 0) (i' := 5) (x := 7) (n := 7) (bc' := 36) (bs' := 22198) h1 (show SA1 0 0 = some (11, 0) by decide +kernel) (by decide +kernel) (fun _ _ => rfl) rfl (fun _ _ _ => rfl) (by decide +kernel) (by decide +kernel) ?_
  clear h1
  intro M ad h1
  replace h1 : MW ad0 SA1 sc M ad SA6 PA0 QA0 XA5 := h1
  show Go 1311 115 36 22198 49 [.ref (ad0 0 0)] [] M R
  refine st_lng (t := 0) (i := 0) (f := 12) (y := 1) h1 (show SA1 0 0 = some (11, 0) by decide +kernel) (fun _ _ => rfl) ?_
  clear h1
  intro M h1
  replace h1 : MW ad0 SA1 sc M ad SA6 PA0 QA1 XA5 := h1
  show Go 1311 115 36 22198 54 [.ref (ad0 0 0)] [] M R
  refine st_obj (t := 0) (i := 0) (f := 13) (t' := 0) (i' := 6) (bc' := 30) (bs' := 22154) h1 (show SA1 0 0 = some (11, 0) by decide +kernel) (by decide +kernel) (fun _ _ => rfl) rfl (by decide) (fun _ _ _ => rfl) rfl (by decide) rfl (fun _ _ => rfl) (fun _ _ _ => rfl) rfl (by decide +kernel) c_Mv_init ?_
  clear h1
  intro M ad h1
  replace h1 : MW ad0 SA1 sc M ad SA12 PA0 QA1 XA11 := h1
  show Go 1311 115 30 22154 65 [.ref (ad0 0 0)] [] M R
  refine st_obj (t := 0) (i := 0) (f := 14) (t' := 0) (i' := 7) (bc' := 13) (bs' := 9595) h1 (show SA1 0 0 = some (11, 0) by decide +kernel) (by decide +kernel) (fun _ _ => rfl) rfl (by decide) (fun _ _ _ => rfl) rfl (by decide) rfl (fun _ _ => rfl) (fun _ _ _ => rfl) rfl (by decide +kernel) c_Pl_init ?_
  clear h1
  intro M ad h1
  replace h1 : MW ad0 SA1 sc M ad SA29 PA2 QA1 XA28 := h1
  show Go 1311 115 13 9595 76 [.ref (ad0 0 0)] [] M R
  refine st_obj (t := 0) (i := 0) (f := 15) (t' := 0) (i' := 8) (bc' := 12) (bs' := 9587) h1 (show SA1 0 0 = some (11, 0) by decide +kernel) (by decide +kernel) (fun _ _ => rfl) rfl (by decide) (fun _ _ _ => rfl) rfl (by decide) rfl (fun _ _ => rfl) (fun _ _ _ => rfl) rfl (by decide +kernel) c_La_init ?_
  clear h1
  intro M ad h1
  replace h1 : MW ad0 SA1 sc M ad SA30 PA4 QA1 XA29 := h1
  show Go 1311 115 12 9587 87 [.ref (ad0 0 0)] [] M R
  refine st_obj (t := 0) (i := 0) (f := 16) (t' := 0) (i' := 9) (bc' := 7) (bs' := 9158) h1 (show SA1 0 0 = some (11, 0) by decide +kernel) (by decide +kernel) (fun _ _ => rfl) rfl (by decide) (fun _ _ _ => rfl) rfl (by decide) rfl (fun _ _ => rfl) (fun _ _ _ => rfl) rfl (by decide +kernel) c_Bs_init ?_
  clear h1
  intro M ad h1
  replace h1 : MW ad0 SA1 sc M ad SA35 PA7 QA1 XA34 := h1
  show Go 1311 115 7 9158 98 [.ref (ad0 0 0)] [] M R
  refine st_obj (t := 0) (i := 0) (f := 17) (t' := 0) (i' := 10) (bc' := 0) (bs' := 0) h1 (show SA1 0 0 = some (11, 0) by decide +kernel) (by decide +kernel) (fun _ _ => rfl) rfl (by decide) (fun _ _ _ => rfl) rfl (by decide) rfl (fun _ _ => rfl) (fun _ _ _ => rfl) rfl (by decide +kernel) c_Wa_init ?_
  clear h1
  intro M ad h1
  replace h1 : MW ad0 SA1 sc M ad SA42 PA9 QA1 XA41 := h1
  show Go 1311 115 0 0 109 [.ref (ad0 0 0)] [] M R
  refine go_vret rfl rfl ?_
  exact hR M ad h1
set_option maxHeartbeats 4000000 in
theorem c_Mo_init : CT 1311 185 10 0 SA43 PA9 QA1 XA41 SA100 PA16 QA2 XA99 := by
  intro M ad0 sc R h hR
  obtain ⟨ad, had⟩ : ∃ ad, ad = ad0 := ⟨_, rfl⟩
  have h1 : MW ad0 SA43 sc M ad SA43 PA9 QA1 XA41 := by rw [had]; exact h
  clear h had
  show Go 1311 185 57 26306 0 [.ref (ad0 10 0), .retAddr 0] [] M R
  refine st_sup (pc1 := 1) (fun _ _ => rfl) rfl (by decide) ?_
  refine st_arr (t := 10) (i := 0) (f := 1) (t' := 9) (i' := 1) (x := 7) (n := 7) (bc' := 56) (bs' := 26299) h1 (show SA43 10 0 = some (12, 0) by decide +kernel) (by decide +kernel) (fun _ _ => rfl) rfl (fun _ _ _ => rfl) (by decide +kernel) (by decide +kernel) ?_
  clear h1
  intro M ad h1
  replace h1 : MW ad0 SA43 sc M ad SA44 PA9 QA1 XA42 := h1
  show Go 1311 185 56 26299 12 [.ref (ad0 10 0), .retAddr 0] [] M R
  refine st_arr (t := 10) (i := 0) (f := 2) (t' := 9) (i' := 2) (x := 7) (n := 7) (bc' := 55) (bs' := 26292) h1 (show SA43 10 0 = some (12, 0) by decide +kernel) (by decide +kernel) (fun _ _ => rfl) rfl (fun _ _ _ => rfl) (by decide +kernel) (by decide +kernel) ?_
  clear h1
  intro M ad h1
  replace h1 : MW ad0 SA43 sc M ad SA45 PA9 QA1 XA43 := h1
  show Go 1311 185 55 26292 20 [.ref (ad0 10 0), .retAddr 0] [] M R
  refine st_arr (t := 10) (i := 0) (f := 3) (t' := 9) (i' := 3) (x := 7) (n := 7) (bc' := 54) (bs' := 26285) h1 (show SA43 10 0 = some (12, 0) by decide +kernel) (by decide +kernel) (fun _ _ => rfl) rfl (fun _ _ _ => rfl) (by decide +kernel) (by decide +kernel) ?_
  clear h1
  intro M ad h1
  replace h1 : MW ad0 SA43 sc M ad SA46 PA9 QA1 XA44 := h1
  show Go 1311 185 54 26285 28 [.ref (ad0 10 0), .retAddr 0] [] M R
  refine st_arr (t := 10) (i := 0) (f := 4) (t' := 9) (i' := 4) (x := 7) (n := 7) (bc' := 53) (bs' := 26278) h1 (show SA43 10 0 = some (12, 0) by decide +kernel) (by decide +kernel) (fun _ _ => rfl) rfl (fun _ _ _ => rfl) (by decide +kernel) (by decide +kernel) ?_
  clear h1
  intro M ad h1
  replace h1 : MW ad0 SA43 sc M ad SA47 PA9 QA1 XA45 := h1
  show Go 1311 185 53 26278 36 [.ref (ad0 10 0), .retAddr 0] [] M R
  refine st_arr (t := 10) (i := 0) (f := 5) (t' := 9) (i' := 5) (x := 364) (n := 364) (bc' := 52) (bs' := 25914) h1 (show SA43 10 0 = some (12, 0) by decide +kernel) (by decide +kernel) (fun _ _ => rfl) rfl (fun _ _ _ => rfl) (by decide +kernel) (by decide +kernel) ?_
  clear h1
  intro M ad h1
  replace h1 : MW ad0 SA43 sc M ad SA48 PA9 QA1 XA46 := h1
  show Go 1311 185 52 25914 45 [.ref (ad0 10 0), .retAddr 0] [] M R
  refine st_arr (t := 10) (i := 0) (f := 6) (t' := 9) (i' := 6) (x := 60) (n := 60) (bc' := 51) (bs' := 25854) h1 (show SA43 10 0 = some (12, 0) by decide +kernel) (by decide +kernel) (fun _ _ => rfl) rfl (fun _ _ _ => rfl) (by decide +kernel) (by decide +kernel) ?_
  clear h1
  intro M ad h1
  replace h1 : MW ad0 SA43 sc M ad SA49 PA9 QA1 XA47 := h1
  show Go 1311 185 51 25854 53 [.ref (ad0 10 0), .retAddr 0] [] M R
  refine st_arr (t := 10) (i := 0) (f := 7) (t' := 9) (i' := 7) (x := 60) (n := 60) (bc' := 50) (bs' := 25794) h1 (show SA43 10 0 = some (12, 0) by decide +kernel) (by decide +kernel) (fun _ _ => rfl) rfl (fun _ _ _ => rfl) (by decide +kernel) (by decide +kernel) ?_
  clear h1
  intro M ad h1
  replace h1 : MW ad0 SA43 sc M ad SA50 PA9 QA1 XA48 := h1
  show Go 1311 185 50 25794 61 [.ref (ad0 10 0), .retAddr 0] [] M R
  refine st_arr (t := 10) (i := 0) (f := 8) (t' := 9) (i' := 8) (x := 60) (n := 60) (bc' := 49) (bs' := 25734) h1 (show SA43 10 0 = some (12, 0) by decide +kernel) (by decide +kernel) (fun _ _ => rfl) rfl (fun _ _ _ => rfl) (by decide +kernel) (by decide +kernel) ?_
  clear h1
  intro M ad h1
  replace h1 : MW ad0 SA43 sc M ad SA51 PA9 QA1 XA49 := h1
  show Go 1311 185 49 25734 69 [.ref (ad0 10 0), .retAddr 0] [] M R
  refine st_arr (t := 10) (i := 0) (f := 9) (t' := 9) (i' := 9) (x := 60) (n := 60) (bc' := 48) (bs' := 25674) h1 (show SA43 10 0 = some (12, 0) by decide +kernel) (by decide +kernel) (fun _ _ => rfl) rfl (fun _ _ _ => rfl) (by decide +kernel) (by decide +kernel) ?_
  clear h1
  intro M ad h1
  replace h1 : MW ad0 SA43 sc M ad SA52 PA9 QA1 XA50 := h1
  show Go 1311 185 48 25674 77 [.ref (ad0 10 0), .retAddr 0] [] M R
  refine st_arr (t := 10) (i := 0) (f := 10) (t' := 9) (i' := 10) (x := 60) (n := 60) (bc' := 47) (bs' := 25614) h1 (show SA43 10 0 = some (12, 0) by decide +kernel) (by decide +kernel) (fun _ _ => rfl) rfl (fun _ _ _ => rfl) (by decide +kernel) (by decide +kernel) ?_
  clear h1
  intro M ad h1
  replace h1 : MW ad0 SA43 sc M ad SA53 PA9 QA1 XA51 := h1
  show Go 1311 185 47 25614 85 [.ref (ad0 10 0), .retAddr 0] [] M R
  refine st_arr (t := 10) (i := 0) (f := 11) (t' := 9) (i' := 11) (x := 60) (n := 60) (bc' := 46) (bs' := 25554) h1 (show SA43 10 0 = some (12, 0) by decide +kernel) (by decide +kernel) (fun _ _ => rfl) rfl (fun _ _ _ => rfl) (by decide +kernel) (by decide +kernel) ?_
  clear h1
  intro M ad h1
  replace h1 : MW ad0 SA43 sc M ad SA54 PA9 QA1 XA52 := h1
  show Go 1311 185 46 25554 93 [.ref (ad0 10 0), .retAddr 0] [] M R
  refine st_arr (t := 10) (i := 0) (f := 12) (t' := 9) (i' := 12) (x := 60) (n := 60) (bc' := 45) (bs' := 25494) h1 (show SA43 10 0 = some (12, 0) by decide +kernel) (by decide +kernel) (fun _ _ => rfl) rfl (fun _ _ _ => rfl) (by decide +kernel) (by decide +kernel) ?_
  clear h1
  intro M ad h1
  replace h1 : MW ad0 SA43 sc M ad SA55 PA9 QA1 XA53 := h1
  show Go 1311 185 45 25494 101 [.ref (ad0 10 0), .retAddr 0] [] M R
  refine st_arr (t := 10) (i := 0) (f := 13) (t' := 9) (i' := 13) (x := 60) (n := 60) (bc' := 44) (bs' := 25434) h1 (show SA43 10 0 = some (12, 0) by decide +kernel) (by decide +kernel) (fun _ _ => rfl) rfl (fun _ _ _ => rfl) (by decide +kernel) (by decide +kernel) ?_
  clear h1
  intro M ad h1
  replace h1 : MW ad0 SA43 sc M ad SA56 PA9 QA1 XA54 := h1
  show Go 1311 185 44 25434 109 [.ref (ad0 10 0), .retAddr 0] [] M R
  refine st_arr (t := 10) (i := 0) (f := 14) (t' := 9) (i' := 14) (x := 60) (n := 60) (bc' := 43) (bs' := 25374) h1 (show SA43 10 0 = some (12, 0) by decide +kernel) (by decide +kernel) (fun _ _ => rfl) rfl (fun _ _ _ => rfl) (by decide +kernel) (by decide +kernel) ?_
  clear h1
  intro M ad h1
  replace h1 : MW ad0 SA43 sc M ad SA57 PA9 QA1 XA55 := h1
  show Go 1311 185 43 25374 117 [.ref (ad0 10 0), .retAddr 0] [] M R
  refine st_arr (t := 10) (i := 0) (f := 15) (t' := 9) (i' := 15) (x := 60) (n := 60) (bc' := 42) (bs' := 25314) h1 (show SA43 10 0 = some (12, 0) by decide +kernel) (by decide +kernel) (fun _ _ => rfl) rfl (fun _ _ _ => rfl) (by decide +kernel) (by decide +kernel) ?_
  clear h1
  intro M ad h1
  replace h1 : MW ad0 SA43 sc M ad SA58 PA9 QA1 XA56 := h1
  show Go 1311 185 42 25314 125 [.ref (ad0 10 0), .retAddr 0] [] M R
  refine st_arr (t := 10) (i := 0) (f := 16) (t' := 9) (i' := 16) (x := 60) (n := 60) (bc' := 41) (bs' := 25254) h1 (show SA43 10 0 = some (12, 0) by decide +kernel) (by decide +kernel) (fun _ _ => rfl) rfl (fun _ _ _ => rfl) (by decide +kernel) (by decide +kernel) ?_
  clear h1
  intro M ad h1
  replace h1 : MW ad0 SA43 sc M ad SA59 PA9 QA1 XA57 := h1
  show Go 1311 185 41 25254 133 [.ref (ad0 10 0), .retAddr 0] [] M R
  refine st_arr (t := 10) (i := 0) (f := 22) (t' := 9) (i' := 22) (x := 60) (n := 60) (bc' := 40) (bs' := 25194) h1 (show SA43 10 0 = some (12, 0) by decide +kernel) (by decide +kernel) (fun _ _ => rfl) rfl (fun _ _ _ => rfl) (by decide +kernel) (by decide +kernel) ?_
  clear h1
  intro M ad h1
  replace h1 : MW ad0 SA43 sc M ad SA60 PA9 QA1 XA58 := h1
  show Go 1311 185 40 25194 141 [.ref (ad0 10 0), .retAddr 0] [] M R
  refine st_arr (t := 10) (i := 0) (f := 23) (t' := 9) (i' := 23) (x := 60) (n := 60) (bc' := 39) (bs' := 25134) h1 (show SA43 10 0 = some (12, 0) by decide +kernel) (by decide +kernel) (fun _ _ => rfl) rfl (fun _ _ _ => rfl) (by decide +kernel) (by decide +kernel) ?_
  clear h1
  intro M ad h1
  replace h1 : MW ad0 SA43 sc M ad SA61 PA9 QA1 XA59 := h1
  show Go 1311 185 39 25134 149 [.ref (ad0 10 0), .retAddr 0] [] M R
  refine st_arr (t := 10) (i := 0) (f := 24) (t' := 9) (i' := 24) (x := 7) (n := 7) (bc' := 38) (bs' := 25127) h1 (show SA43 10 0 = some (12, 0) by decide +kernel) (by decide +kernel) (fun _ _ => rfl) rfl (fun _ _ _ => rfl) (by decide +kernel) (by decide +kernel) ?_
  clear h1
  intro M ad h1
  replace h1 : MW ad0 SA43 sc M ad SA62 PA9 QA1 XA60 := h1
  show Go 1311 185 38 25127 157 [.ref (ad0 10 0), .retAddr 0] [] M R
  refine st_arr (t := 10) (i := 0) (f := 28) (t' := 9) (i' := 28) (x := 3) (n := 3) (bc' := 37) (bs' := 25124) h1 (show SA43 10 0 = some (12, 0) by decide +kernel) (by decide +kernel) (fun _ _ => rfl) rfl (fun _ _ _ => rfl) (by decide +kernel) (by decide +kernel) ?_
  clear h1
  intro M ad h1
  replace h1 : MW ad0 SA43 sc M ad SA63 PA9 QA1 XA61 := h1
  show Go 1311 185 37 25124 164 [.ref (ad0 10 0), .retAddr 0] [] M R
  refine st_arr (t := 10) (i := 0) (f := 29) (t' := 9) (i' := 29) (x := 64) (n := 64) (bc' := 36) (bs' := 25060) h1 (show SA43 10 0 = some (12, 0) by decide +kernel) (by decide +kernel) (fun _ _ => rfl) rfl (fun _ _ _ => rfl) (by decide +kernel) (by decide +kernel) ?_
  clear h1
  intro M ad h1
  replace h1 : MW ad0 SA43 sc M ad SA64 PA9 QA1 XA62 := h1
  show Go 1311 185 36 25060 172 [.ref (ad0 10 0), .retAddr 0] [] M R
  refine st_int (t := 10) (i := 0) (f := 31) (x := 5) h1 (show SA43 10 0 = some (12, 0) by decide +kernel) (fun _ _ => rfl) ?_
  clear h1
  intro M h1
  replace h1 : MW ad0 SA43 sc M ad SA64 PA10 QA1 XA62 := h1
  show Go 1311 185 36 25060 177 [.ref (ad0 10 0), .retAddr 0] [] M R
  refine st_arr (t := 10) (i := 0) (f := 32) (t' := 9) (i' := 32) (x := 364) (n := 364) (bc' := 35) (bs' := 24696) h1 (show SA43 10 0 = some (12, 0) by decide +kernel) (by decide +kernel) (fun _ _ => rfl) rfl (fun _ _ _ => rfl) (by decide +kernel) (by decide +kernel) ?_
  clear h1
  intro M ad h1
  replace h1 : MW ad0 SA43 sc M ad SA65 PA10 QA1 XA63 := h1
  show Go 1311 185 35 24696 186 [.ref (ad0 10 0), .retAddr 0] [] M R
  refine st_arr (t := 10) (i := 0) (f := 33) (t' := 9) (i' := 33) (x := 364) (n := 364) (bc' := 34) (bs' := 24332) h1 (show SA43 10 0 = some (12, 0) by decide +kernel) (by decide +kernel) (fun _ _ => rfl) rfl (fun _ _ _ => rfl) (by decide +kernel) (by decide +kernel) ?_
  clear h1
  intro M ad h1
  replace h1 : MW ad0 SA43 sc M ad SA66 PA10 QA1 XA64 := h1
  show Go 1311 185 34 24332 195 [.ref (ad0 10 0), .retAddr 0] [] M R
  refine st_arr (t := 10) (i := 0) (f := 34) (t' := 9) (i' := 34) (x := 364) (n := 364) (bc' := 33) (bs' := 23968) h1 (show SA43 10 0 = some (12, 0) by decide +kernel) (by decide +kernel) (fun _ _ => rfl) rfl (fun _ _ _ => rfl) (by decide +kernel) (by decide +kernel) ?_
  clear h1
  intro M ad h1
  replace h1 : MW ad0 SA43 sc M ad SA67 PA10 QA1 XA65 := h1
  show Go 1311 185 33 23968 204 [.ref (ad0 10 0), .retAddr 0] [] M R
  refine st_arr (t := 10) (i := 0) (f := 35) (t' := 9) (i' := 35) (x := 364) (n := 364) (bc' := 32) (bs' := 23604) h1 (show SA43 10 0 = some (12, 0) by decide +kernel) (by decide +kernel) (fun _ _ => rfl) rfl (fun _ _ _ => rfl) (by decide +kernel) (by decide +kernel) ?_
  clear h1
  intro M ad h1
  replace h1 : MW ad0 SA43 sc M ad SA68 PA10 QA1 XA66 := h1
  show Go 1311 185 32 23604 213 [.ref (ad0 10 0), .retAddr 0] [] M R
  refine st_arr (t := 10) (i := 0) (f := 36) (t' := 9) (i' := 36) (x := 364) (n := 364) (bc' := 31) (bs' := 23240) h1 (show SA43 10 0 = some (12, 0) by decide +kernel) (by decide +kernel) (fun _ _ => rfl) rfl (fun _ _ _ => rfl) (by decide +kernel) (by decide +kernel) ?_
  clear h1
  intro M ad h1
  replace h1 : MW ad0 SA43 sc M ad SA69 PA10 QA1 XA67 := h1
  show Go 1311 185 31 23240 222 [.ref (ad0 10 0), .retAddr 0] [] M R
  refine st_arr (t := 10) (i := 0) (f := 37) (t' := 9) (i' := 37) (x := 364) (n := 364) (bc' := 30) (bs' := 22876) h1 (show SA43 10 0 = some (12, 0) by decide +kernel) (by decide +kernel) (fun _ _ => rfl) rfl (fun _ _ _ => rfl) (by decide +kernel) (by decide +kernel) ?_
  clear h1
  intro M ad h1
  replace h1 : MW ad0 SA43 sc M ad SA70 PA10 QA1 XA68 := h1
  show Go 1311 185 30 22876 231 [.ref (ad0 10 0), .retAddr 0] [] M R
  refine st_arr (t := 10) (i := 0) (f := 38) (t' := 9) (i' := 38) (x := 364) (n := 364) (bc' := 29) (bs' := 22512) h1 (show SA43 10 0 = some (12, 0) by decide +kernel) (by decide +kernel) (fun _ _ => rfl) rfl (fun _ _ _ => rfl) (by decide +kernel) (by decide +kernel) ?_
  clear h1
  intro M ad h1
  replace h1 : MW ad0 SA43 sc M ad SA71 PA10 QA1 XA69 := h1
  show Go 1311 185 29 22512 240 [.ref (ad0 10 0), .retAddr 0] [] M R
  refine st_arr (t := 10) (i := 0) (f := 39) (t' := 9) (i' := 39) (x := 364) (n := 364) (bc' := 28) (bs' := 22148) h1 (show SA43 10 0 = some (12, 0) by decide +kernel) (by decide +kernel) (fun _ _ => rfl) rfl (fun _ _ _ => rfl) (by decide +kernel) (by decide +kernel) ?_
  clear h1
  intro M ad h1
  replace h1 : MW ad0 SA43 sc M ad SA72 PA10 QA1 XA70 := h1
  show Go 1311 185 28 22148 249 [.ref (ad0 10 0), .retAddr 0] [] M R
  refine st_arr (t := 10) (i := 0) (f := 40) (t' := 9) (i' := 40) (x := 364) (n := 364) (bc' := 27) (bs' := 21784) h1 (show SA43 10 0 = some (12, 0) by decide +kernel) (by decide +kernel) (fun _ _ => rfl) rfl (fun _ _ _ => rfl) (by decide +kernel) (by decide +kernel) ?_
  clear h1
  intro M ad h1
  replace h1 : MW ad0 SA43 sc M ad SA73 PA10 QA1 XA71 := h1
  show Go 1311 185 27 21784 258 [.ref (ad0 10 0), .retAddr 0] [] M R
  refine st_arr (t := 10) (i := 0) (f := 41) (t' := 9) (i' := 41) (x := 364) (n := 364) (bc' := 26) (bs' := 21420) h1 (show SA43 10 0 = some (12, 0) by decide +kernel) (by decide +kernel) (fun _ _ => rfl) rfl (fun _ _ _ => rfl) (by decide +kernel) (by decide +kernel) ?_
  clear h1
  intro M ad h1
  replace h1 : MW ad0 SA43 sc M ad SA74 PA10 QA1 XA72 := h1
  show Go 1311 185 26 21420 267 [.ref (ad0 10 0), .retAddr 0] [] M R
  refine st_arr (t := 10) (i := 0) (f := 42) (t' := 9) (i' := 42) (x := 364) (n := 364) (bc' := 25) (bs' := 21056) h1 (show SA43 10 0 = some (12, 0) by decide +kernel) (by decide +kernel) (fun _ _ => rfl) rfl (fun _ _ _ => rfl) (by decide +kernel) (by decide +kernel) ?_
  clear h1
  intro M ad h1
  replace h1 : MW ad0 SA43 sc M ad SA75 PA10 QA1 XA73 := h1
  show Go 1311 185 25 21056 276 [.ref (ad0 10 0), .retAddr 0] [] M R
  refine st_arr (t := 10) (i := 0) (f := 43) (t' := 9) (i' := 43) (x := 364) (n := 364) (bc' := 24) (bs' := 20692) h1 (show SA43 10 0 = some (12, 0) by decide +kernel) (by decide +kernel) (fun _ _ => rfl) rfl (fun _ _ _ => rfl) (by decide +kernel) (by decide +kernel) ?_
  clear h1
  intro M ad h1
  replace h1 : MW ad0 SA43 sc M ad SA76 PA10 QA1 XA74 := h1
  show Go 1311 185 24 20692 285 [.ref (ad0 10 0), .retAddr 0] [] M R
  refine st_arr (t := 10) (i := 0) (f := 44) (t' := 9) (i' := 44) (x := 3) (n := 3) (bc' := 23) (bs' := 20689) h1 (show SA43 10 0 = some (12, 0) by decide +kernel) (by decide +kernel) (fun _ _ => rfl) rfl (fun _ _ _ => rfl) (by decide +kernel) (by decide +kernel) ?_
  clear h1
  intro M ad h1
  replace h1 : MW ad0 SA43 sc M ad SA77 PA10 QA1 XA75 := h1
  show Go 1311 185 23 20689 292 [.ref (ad0 10 0), .retAddr 0] [] M R
  refine st_arr (t := 10) (i := 0) (f := 45) (t' := 9) (i' := 45) (x := 3) (n := 3) (bc' := 22) (bs' := 20686) h1 (show SA43 10 0 = some (12, 0) by decide +kernel) (by decide +kernel) (fun _ _ => rfl) rfl (fun _ _ _ => rfl) (by decide +kernel) (by decide +kernel) ?_
  clear h1
  intro M ad h1
  replace h1 : MW ad0 SA43 sc M ad SA78 PA10 QA1 XA76 := h1
  show Go 1311 185 22 20686 299 [.ref (ad0 10 0), .retAddr 0] [] M R
  refine st_arr (t := 10) (i := 0) (f := 46) (t' := 9) (i' := 46) (x := 3) (n := 3) (bc' := 21) (bs' := 20683) h1 (show SA43 10 0 = some (12, 0) by decide +kernel) (by decide +kernel) (fun _ _ => rfl) rfl (fun _ _ _ => rfl) (by decide +kernel) (by decide +kernel) ?_
  clear h1
  intro M ad h1
  replace h1 : MW ad0 SA43 sc M ad SA79 PA10 QA1 XA77 := h1
  show Go 1311 185 21 20683 306 [.ref (ad0 10 0), .retAddr 0] [] M R
  refine st_arr (t := 10) (i := 0) (f := 47) (t' := 9) (i' := 47) (x := 3) (n := 3) (bc' := 20) (bs' := 20680) h1 (show SA43 10 0 = some (12, 0) by decide +kernel) (by decide +kernel) (fun _ _ => rfl) rfl (fun _ _ _ => rfl) (by decide +kernel) (by decide +kernel) ?_
  clear h1
  intro M ad h1
  replace h1 : MW ad0 SA43 sc M ad SA80 PA10 QA1 XA78 := h1
  show Go 1311 185 20 20680 313 [.ref (ad0 10 0), .retAddr 0] [] M R
  refine st_arr (t := 10) (i := 0) (f := 48) (t' := 9) (i' := 48) (x := 3) (n := 3) (bc' := 19) (bs' := 20677) h1 (show SA43 10 0 = some (12, 0) by decide +kernel) (by decide +kernel) (fun _ _ => rfl) rfl (fun _ _ _ => rfl) (by decide +kernel) (by decide +kernel) ?_
  clear h1
  intro M ad h1
  replace h1 : MW ad0 SA43 sc M ad SA81 PA10 QA1 XA79 := h1
  show Go 1311 185 19 20677 320 [.ref (ad0 10 0), .retAddr 0] [] M R
  refine st_arr (t := 10) (i := 0) (f := 49) (t' := 9) (i' := 49) (x := 3) (n := 3) (bc' := 18) (bs' := 20674) h1 (show SA43 10 0 = some (12, 0) by decide +kernel) (by decide +kernel) (fun _ _ => rfl) rfl (fun _ _ _ => rfl) (by decide +kernel) (by decide +kernel) ?_
  clear h1
  intro M ad h1
  replace h1 : MW ad0 SA43 sc M ad SA82 PA10 QA1 XA80 := h1
  show Go 1311 185 18 20674 327 [.ref (ad0 10 0), .retAddr 0] [] M R
  refine st_arr (t := 10) (i := 0) (f := 50) (t' := 9) (i' := 50) (x := 21) (n := 21) (bc' := 17) (bs' := 20653) h1 (show SA43 10 0 = some (12, 0) by decide +kernel) (by decide +kernel) (fun _ _ => rfl) rfl (fun _ _ _ => rfl) (by decide +kernel) (by decide +kernel) ?_
  clear h1
  intro M ad h1
  replace h1 : MW ad0 SA43 sc M ad SA83 PA10 QA1 XA81 := h1
  show Go 1311 185 17 20653 335 [.ref (ad0 10 0), .retAddr 0] [] M R
  refine st_arr (t := 10) (i := 0) (f := 51) (t' := 9) (i' := 51) (x := 3) (n := 3) (bc' := 16) (bs' := 20650) h1 (show SA43 10 0 = some (12, 0) by decide +kernel) (by decide +kernel) (fun _ _ => rfl) rfl (fun _ _ _ => rfl) (by decide +kernel) (by decide +kernel) ?_
  clear h1
  intro M ad h1
  replace h1 : MW ad0 SA43 sc M ad SA84 PA10 QA1 XA82 := h1
  show Go 1311 185 16 20650 342 [.ref (ad0 10 0), .retAddr 0] [] M R
  refine st_arr (t := 10) (i := 0) (f := 53) (t' := 9) (i' := 53) (x := 21) (n := 21) (bc' := 15) (bs' := 20629) h1 (show SA43 10 0 = some (12, 0) by decide +kernel) (by decide +kernel) (fun _ _ => rfl) rfl (fun _ _ _ => rfl) (by decide +kernel) (by decide +kernel) ?_
  clear h1
  intro M ad h1
  replace h1 : MW ad0 SA43 sc M ad SA85 PA10 QA1 XA83 := h1
  show Go 1311 185 15 20629 350 [.ref (ad0 10 0), .retAddr 0] [] M R
  refine st_arr (t := 10) (i := 0) (f := 54) (t' := 9) (i' := 54) (x := 3) (n := 3) (bc' := 14) (bs' := 20626) h1 (show SA43 10 0 = some (12, 0) by decide +kernel) (by decide +kernel) (fun _ _ => rfl) rfl (fun _ _ _ => rfl) (by decide +kernel) (by decide +kernel) ?_
  clear h1
  intro M ad h1
  replace h1 : MW ad0 SA43 sc M ad SA86 PA10 QA1 XA84 := h1
  show Go 1311 185 14 20626 357 [.ref (ad0 10 0), .retAddr 0] [] M R
  refine st_arr (t := 10) (i := 0) (f := 55) (t' := 9) (i' := 55) (x := 21) (n := 21) (bc' := 13) (bs' := 20605) h1 (show SA43 10 0 = some (12, 0) by decide +kernel) (by decide +kernel) (fun _ _ => rfl) rfl (fun _ _ _ => rfl) (by decide +kernel) (by decide +kernel) ?_
  clear h1
  intro M ad h1
  replace h1 : MW ad0 SA43 sc M ad SA87 PA10 QA1 XA85 := h1
  show Go 1311 185 13 20605 365 [.ref (ad0 10 0), .retAddr 0] [] M R
  refine st_arr (t := 10) (i := 0) (f := 56) (t' := 9) (i' := 56) (x := 3) (n := 3) (bc' := 12) (bs' := 20602) h1 (show SA43 10 0 = some (12, 0) by decide +kernel) (by decide +kernel) (fun _ _ => rfl) rfl (fun _ _ _ => rfl) (by decide +kernel) (by decide +kernel) ?_
  clear h1
  intro M ad h1
  replace h1 : MW ad0 SA43 sc M ad SA88 PA10 QA1 XA86 := h1
  show Go 1311 185 12 20602 372 [.ref (ad0 10 0), .retAddr 0] [] M R
  refine st_arr (t := 10) (i := 0) (f := 57) (t' := 9) (i' := 57) (x := 7) (n := 7) (bc' := 11) (bs' := 20595) h1 (show SA43 10 0 = some (12, 0) by decide +kernel) (by decide +kernel) (fun _ _ => rfl) rfl (fun _ _ _ => rfl) (by decide +kernel) (by decide +kernel) ?_
  clear h1
  intro M ad h1
  replace h1 : MW ad0 SA43 sc M ad SA89 PA10 QA1 XA87 := h1
  show Go 1311 185 11 20595 380 [.ref (ad0 10 0), .retAddr 0] [] M R
  refine st_int (t := 10) (i := 0) (f := 62) (x := 20) h1 (show SA43 10 0 = some (12, 0) by decide +kernel) (fun _ _ => rfl) ?_
  clear h1
  intro M h1
  replace h1 : MW ad0 SA43 sc M ad SA89 PA11 QA1 XA87 := h1
  show Go 1311 185 11 20595 386 [.ref (ad0 10 0), .retAddr 0] [] M R
  refine st_int (t := 10) (i := 0) (f := 63) (x := 10) h1 (show SA43 10 0 = some (12, 0) by decide +kernel) (fun _ _ => rfl) ?_
  clear h1
  intro M h1
  replace h1 : MW ad0 SA43 sc M ad SA89 PA12 QA1 XA87 := h1
  show Go 1311 185 11 20595 392 [.ref (ad0 10 0), .retAddr 0] [] M R
  refine st_int (t := 10) (i := 0) (f := 64) (x := 20) h1 (show SA43 10 0 = some (12, 0) by decide +kernel) (fun _ _ => rfl) ?_
  clear h1
  intro M h1
  replace h1 : MW ad0 SA43 sc M ad SA89 PA13 QA1 XA87 := h1
  show Go 1311 185 11 20595 398 [.ref (ad0 10 0), .retAddr 0] [] M R
  refine st_arr (t := 10) (i := 0) (f := 72) (t' := 9) (i' := 72) (x := 15000) (n := 15000) (bc' := 10) (bs' := 5595) h1 (show SA43 10 0 = some (12, 0) by decide +kernel) (by decide +kernel) (fun _ _ => rfl) rfl (fun _ _ _ => rfl) (by decide +kernel) (by decide +kernel) ?_
  clear h1
  intro M ad h1
  replace h1 : MW ad0 SA43 sc M ad SA90 PA13 QA1 XA88 := h1
  show Go 1311 185 10 5595 407 [.ref (ad0 10 0), .retAddr 0] [] M R
  refine st_arr (t := 10) (i := 0) (f := 75) (t' := 9) (i' := 75) (x := 120) (n := 120) (bc' := 9) (bs' := 5475) h1 (show SA43 10 0 = some (12, 0) by decide +kernel) (by decide +kernel) (fun _ _ => rfl) rfl (fun _ _ _ => rfl) (by decide +kernel) (by decide +kernel) ?_
  clear h1
  intro M ad h1
  replace h1 : MW ad0 SA43 sc M ad SA91 PA13 QA1 XA89 := h1
  show Go 1311 185 9 5475 415 [.ref (ad0 10 0), .retAddr 0] [] M R
  refine st_arr (t := 10) (i := 0) (f := 76) (t' := 9) (i' := 76) (x := 2400) (n := 2400) (bc' := 8) (bs' := 3075) h1 (show SA43 10 0 = some (12, 0) by decide +kernel) (by decide +kernel) (fun _ _ => rfl) rfl (fun _ _ _ => rfl) (by decide +kernel) (by decide +kernel) ?_
  clear h1
  intro M ad h1
  replace h1 : MW ad0 SA43 sc M ad SA92 PA13 QA1 XA90 := h1
  show Go 1311 185 8 3075 424 [.ref (ad0 10 0), .retAddr 0] [] M R
  refine st_arr (t := 10) (i := 0) (f := 77) (t' := 9) (i' := 77) (x := 20) (n := 20) (bc' := 7) (bs' := 3055) h1 (show SA43 10 0 = some (12, 0) by decide +kernel) (by decide +kernel) (fun _ _ => rfl) rfl (fun _ _ _ => rfl) (by decide +kernel) (by decide +kernel) ?_
  clear h1
  intro M ad h1
  replace h1 : MW ad0 SA43 sc M ad SA93 PA13 QA1 XA91 := h1
  show Go 1311 185 7 3055 432 [.ref (ad0 10 0), .retAddr 0] [] M R
  refine st_arr (t := 10) (i := 0) (f := 78) (t' := 9) (i' := 78) (x := 20) (n := 20) (bc' := 6) (bs' := 3035) h1 (show SA43 10 0 = some (12, 0) by decide +kernel) (by decide +kernel) (fun _ _ => rfl) rfl (fun _ _ _ => rfl) (by decide +kernel) (by decide +kernel) ?_
  clear h1
  intro M ad h1
  replace h1 : MW ad0 SA43 sc M ad SA94 PA13 QA1 XA92 := h1
  show Go 1311 185 6 3035 440 [.ref (ad0 10 0), .retAddr 0] [] M R
  refine st_arr (t := 10) (i := 0) (f := 79) (t' := 9) (i' := 79) (x := 20) (n := 20) (bc' := 5) (bs' := 3015) h1 (show SA43 10 0 = some (12, 0) by decide +kernel) (by decide +kernel) (fun _ _ => rfl) rfl (fun _ _ _ => rfl) (by decide +kernel) (by decide +kernel) ?_
  clear h1
  intro M ad h1
  replace h1 : MW ad0 SA43 sc M ad SA95 PA13 QA1 XA93 := h1
  show Go 1311 185 5 3015 448 [.ref (ad0 10 0), .retAddr 0] [] M R
  have e0 := h1.at0 (show SA43 10 0 = some (12, 0) by decide +kernel)
  have hr := h1.r (t := 10) (i := 0) (f := 75) (t' := 9) (i' := 75) (c := 12) (n := 0) (by decide +kernel) (by decide +kernel)
  have ho := h1.ob (t := 10) (i := 0) (c := 12) (n := 0) (by decide +kernel)
  rw [e0] at hr ho
  refine go_blk 4 [some (.ref (ad 9 75))] (pc' := 456) (vs' := [.ref (ad0 10 0), .retAddr 0]) (st' := []) (M' := sR M (ad0 10 0) 82 (some (ad 9 75))) (ps := [ob M (ad0 10 0) 12, mR M (ad0 10 0) 75 = some (ad 9 75), va_rf (some (ad 9 75)) = .ref (ad 9 75), ob M (ad0 10 0) 12]) rfl ⟨ho, hr, rfl, ho, trivial⟩ ?_
  replace h1 := h1.setR (t := 10) (i := 0) (f := 82) (t' := 9) (i' := 75) (w := (12, 0)) (w' := (14, 120)) (by decide +kernel) (by decide +kernel)
  rw [e0] at h1
  clear e0 hr ho
  obtain ⟨M1, hM⟩ : ∃ M1, M1 = sR M (ad0 10 0) 82 (some (ad 9 75)) := ⟨_, rfl⟩
  rw [← hM] at h1 ⊢
  clear hM M
  obtain ⟨M, hM⟩ : ∃ M, M = M1 := ⟨_, rfl⟩
  rw [← hM] at h1 ⊢
  replace h1 : MW ad0 SA43 sc M ad SA95 PA13 QA1 XA94 := h1
  clear hM M1
  refine st_arr (t := 10) (i := 0) (f := 91) (t' := 9) (i' := 91) (x := 600) (n := 600) (bc' := 4) (bs' := 2415) h1 (show SA43 10 0 = some (12, 0) by decide +kernel) (by decide +kernel) (fun _ _ => rfl) rfl (fun _ _ _ => rfl) (by decide +kernel) (by decide +kernel) ?_
  clear h1
  intro M ad h1
  replace h1 : MW ad0 SA43 sc M ad SA96 PA13 QA1 XA95 := h1
  show Go 1311 185 4 2415 465 [.ref (ad0 10 0), .retAddr 0] [] M R
  refine st_arr (t := 10) (i := 0) (f := 92) (t' := 9) (i' := 92) (x := 600) (n := 600) (bc' := 3) (bs' := 1815) h1 (show SA43 10 0 = some (12, 0) by decide +kernel) (by decide +kernel) (fun _ _ => rfl) rfl (fun _ _ _ => rfl) (by decide +kernel) (by decide +kernel) ?_
  clear h1
  intro M ad h1
  replace h1 : MW ad0 SA43 sc M ad SA97 PA13 QA1 XA96 := h1
  show Go 1311 185 3 1815 474 [.ref (ad0 10 0), .retAddr 0] [] M R
  refine st_arr (t := 10) (i := 0) (f := 93) (t' := 9) (i' := 93) (x := 1800) (n := 1800) (bc' := 2) (bs' := 15) h1 (show SA43 10 0 = some (12, 0) by decide +kernel) (by decide +kernel) (fun _ _ => rfl) rfl (fun _ _ _ => rfl) (by decide +kernel) (by decide +kernel) ?_
  clear h1
  intro M ad h1
  replace h1 : MW ad0 SA43 sc M ad SA98 PA13 QA1 XA97 := h1
  show Go 1311 185 2 15 483 [.ref (ad0 10 0), .retAddr 0] [] M R
  refine st_arr (t := 10) (i := 0) (f := 94) (t' := 9) (i' := 94) (x := 3) (n := 3) (bc' := 1) (bs' := 12) h1 (show SA43 10 0 = some (12, 0) by decide +kernel) (by decide +kernel) (fun _ _ => rfl) rfl (fun _ _ _ => rfl) (by decide +kernel) (by decide +kernel) ?_
  clear h1
  intro M ad h1
  replace h1 : MW ad0 SA43 sc M ad SA99 PA13 QA1 XA98 := h1
  show Go 1311 185 1 12 490 [.ref (ad0 10 0), .retAddr 0] [] M R
  refine st_arr (t := 10) (i := 0) (f := 97) (t' := 9) (i' := 97) (x := 12) (n := 12) (bc' := 0) (bs' := 0) h1 (show SA43 10 0 = some (12, 0) by decide +kernel) (by decide +kernel) (fun _ _ => rfl) rfl (fun _ _ _ => rfl) (by decide +kernel) (by decide +kernel) ?_
  clear h1
  intro M ad h1
  replace h1 : MW ad0 SA43 sc M ad SA100 PA13 QA1 XA99 := h1
  show Go 1311 185 0 0 498 [.ref (ad0 10 0), .retAddr 0] [] M R
  refine st_lng (t := 10) (i := 0) (f := 99) (y := 1) h1 (show SA43 10 0 = some (12, 0) by decide +kernel) (fun _ _ => rfl) ?_
  clear h1
  intro M h1
  replace h1 : MW ad0 SA43 sc M ad SA100 PA13 QA2 XA99 := h1
  show Go 1311 185 0 0 503 [.ref (ad0 10 0), .retAddr 0] [] M R
  refine go_blk 2 [] (pc' := 505) (vs' := [.ref (ad0 10 0), .int 0]) (st' := []) (M' := M) (ps := []) rfl trivial ?_
  have e0 := h1.at0 (show SA43 10 0 = some (12, 0) by decide +kernel)
  have hr := h1.r (t := 10) (i := 0) (f := 29) (t' := 9) (i' := 29) (c := 12) (n := 0) (by decide +kernel) (by decide +kernel)
  have ho := h1.ob (t := 10) (i := 0) (c := 12) (n := 0) (by decide +kernel)
  rw [e0] at hr ho
  refine st_fill (x := 10) (n := 64) (f := 29) (C := 12) ho hr (h1.ob (c := 15) (n := 64) (by decide +kernel)) (h1.ln (c := 15) (n := 64) (by decide +kernel)) (by decide) (fun _ _ => rfl) rfl (fun _ _ => ⟨_, rfl, fun q1 q2 q3 q4 => ⟨q1, q2, rfl, q3, q4, trivial⟩⟩) ?_
  replace h1 := h1.fill (t := 9) (i := 29) (n := 64) (x := 10) (w := (15, 64)) (by decide +kernel)
  clear e0 hr ho
  obtain ⟨M1, hM⟩ : ∃ M1, M1 = mm M (fil (ad 9 29) 64 10 (mI M)) (mJ M) := ⟨_, rfl⟩
  rw [← hM] at h1 ⊢
  clear hM M
  obtain ⟨M, hM⟩ : ∃ M, M = M1 := ⟨_, rfl⟩
  rw [← hM] at h1 ⊢
  replace h1 : MW ad0 SA43 sc M ad SA100 PA14 QA2 XA99 := h1
  clear hM M1
  refine go_blk 2 [] (pc' := 527) (vs' := [.ref (ad0 10 0), .int 0]) (st' := []) (M' := M) (ps := []) rfl trivial ?_
  have e0 := h1.at0 (show SA43 10 0 = some (12, 0) by decide +kernel)
  have hr := h1.r (t := 10) (i := 0) (f := 94) (t' := 9) (i' := 94) (c := 12) (n := 0) (by decide +kernel) (by decide +kernel)
  have ho := h1.ob (t := 10) (i := 0) (c := 12) (n := 0) (by decide +kernel)
  rw [e0] at hr ho
  refine st_fill (x := 1) (n := 3) (f := 94) (C := 12) ho hr (h1.ob (c := 15) (n := 3) (by decide +kernel)) (h1.ln (c := 15) (n := 3) (by decide +kernel)) (by decide) (fun _ _ => rfl) rfl (fun _ _ => ⟨_, rfl, fun q1 q2 q3 q4 => ⟨q1, q2, rfl, q3, q4, trivial⟩⟩) ?_
  replace h1 := h1.fill (t := 9) (i := 94) (n := 3) (x := 1) (w := (15, 3)) (by decide +kernel)
  clear e0 hr ho
  obtain ⟨M1, hM⟩ : ∃ M1, M1 = mm M (fil (ad 9 94) 3 1 (mI M)) (mJ M) := ⟨_, rfl⟩
  rw [← hM] at h1 ⊢
  clear hM M
  obtain ⟨M, hM⟩ : ∃ M, M = M1 := ⟨_, rfl⟩
  rw [← hM] at h1 ⊢
  replace h1 : MW ad0 SA43 sc M ad SA100 PA15 QA2 XA99 := h1
  clear hM M1
  refine go_blk 2 [] (pc' := 547) (vs' := [.ref (ad0 10 0), .int 0]) (st' := []) (M' := M) (ps := []) rfl trivial ?_
  have e0 := h1.at0 (show SA43 10 0 = some (12, 0) by decide +kernel)
  have hr := h1.r (t := 10) (i := 0) (f := 39) (t' := 9) (i' := 39) (c := 12) (n := 0) (by decide +kernel) (by decide +kernel)
  have ho := h1.ob (t := 10) (i := 0) (c := 12) (n := 0) (by decide +kernel)
  rw [e0] at hr ho
  refine st_fill (x := (-1)) (n := 364) (f := 39) (C := 12) ho hr (h1.ob (c := 15) (n := 364) (by decide +kernel)) (h1.ln (c := 15) (n := 364) (by decide +kernel)) (by decide) (fun _ _ => rfl) rfl (fun _ _ => ⟨_, rfl, fun q1 q2 q3 q4 => ⟨q1, q2, rfl, q3, q4, trivial⟩⟩) ?_
  replace h1 := h1.fill (t := 9) (i := 39) (n := 364) (x := (-1)) (w := (15, 364)) (by decide +kernel)
  clear e0 hr ho
  obtain ⟨M1, hM⟩ : ∃ M1, M1 = mm M (fil (ad 9 39) 364 (-1) (mI M)) (mJ M) := ⟨_, rfl⟩
  rw [← hM] at h1 ⊢
  clear hM M
  obtain ⟨M, hM⟩ : ∃ M, M = M1 := ⟨_, rfl⟩
  rw [← hM] at h1 ⊢
  replace h1 : MW ad0 SA43 sc M ad SA100 PA16 QA2 XA99 := h1
  clear hM M1
  refine go_vret rfl rfl ?_
  exact hR M ad h1
