-- 47.swapok
set_option maxHeartbeats 4000000 in
theorem ixP {a g c h : Int32} (ha : 0 ≤ a ∧ a ≤ 15) (hg : 0 ≤ g ∧ g < 5) (hc : 0 ≤ c ∧ c ≤ 15) (hh : 0 ≤ h ∧ h < 5) : (72 + 6 * a + 1 + g = 72 + 6 * c + 1 + h) ↔ (a = c ∧ g = h) := by
  constructor
  · intro e
    constructor <;> lia
  · rintro ⟨rfl, rfl⟩
    rfl
set_option maxHeartbeats 4000000 in
theorem ixS {a g c : Int32} (ha : 0 ≤ a ∧ a ≤ 15) (hg : 0 ≤ g ∧ g < 5) (hc : 0 ≤ c ∧ c ≤ 15) : 72 + 6 * a + 1 + g ≠ 72 + 6 * c := by lia
set_option maxHeartbeats 4000000 in
theorem ixT {a g t j : Int32} (ha : 0 ≤ a ∧ a ≤ 15) (hg : 0 ≤ g ∧ g < 5) (hc : 0 ≤ t ∧ t < 16) (hj : 0 ≤ j ∧ j < 4) : 72 + 6 * a + 1 + g ≠ 8 + 4 * t + j := by lia
set_option maxHeartbeats 4000000 in
theorem ixC {c t j : Int32} (hc : 0 ≤ c ∧ c ≤ 15) (ht : 0 ≤ t ∧ t < 16) (hj : 0 ≤ j ∧ j < 4) : 8 + 4 * t + j ≠ 72 + 6 * c := by lia
set_option maxHeartbeats 4000000 in
theorem ixI {s t j : Int32} (hs : 0 ≤ s ∧ s < 16) (ht : 0 ≤ t ∧ t < 16) (hj : 0 ≤ j ∧ j < 4) : (8 + 4 * s + 3 = 8 + 4 * t + j) ↔ (s = t ∧ j = 3) := by
  constructor
  · intro e
    constructor <;> lia
  · rintro ⟨rfl, rfl⟩
    rfl
set_option maxHeartbeats 4000000 in
theorem ix0 {a g c t j : Int32} (ha : 0 ≤ a ∧ a ≤ 15) (hg : 0 ≤ g ∧ g < 5) (hc : 0 ≤ c ∧ c ≤ 15) (ht : 0 ≤ t ∧ t < 16) (hj : 0 ≤ j ∧ j < 4) : 0 ≤ 72 + 6 * a + 1 + g ∧ 0 ≤ 72 + 6 * c ∧ 0 ≤ 8 + 4 * t + j := by lia

