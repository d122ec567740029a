-- 40.play
section
variable {G : Gm} {d t n i : Nat} {m : Mem} {K : Option Value → Mem → Prop}
set_option maxHeartbeats 4000000 in
theorem c_X5_isAhead (hG : fl G = false) (hd : 1 ≤ d) {x : Int32}  (k : K (some (.int (if 1 ≤ x ∧ x ≤ 3 then 1 else 0))) m) : Cal G mX5_isAhead d [.int x] SH (TA t n i) m K := by
  obtain ⟨d, rfl⟩ : ∃ e, d = e + 1 := ⟨d - 1, by omega⟩
  refine Cal.of (by decide +kernel) rfl (Nat.le_of_ble_eq_true rfl) (rg_X5_isAhead_0 hG (x) ?_)
  refine ⟨fun c1 => ?_, fun c1 => ?_⟩
  · first | exact k | exact kv k (by grind)
  · refine ⟨fun c2 => ?_, fun c2 => ?_⟩
    · first | exact k | exact kv k (by grind)
    · first | exact k | exact kv k (by grind)
set_option maxHeartbeats 4000000 in
theorem c_X5_refuse (hG : fl G = false) (hd : 1 ≤ d) {x : Int32} (h1 : 1 ≤ x ∧ x < 7) (k : K (some (.int (-1000000000 - x))) (set1 m 34 (wr (m 34) x (rd (m 34) x + 1)))) : Cal G mX5_refuse d [.ref 0, .int x] SH (TA t n i) m K := by
  obtain ⟨d, rfl⟩ : ∃ e, d = e + 1 := ⟨d - 1, by omega⟩
  refine Cal.of (by decide +kernel) rfl (Nat.le_of_ble_eq_true rfl) (rg_X5_refuse_0 hG (0) (x) ?_)
  refine ⟨fun c1 => ?_, fun c1 => ?_⟩
  · first | (rw [upa_set]; exact k) | exact absurd (show (7 : Int32) ≤ x from by assumption) (Int32.not_le.mpr h1.2) | exact absurd (show x < 0 from by assumption) (Int32.not_lt.mpr (Int32.le_trans (by decide) h1.1))
  · refine ⟨(by first | assumption | rfl), ?_⟩
    refine ⟨_, (by first | assumption | rfl), ?_⟩
    refine ⟨_, (by first | assumption | rfl), ?_⟩
    refine ⟨fun c7 => ?_, fun c7 => ?_⟩
    · first | (rw [upa_set]; exact k) | exact absurd (show (7 : Int32) ≤ x from by assumption) (Int32.not_le.mpr h1.2) | exact absurd (show x < 0 from by assumption) (Int32.not_lt.mpr (Int32.le_trans (by decide) h1.1))
    · refine ⟨(by (first | assumption | (apply ib502 <;> grind) | (apply ib16 <;> grind) | (apply ib80 <;> grind) | (apply ib672 <;> grind) | (apply ib64 <;> grind) | (apply ib128 <;> grind) | (apply ib124 <;> grind) | (apply ib96 <;> grind) | (apply ib24 <;> grind) | (apply ib60 <;> grind) | (apply ib30 <;> grind) | (apply ib28 <;> grind) | (apply ib7 <;> grind) | (apply ib4 <;> grind) | (apply ib3 <;> grind) | (exact inb (by grind) (by grind) (by omega)))), ?_⟩
      refine ⟨(by (first | assumption | (apply ib502 <;> grind) | (apply ib16 <;> grind) | (apply ib80 <;> grind) | (apply ib672 <;> grind) | (apply ib64 <;> grind) | (apply ib128 <;> grind) | (apply ib124 <;> grind) | (apply ib96 <;> grind) | (apply ib24 <;> grind) | (apply ib60 <;> grind) | (apply ib30 <;> grind) | (apply ib28 <;> grind) | (apply ib7 <;> grind) | (apply ib4 <;> grind) | (apply ib3 <;> grind) | (exact inb (by grind) (by grind) (by omega)))), ?_⟩
      rintro _ rfl
      first | (rw [upa_set]; exact k) | exact absurd (show (7 : Int32) ≤ x from by assumption) (Int32.not_le.mpr h1.2) | exact absurd (show x < 0 from by assumption) (Int32.not_lt.mpr (Int32.le_trans (by decide) h1.1))
set_option maxHeartbeats 4000000 in
theorem c_X6_game (hG : fl G = false) (hd : 13 ≤ d) {x y : Int32} (h1 : WF (m 76)) (k : (1 ≤ x ∧ x ≤ 3 ∧ 0 ≤ y ∧ y ≤ 1 → ∀ m', Fr [75, 78, 81, 82] m m' → (∀ j, j ≠ 13 → m' 75 j = m 75 j) → K (some (.int (if y = 0 then (vbA x.toNatClampNeg (m 76)).2 else (vbA x.toNatClampNeg (m 76)).1))) m') ∧ (¬ (1 ≤ x ∧ x ≤ 3 ∧ 0 ≤ y ∧ y ≤ 1) → K (some (.int (-1000000001))) (set1 m 79 (wr (m 79) 1 (rd (m 79) 1 + 1))))) : Cal G mX6_game d [.ref 75, .int x, .int y] SH (TA t n i) m K := by
  obtain ⟨k1, k2⟩ := k
  obtain ⟨d, rfl⟩ : ∃ e, d = e + 1 := ⟨d - 1, by omega⟩
  refine Cal.of (by decide +kernel) rfl (Nat.le_of_ble_eq_true rfl) (rg_X6_game_0 hG 75 x y ?_)
  refine c_X6_in hG (by omega) ⟨_, rfl, fun z => ?_, fun z => ?_⟩
  · have hx : ¬ (1 ≤ x ∧ x ≤ 3) := fun h => absurd (if_pos h ▸ z) (by decide)
    exact ⟨rfl, c_X6_error hG (by omega) (by decide) ⟨_, rfl, k2 (fun h => hx ⟨h.1, h.2.1⟩)⟩⟩
  · have hx : 1 ≤ x ∧ x ≤ 3 := Decidable.byContradiction fun h => z (if_neg h)
    refine c_X6_in hG (by omega) ⟨_, rfl, fun y0 => ?_, fun y0 => ?_⟩
    · have hy : 0 ≤ y ∧ y ≤ 1 := Decidable.byContradiction fun h => y0 (if_neg h)
      have hn : x.toNatClampNeg ≤ 3 ∧ x.toNatClampNeg ≠ 0 := by
        have a := Int32.le_iff_toInt_le.mp hx.1
        have b := Int32.le_iff_toInt_le.mp hx.2
        rw [show (1 : Int32).toInt = 1 from rfl] at a
        rw [show (3 : Int32).toInt = 3 from rfl] at b
        show x.toInt.toNat ≤ 3 ∧ x.toInt.toNat ≠ 0
        omega
      have hv := c_X6_value (G := G) (n := n) (i := i) (t0 := t) hG x.toNatClampNeg 0 d m
      rw [Nat.zero_add, ← o_of (Int32.le_trans (by decide) hx.1)] at hv
      refine ⟨rfl, hv _ (by omega) hn.1 h1 (fun m' hf h75 _ hr => ⟨_, rfl, fun c => ?_, fun c => ?_⟩)⟩
      · have := k1 ⟨hx.1, hx.2, hy.1, hy.2⟩ m' hf h75
        rw [if_neg c] at this
        rw [hr hn.2]
        exact this
      · have := k1 ⟨hx.1, hx.2, hy.1, hy.2⟩ m' hf h75
        rw [if_pos c] at this
        exact this
    · have hy : ¬ (0 ≤ y ∧ y ≤ 1) := fun h => absurd (if_pos h ▸ y0) (by decide)
      exact ⟨rfl, c_X6_error hG (by omega) (by decide) ⟨_, rfl, k2 (fun h => hy ⟨h.2.2.1, h.2.2.2⟩)⟩⟩
end

