-- 85.begin
/-! behind the two constructors -/
def U0 : List (Nat × Nat × Nat) := [(75, 21, 88), (75, 20, 87), (75, 19, 86), (75, 18, 85), (75, 14, 84), (75, 12, 83), (75, 11, 82), (75, 10, 81), (75, 9, 80), (75, 4, 79), (75, 2, 78), (75, 1, 77), (75, 0, 76), (0, 2, 67), (67, 1, 40), (67, 0, 36), (67, 8, 74), (67, 7, 73), (67, 6, 72), (67, 5, 71), (67, 4, 70), (67, 3, 69), (67, 2, 68), (0, 1, 51), (51, 1, 56), (51, 0, 52), (51, 8, 66), (51, 7, 65), (51, 6, 64), (51, 5, 63), (51, 4, 62), (51, 3, 61), (51, 2, 60), (56, 1, 59), (56, 0, 57), (57, 0, 58), (52, 1, 55), (52, 0, 53), (53, 0, 54), (0, 0, 35), (35, 1, 40), (35, 0, 36), (35, 8, 50), (35, 7, 49), (35, 6, 48), (35, 5, 47), (35, 4, 46), (35, 3, 45), (35, 2, 44), (40, 1, 43), (40, 0, 41), (41, 0, 42), (36, 1, 39), (36, 0, 37), (37, 0, 38), (0, 13, 34), (0, 12, 33), (0, 11, 32), (0, 10, 23), (23, 3, 30), (30, 0, 31), (23, 2, 28), (28, 0, 29), (23, 1, 26), (26, 0, 27), (23, 0, 24), (24, 0, 25), (0, 9, 20), (20, 0, 21), (21, 0, 22), (0, 8, 16), (16, 1, 19), (16, 0, 17), (17, 0, 18), (0, 7, 9), (9, 2, 12), (12, 1, 15), (12, 0, 13), (13, 0, 14), (9, 1, 1005), (9, 0, 10), (10, 0, 11), (0, 6, 7), (7, 0, 8), (0, 5, 5), (5, 0, 6), (0, 4, 3), (3, 0, 4), (0, 3, 1), (1, 0, 2)]
def V0 : List (Nat × Nat × Int32) := [(76, 4, (1)), (76, 3, 60), (76, 7, (1)), (67, 15, -1), (67, 14, 1), (67, 11, 1), (67, 10, 60), (51, 15, -1), (51, 14, 1), (51, 11, 1), (51, 10, 60), (35, 15, -1), (35, 14, 1), (35, 11, 1), (35, 10, 60)]
set_option maxHeartbeats 4000000 in
theorem tk_all : SH.take 89 = SH := by rw [List.take_of_length_le]; rw [SH_len]; exact Nat.le_refl _
set_option maxHeartbeats 4000000 in
theorem tU_U0 : tU U0 = TA 10 1005 12 := by
  funext k j
  by_cases h : k < 89 ∧ j < 23
  · exact (by decide +kernel : ∀ k : Fin 89, ∀ j : Fin 23, tU U0 k.1 j.1 = TA 10 1005 12 k.1 j.1) ⟨k, h.1⟩ ⟨j, h.2⟩
  · have hk : ∀ q ∈ U0, q.1 < 89 ∧ q.2.1 < 23 := by decide +kernel
    have e1 : tU U0 k j = none := by
      unfold tU
      rw [List.find?_eq_none.mpr (fun q hq => kj_f (fun e => h (by have := hk q hq; omega)))]
      rfl
    have e2 : TA 10 1005 12 k j = none := by
      unfold TA
      by_cases h1 : k < 89
      · have hr : ∀ k : Fin 89, ((TAL 10 1005 12).getD k.1 []).length ≤ 23 := by decide +kernel
        have hr1 : ((TAL 10 1005 12).getD k []).length ≤ 23 := hr ⟨k, h1⟩
        rw [List.getD_eq_getElem?_getD, List.getElem?_eq_none (by have h3 : ¬ j < 23 := fun q => h ⟨h1, q⟩; omega)]
        rfl
      · have hl : (TAL 10 1005 12).length = 89 := by decide +kernel
        rw [show (TAL 10 1005 12).getD k [] = [] by rw [List.getD_eq_getElem?_getD, List.getElem?_eq_none (by omega)]; rfl]
        rfl
    rw [e1, e2]
set_option maxHeartbeats 4000000 in
theorem mU_0 {V : List (Nat × Nat × Int32)} {k : Nat} (h : ∀ q ∈ V, q.1 ≠ k) : mU V k = fun _ => 0 := by
  funext b
  unfold mU
  rw [List.find?_eq_none.mpr (fun q hq => kj_f (fun e => h q hq e.1.symm))]
  rfl
set_option maxHeartbeats 4000000 in
theorem mU_B {V : List (Nat × Nat × Int32)} {k j B : Nat} (h : ∀ q ∈ V, q.1 = k → q.2.1 < B) (hj : B ≤ j) : mU V k j = 0 := by
  unfold mU
  rw [List.find?_eq_none.mpr (fun q hq => kj_f (fun e => by have := h q hq e.1.symm; omega))]
  rfl
set_option maxHeartbeats 4000000 in
theorem jV0 : jV (mU V0) := by
  have f8 : ∀ j, 8 ≤ j → mU V0 76 j = 0 := fun j hj => mU_B (B := 8) (by decide) hj
  have hsz : ∀ c : Int32, 0 ≤ c → c ≤ 15 → sz (mU V0 76) c = 0 := by
    intro c c0 c1
    obtain ⟨k, hk, rfl⟩ := oN' (N := 15) c0 c1 (by decide)
    rw [sz_o (by omega), f8 _ (by omega)]
  have no0 : ∀ {t : Int32}, 0 ≤ t → ¬ t < 0 := fun h => Int32.not_lt.mpr h
  have r0 : rd (mU V0 76) 0 = 0 := by decide +kernel
  have r5 : rd (mU V0 76) 5 = 0 := by decide +kernel
  have r6 : rd (mU V0 76) 6 = 0 := by decide +kernel
  have t0 : tN (mU V0 76) 0 = 0 := by rw [tN_o.1]; exact f8 _ (by decide)
  have t1 : tN (mU V0 76) 1 = 0 := by rw [tN_o.2]; exact f8 _ (by decide)
  have z : ∀ {k : Nat}, (∀ q ∈ V0, q.1 ≠ k) → mU V0 k = fun _ => 0 := fun h => mU_0 h
  refine ⟨⟨⟨⟨⟨by decide +kernel, by decide +kernel, by decide +kernel, by decide +kernel⟩, fun t a b => ?_, fun c c0 c1 => ⟨?_, fun h a b => ?_⟩⟩, ⟨TR.no (by decide +kernel) (by rw [t0]; rfl), TR.no (by decide +kernel) (by rw [t1]; rfl)⟩, ⟨⟨by rw [r0]; decide, fun t a b => ?_⟩, fun c c0 c1 => ?_, by unfold WN; decide +kernel, WX.no t0, WX.no t1⟩⟩, ⟨by decide +kernel, by decide +kernel⟩, ⟨by decide +kernel, fun j _ b => ?_⟩, ⟨by decide +kernel, fun j _ b => ?_⟩, fun j _ => ?_⟩, ⟨by decide +kernel, fun h => absurd (by decide +kernel) h⟩, ⟨fun x hx => ⟨?_, ?_, fun j b _ => ?_⟩, fun x hx => ⟨0, by decide, ?_⟩, fun x hx => Or.inl ?_⟩, fun k _ _ => ?_, ⟨0, by decide, by decide +kernel, by decide +kernel, fun j hj => absurd hj (Nat.not_lt_zero _)⟩⟩
  · rw [r0] at b; exact absurd b (no0 a)
  · rw [hsz c c0 c1, z (by decide)]; rfl
  · rw [hsz c c0 c1] at b; exact absurd b (no0 a)
  · rw [r0] at b; exact absurd b (no0 a)
  · rw [hsz c c0 c1]
    exact ⟨by decide, fun h a b => absurd b (no0 a)⟩
  · rw [r5] at b; exact absurd b (no0 (o_0 _ (by omega)))
  · rw [r6] at b; exact absurd b (no0 (o_0 _ (by omega)))
  · rw [f8 _ (by omega)]; decide
  · rw [z (k := 32) (by decide), z (k := 85) (by decide)]
  · rw [z (k := 86) (by decide)]
    rcases (show x = 0 ∨ x = 1 ∨ x = 2 ∨ x = 3 by omega) with rfl | rfl | rfl | rfl <;> decide +kernel
  · rw [z (k := 86) (by decide)] at b; exact absurd b (no0 (o_0 _ (by omega)))
  · rw [z (k := 86) (by decide)]; rfl
  · rw [z (k := 85) (by decide)]
  · rw [z (k := 34) (by decide), z (k := 79) (by decide)]

