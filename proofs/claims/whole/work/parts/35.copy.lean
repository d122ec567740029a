-- 35.copy
set_option maxHeartbeats 4000000 in
theorem cp2_ne {m : Mem} {kd dp ks sp n a : Nat} (h : a ≠ kd) : cp2 m kd dp ks sp n a = m a := by
  funext z; simp [cp2, h]
set_option maxHeartbeats 4000000 in
theorem cp2_eq {m : Mem} {kd ks n : Nat} : cp2 m kd 0 ks 0 n kd = fun j => if j < n then m ks j else m kd j := by
  funext z
  by_cases h : z < n <;> simp [cp2, h]
-- one box as another
set_option maxHeartbeats 4000000 in
theorem RB.as {m m' : Mem} {b a c e : Nat} {f : Nat → Int32} (h : RB m c e f) (n16 : rd f 0 ≤ 16) (w : WT f) (w2 : WC f) (e9 : m' b 9 = m c 9) (e10 : m' b 10 = m c 10) (e11 : m' b 11 = m c 11) (e12 : m' b 12 = m c 12) (k0 : ∀ j, j < 16 → m' a j = m e j) (k1 : ∀ j, j < 16 → m' (a + 1) j = m (e + 1) j) (k2 : ∀ j, j < 16 → m' (a + 2) j = m (e + 2) j) (k3 : ∀ j, j < 16 → m' (a + 3) j = m (e + 3) j) (k4 : ∀ j, j < 16 → m' (a + 4) j = m (e + 4) j) (k5 : ∀ j, j < 80 → m' (a + 5) j = m (e + 5) j) (k6 : ∀ j, j < 16 → m' (a + 6) j = m (e + 6) j) : RB m' b a f := by
  obtain ⟨⟨r1, r2, r3, r4⟩, r5, r6⟩ := h
  have t16 : ∀ {x : Int32}, x < 16 → x.toNatClampNeg < 16 := fun h => tn_lt (n := 16) h (by decide) (by decide)
  have t80 : ∀ {x : Int32}, x < 80 → x.toNatClampNeg < 80 := fun h => tn_lt (n := 80) h (by decide) (by decide)
  refine ⟨⟨e9.trans r1, e10.trans r2, e11.trans r3, e12.trans r4⟩, fun s s0 s1 => ?_, fun d d0 d1 => ?_⟩
  · have s16 : s < 16 := by clear r5 r6 w w2 k0 k1 k2 k3 k4 k5 k6; lia
    unfold rd at r5 ⊢
    rw [k0 _ (t16 s16), k1 _ (t16 s16), k2 _ (t16 s16), k3 _ (t16 s16)]
    exact r5 s s0 s1
  · have d16 : d < 16 := by clear r5 r6 w w2 k0 k1 k2 k3 k4 k5 k6; lia
    have b5 := (w2 d d0 d1).1.2
    have w3 := (w2 d d0 d1).2
    have r7 := r6 d d0 d1
    clear r5 r6 w w2
    refine ⟨(k6 _ (t16 d16)).trans r7.1, fun y y0 y1 => ?_⟩
    have hv := (w3 y y0 y1).1
    have y5 : 5 * d + y < 80 := by clear w3 r7 k0 k1 k2 k3 k4 k5 k6; lia
    have v16 : pl f d y < 16 := by clear w3 r7 k0 k1 k2 k3 k4 k5 k6; lia
    obtain ⟨q1, q2⟩ := r7.2 y y0 y1
    exact ⟨(k5 _ (t80 y5)).trans q1, (k4 _ (t16 v16)).trans q2⟩
section
variable {G : Gm} {d : Nat} {sh : List Shp} {ta : Nat → Nat → Option Nat} {m : Mem} {K : Option Value → Mem → Prop}
set_option maxHeartbeats 4000000 in
theorem c_X0_copyFrom (hG : fl G = false) (hd : 1 ≤ d) {b a t1 t2 c e s1 s2 : Nat} {f : Nat → Int32} (h1 : BXo sh ta b a t1 t2) (h2 : BXo sh ta c e s1 s2) (h3 : RB m c e f) (h4 : WT f) (h5 : WC f) (h6 : (b ≠ c ∧ (e + 6 < b ∨ a + 6 < c))) (k : ∀ m', Fr [b, a, a + 1, a + 2, a + 3, a + 4, a + 5, a + 6] m m' → RB m' b a f → m' b 13 = m c 13 → m' b 14 = m c 14 → K none m') : Cal G mX0_copyFrom d [.ref b, .ref c] sh ta m K := by
  obtain ⟨a1, a2, a3, ⟨b1, b2, b3, b4, b5, b6, b7⟩, ⟨d1, d2, d3, d4, d5, d6, d7⟩, -, -, -, -, hlt, -⟩ := h1
  obtain ⟨e1, e2, e3, ⟨f1, f2, f3, f4, f5, f6, f7⟩, ⟨g1, g2, g3, g4, g5, g6, g7⟩, -, -, -, -, hlt2, -⟩ := h2
  obtain ⟨d, rfl⟩ : ∃ e, d = e + 1 := ⟨d - 1, by omega⟩
  refine Cal.of (by decide +kernel) rfl (Nat.le_of_ble_eq_true rfl) (rg_X0_copyFrom_0 hG b c ?_)
  refine ⟨e1, _, f1, a1, _, b1, _, g1, _, d1, by decide, by decide, by decide, by decide, by decide, ?_⟩
  rintro _ rfl
  refine ⟨_, f2, _, b2, _, g2, _, d2, by decide, by decide, by decide, by decide, by decide, ?_⟩
  rintro _ rfl
  refine ⟨_, f3, _, b3, _, g3, _, d3, by decide, by decide, by decide, by decide, by decide, ?_⟩
  rintro _ rfl
  refine ⟨_, f4, _, b4, _, g4, _, d4, by decide, by decide, by decide, by decide, by decide, ?_⟩
  rintro _ rfl
  refine ⟨_, f5, _, b5, _, g5, _, d5, by decide, by decide, by decide, by decide, by decide, ?_⟩
  rintro _ rfl
  refine ⟨_, f6, _, b6, _, g6, _, d6, by decide, by decide, by decide, by decide, by decide, ?_⟩
  rintro _ rfl
  refine ⟨_, f7, _, b7, _, g7, _, d7, by decide, by decide, by decide, by decide, by decide, ?_⟩
  rintro _ rfl
  rintro _ rfl _ rfl _ rfl _ rfl _ rfl _ rfl
  have z16 : (16 : Int32).toNatClampNeg = 16 := rfl
  have z80 : (80 : Int32).toNatClampNeg = 80 := rfl
  simp only [tn0, z16, z80]
  refine k _ ?_ ?_ ?_ ?_
  · intro q hq
    simp only [List.mem_cons, List.mem_nil_iff, or_false, not_or] at hq
    obtain ⟨q0, q1, q2, q3, q4, q5, q6, q7⟩ := hq
    rw [up2_ne q0, up2_ne q0, up2_ne q0, up2_ne q0, up2_ne q0, up2_ne q0, cp2_ne q7, cp2_ne q6, cp2_ne q5, cp2_ne q4, cp2_ne q3, cp2_ne q2, cp2_ne q1]
  · refine h3.as h4.1.2 h4 h5 ?_ ?_ ?_ ?_ ?_ ?_ ?_ ?_ ?_ ?_ ?_
    all_goals (try intro j hj)
    all_goals simp (disch := omega) only [up2_eq, up2_ne, cp2_ne, if_true, if_false, if_pos, if_neg]
    all_goals (try rw [cp2_eq])
    all_goals simp (disch := omega) only [up2_eq, up2_ne, cp2_ne, if_true, if_false, if_pos, if_neg]
  · simp (disch := omega) only [up2_eq, up2_ne, cp2_ne, if_true, if_false, if_pos, if_neg]
  · simp (disch := omega) only [up2_eq, up2_ne, cp2_ne, if_true, if_false, if_pos, if_neg]
end

