-- 48.swapC
set_option maxHeartbeats 4000000 in
theorem ix5 {a g c h : Int32} (ha : 0 ≤ a ∧ a ≤ 15) (hg : 0 ≤ g ∧ g < 5) (hc : 0 ≤ c ∧ c ≤ 15) (hh : 0 ≤ h ∧ h < 5) : (5 * a + g = 5 * c + h) ↔ (a = c ∧ g = h) := by
  constructor
  · intro e
    constructor <;> lia
  · rintro ⟨rfl, rfl⟩
    rfl
set_option maxHeartbeats 4000000 in
theorem ix50 {a g : Int32} (ha : 0 ≤ a ∧ a ≤ 15) (hg : 0 ≤ g ∧ g < 5) : 0 ≤ 5 * a + g := by lia
set_option maxHeartbeats 4000000 in
theorem RB.sw {m m' : Mem} {b a : Nat} {f : Nat → Int32} {x y : Int32} (h : RB m b a f) (h1 : WT f) (h2 : WC f) (h3 : 0 ≤ x ∧ x < rd f 0) (h4 : 0 ≤ its f x 3) (h5 : 0 ≤ y ∧ y < rd f 0) (h6 : 0 ≤ its f y 3) (eb : m' b = m b) (e0 : m' a = m a) (e1 : m' (a + 1) = m (a + 1)) (e2 : m' (a + 2) = m (a + 2)) (e6 : m' (a + 6) = m (a + 6)) (e3 : m' (a + 3) = wr (wr (m (a + 3)) x (its f y 3)) y (its f x 3)) (e4 : m' (a + 4) = wr (wr (m (a + 4)) x (hgt f y)) y (hgt f x)) (e5 : m' (a + 5) = wr (wr (m (a + 5)) (5 * its f y 3 + hgt f y) x) (5 * its f x 3 + hgt f x) y) : RB m' b a (swA f x y) := by
  have r := sw_rd h1 h2 h3 h4 h5 h6
  have s := sw_pl h1 h2 h3 h4 h5 h6
  have n16 := h1.1.2
  have ex := hgt_ok h1 h2 h3 h4
  have ey := hgt_ok h1 h2 h5 h6
  have cx : 0 ≤ its f x 3 ∧ its f x 3 ≤ 15 := ⟨h4, (h1.2 x h3.1 h3.2).2.2.2.1.2.1⟩
  have cy : 0 ≤ its f y 3 ∧ its f y 3 ≤ 15 := ⟨h6, (h1.2 y h5.1 h5.2).2.2.2.1.2.1⟩
  have gx : 0 ≤ hgt f x ∧ hgt f x < 5 := ⟨ex.1, Int32.lt_of_lt_of_le ex.2.1 ex.2.2.2⟩
  have gy : 0 ≤ hgt f y ∧ hgt f y < 5 := ⟨ey.1, Int32.lt_of_lt_of_le ey.2.1 ey.2.2.2⟩
  obtain ⟨⟨q1, q2, q3, q4⟩, q5, q6⟩ := h
  refine ⟨⟨?_, ?_, ?_, ?_⟩, fun t t0 t1 => ?_, fun c c0 c1 => ?_⟩
  · rw [eb, q1, r.2.2.2 0 (by decide) (by decide)]
  · rw [eb, q2, r.2.2.2 3 (by decide) (by decide)]
  · rw [eb, q3, r.2.2.2 4 (by decide) (by decide)]
  · rw [eb, q4, r.2.2.2 2 (by decide) (by decide)]
  · rw [r.2.2.2 0 (by decide) (by decide)] at t1
    have t16 : 0 ≤ t ∧ t < 16 := ⟨t0, Int32.lt_of_lt_of_le t1 n16⟩
    obtain ⟨p0, p1, p2, p3⟩ := q5 t t0 t1
    have z0 := r.2.2.1 t 0 t16 (by decide)
    have z1 := r.2.2.1 t 1 t16 (by decide)
    have z2 := r.2.2.1 t 2 t16 (by decide)
    have z3 := r.2.2.1 t 3 t16 (by decide)
    simp only [show ((0 : Int32) = 3) = False by decide, show ((1 : Int32) = 3) = False by decide, show ((2 : Int32) = 3) = False by decide, and_false, if_false, and_true] at z0 z1 z2 z3
    rw [e0, e1, e2, e3, z0, z1, z2, z3, rd_wr h5.1 t0, rd_wr h3.1 t0, p3]
    exact ⟨p0, p1, p2, rfl⟩
  · have hc : 0 ≤ c ∧ c ≤ 15 := ⟨c0, c1⟩
    obtain ⟨p0, p1⟩ := q6 c c0 c1
    rw [r.1 c hc]
    refine ⟨by rw [e6]; exact p0, fun h a b => ?_⟩
    have h5' : 0 ≤ h ∧ h < 5 := ⟨a, Int32.lt_of_lt_of_le b (h2 c c0 c1).1.2⟩
    have v := ((h2 c c0 c1).2 h a b).1
    obtain ⟨u1, u2⟩ := p1 h a b
    rw [s.1 c h hc ⟨a, b⟩, e5, e4, rd_wr (ix50 cx gx) (ix50 hc h5'), rd_wr (ix50 cy gy) (ix50 hc h5'), rd_wr h5.1 (sg_in h3 h5 v).1, rd_wr h3.1 (sg_in h3 h5 v).1, u1]
    have i1 := ix5 cx gx hc h5'
    have i2 := ix5 cy gy hc h5'
    have j1 := pos_iff h1 h2 h3 h4 hc ⟨a, b⟩
    have j2 := pos_iff h1 h2 h5 h6 hc ⟨a, b⟩
    clear r s q5 q6 p1 h1 h2 e0 e1 e2 e3 e4 e5 e6 eb ex ey v u1
    generalize hp : pl f c h = p at *
    simp only [i1, i2, j1, j2]
    unfold sg
    by_cases k2 : y = p
    · have g2 := (j2.mpr k2).2
      by_cases k1 : x = p
      · have g1 := (j1.mpr k1).2
        subst k2
        subst k1
        simp [g1]
      · have ny : ¬ y = x := fun e => k1 (e ▸ k2)
        subst k2
        simp [k1, ny, g2]
    · by_cases k1 : x = p
      · have g1 := (j1.mpr k1).2
        subst k1
        simp [g1, Ne.symm k2]
      · simp [k1, k2, Ne.symm k1, Ne.symm k2, u2]
section
variable {G : Gm} {d : Nat} {sh : List Shp} {ta : Nat → Nat → Option Nat} {m : Mem} {K : Option Value → Mem → Prop}
set_option maxHeartbeats 4000000 in
theorem c_X0_changePlaces (hG : fl G = false) (hd : 4 ≤ d) {b a t1 t2 : Nat} {f : Nat → Int32} {x y : Int32} (h1 : BXo sh ta b a t1 t2) (h2 : RB m b a f) (h3 : WT f) (h4 : WC f) (h5 : 0 ≤ x ∧ x < rd f 0) (h6 : 0 ≤ its f x 3) (h7 : 0 ≤ y ∧ y < rd f 0) (h8 : 0 ≤ its f y 3) (k : ∀ m', Fr [a + 3, a + 4, a + 5] m m' → RB m' b a (swA f x y) → K none m') : Cal G mX0_changePlaces d [.ref b, .int x, .int y] sh ta m K := by
  obtain ⟨a1, a2, a3, ⟨b1, b2, b3, b4, b5, b6, b7⟩, ⟨d1, d2, d3, d4, d5, d6, d7⟩, -⟩ := id h1
  have n16 := h3.1.2
  have hlt := h1.2.2.2.2.2.2.2.2.2.1
  have ex := hgt_ok h3 h4 h5 h6
  have ey := hgt_ok h3 h4 h7 h8
  have cx : 0 ≤ its f x 3 ∧ its f x 3 ≤ 15 := ⟨h6, (h3.2 x h5.1 h5.2).2.2.2.1.2.1⟩
  have cy : 0 ≤ its f y 3 ∧ its f y 3 ≤ 15 := ⟨h8, (h3.2 y h7.1 h7.2).2.2.2.1.2.1⟩
  have gx : 0 ≤ hgt f x ∧ hgt f x < 5 := ⟨ex.1, Int32.lt_of_lt_of_le ex.2.1 ex.2.2.2⟩
  have gy : 0 ≤ hgt f y ∧ hgt f y < 5 := ⟨ey.1, Int32.lt_of_lt_of_le ey.2.1 ey.2.2.2⟩
  have ux : und f x = hgt f x := if_neg (Int32.not_lt.mpr h6)
  have uy : und f y = hgt f y := if_neg (Int32.not_lt.mpr h8)
  obtain ⟨d, rfl⟩ : ∃ e, d = e + 1 := ⟨d - 1, by omega⟩
  refine Cal.of (by decide +kernel) rfl (Nat.le_of_ble_eq_true rfl) (rg_X0_changePlaces_0 hG b x y ?_)
  refine ⟨a1, c_X0_cellOf hG (by omega) h1 h2 n16 ⟨_, rfl, c_X0_under hG (by omega) h1 h2 h3 h4 h5 ⟨_, rfl, c_X0_cellOf hG (by omega) h1 h2 n16 ⟨_, rfl, c_X0_under hG (by omega) h1 h2 h3 h4 h7 ⟨_, rfl, ?_⟩⟩⟩⟩⟩
  rw [if_pos h5, if_pos h7, ux, uy]
  refine c_X0_place hG (by omega) h1 ⟨h5.1, by rw [h2.1.1]; exact h5.2, Int32.lt_of_lt_of_le h5.2 n16⟩ cy gy ⟨rfl, ?_⟩
  refine c_X0_place hG (by omega) h1 ⟨h7.1, by rw [upa_ne (by omega), upa_ne (by omega), upa_ne (by omega), h2.1.1]; exact h7.2, Int32.lt_of_lt_of_le h7.2 n16⟩ cx gx ⟨rfl, k _ ?_ ?_⟩
  · exact (((Fr.ua (by simp)).tr (Fr.ua (by simp))).tr (Fr.ua (by simp))).tr (((Fr.ua (by simp)).tr (Fr.ua (by simp))).tr (Fr.ua (by simp)))
  · refine h2.sw h3 h4 h5 h6 h7 h8 ?_ ?_ ?_ ?_ ?_ ?_ ?_ ?_
    · rw [upa_ne (by omega), upa_ne (by omega), upa_ne (by omega), upa_ne (by omega), upa_ne (by omega), upa_ne (by omega)]
    · rw [upa_ne (by omega), upa_ne (by omega), upa_ne (by omega), upa_ne (by omega), upa_ne (by omega), upa_ne (by omega)]
    · rw [upa_ne (by omega), upa_ne (by omega), upa_ne (by omega), upa_ne (by omega), upa_ne (by omega), upa_ne (by omega)]
    · rw [upa_ne (by omega), upa_ne (by omega), upa_ne (by omega), upa_ne (by omega), upa_ne (by omega), upa_ne (by omega)]
    · rw [upa_ne (by omega), upa_ne (by omega), upa_ne (by omega), upa_ne (by omega), upa_ne (by omega), upa_ne (by omega)]
    · rw [upa_ne (by omega), upa_eq, upa_ne (by omega), upa_ne (by omega), upa_eq, upa_ne (by omega)]
    · rw [upa_eq, upa_ne (by omega), upa_ne (by omega), upa_eq, upa_ne (by omega), upa_ne (by omega)]
    · rw [upa_ne (by omega), upa_ne (by omega), upa_eq, upa_ne (by omega), upa_ne (by omega), upa_eq]
end

