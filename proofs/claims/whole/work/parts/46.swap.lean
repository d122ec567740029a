-- 46.swap
def swA (f : Nat → Int32) (x y : Int32) : Nat → Int32 := wr (wr (wr (wr f (72 + 6 * its f x 3 + 1 + hgt f x) y) (72 + 6 * its f y 3 + 1 + hgt f y) x) (8 + 4 * x + 3) (its f y 3)) (8 + 4 * y + 3) (its f x 3)
section
variable {G : Gm} {d t n i : Nat} {m : Mem} {K : Option Value → Mem → Prop}
set_option maxHeartbeats 4000000 in
theorem c_X6_changes (hG : fl G = false) (hd : 3 ≤ d) {x y : Int32} (h1 : WT (m 76)) (h2 : WC (m 76)) (h3 : 0 ≤ x ∧ x < rd (m 76) 0) (h4 : 0 ≤ its (m 76) x 3) (h5 : 0 ≤ y ∧ y < rd (m 76) 0) (h6 : 0 ≤ its (m 76) y 3) (k : K none (set1 m 76 (swA (m 76) x y))) : Cal G mX6_changes d [.ref 75, .int x, .int y] SH (TA t n i) m K := by
  have ex := hgt_ok h1 h2 h3 h4
  have ey := hgt_ok h1 h2 h5 h6
  have cx := (h1.2 x h3.1 h3.2).2.2.2.1.2.1
  have cy := (h1.2 y h5.1 h5.2).2.2.2.1.2.1
  have n16 := h1.1.2
  have x16 : x < 16 := Int32.lt_of_lt_of_le h3.2 n16
  have y16 : y < 16 := Int32.lt_of_lt_of_le h5.2 n16
  have hx5 : hgt (m 76) x < 5 := Int32.lt_of_lt_of_le ex.2.1 ex.2.2.2
  have hy5 : hgt (m 76) y < 5 := Int32.lt_of_lt_of_le ey.2.1 ey.2.2.2
  have x0 := h3.1
  have y0 := h5.1
  have gx0 := ex.1
  have gy0 := ey.1
  obtain ⟨d, rfl⟩ : ∃ e, d = e + 1 := ⟨d - 1, by omega⟩
  refine Cal.of (by decide +kernel) rfl (Nat.le_of_ble_eq_true rfl) (rg_X6_changes_0 hG 75 x y ?_)
  refine ⟨rfl, c_X6_its hG (by omega) ⟨x0, x16⟩ (by decide) ⟨_, rfl, c_X6_its hG (by omega) ⟨y0, y16⟩ (by decide) ⟨_, rfl, c_X6_heightOf hG (by omega) h1 h2 h3 h4 ⟨_, rfl, c_X6_heightOf hG (by omega) h1 h2 h5 h6 ⟨_, rfl, _, rfl, _, rfl, ?_⟩⟩⟩⟩⟩
  have ek : set1 m 76 (swA (m 76) x y) = upa (upa (upa (upa m 76 (72 + 6 * its (m 76) x 3 + 1 + hgt (m 76) x) y) 76 (72 + 6 * its (m 76) y 3 + 1 + hgt (m 76) y) x) 76 (8 + 4 * x + 3) (its (m 76) y 3)) 76 (8 + 4 * y + 3) (its (m 76) x 3) := by
    simp only [upa_set, set1_eq, set1_set]
    rfl
  rw [ek] at k
  clear ek ex ey h1 h2 h3 h5
  generalize hgt (m 76) x = gx at *
  generalize hgt (m 76) y = gy at *
  generalize its (m 76) x 3 = a at *
  generalize its (m 76) y 3 = b at *
  refine ⟨ib502 (by clear k; lia) (by clear k; lia), ?_⟩
  rintro _ rfl
  refine ⟨ib502 (by clear k; lia) (by clear k; lia), ?_⟩
  rintro _ rfl
  refine ⟨ib502 (by clear k; lia) (by clear k; lia), ?_⟩
  rintro _ rfl
  refine ⟨ib502 (by clear k; lia) (by clear k; lia), ?_⟩
  rintro _ rfl
  exact k
end

