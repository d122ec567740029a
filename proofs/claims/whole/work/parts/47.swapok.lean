-- 47.swapok
set_option maxHeartbeats 4000000 in
theorem ixP {a g c h : Int32} (ha : 0 ≤ a ∧ a ≤ 15) (hg : 0 ≤ g ∧ g < 5) (hc : 0 ≤ c ∧ c ≤ 15) (hh : 0 ≤ h ∧ h < 5) : (72 + 6 * a + 1 + g = 72 + 6 * c + 1 + h) ↔ (a = c ∧ g = h) := by
  constructor
  · intro e
    constructor <;> lia
  · rintro ⟨rfl, rfl⟩
    rfl
set_option maxHeartbeats 4000000 in
theorem ixS {a g c : Int32} (ha : 0 ≤ a ∧ a ≤ 15) (hg : 0 ≤ g ∧ g < 5) (hc : 0 ≤ c ∧ c ≤ 15) : 72 + 6 * a + 1 + g ≠ 72 + 6 * c := by lia
set_option maxHeartbeats 4000000 in
theorem ixT {a g t j : Int32} (ha : 0 ≤ a ∧ a ≤ 15) (hg : 0 ≤ g ∧ g < 5) (hc : 0 ≤ t ∧ t < 16) (hj : 0 ≤ j ∧ j < 4) : 72 + 6 * a + 1 + g ≠ 8 + 4 * t + j := by lia
set_option maxHeartbeats 4000000 in
theorem ixC {c t j : Int32} (hc : 0 ≤ c ∧ c ≤ 15) (ht : 0 ≤ t ∧ t < 16) (hj : 0 ≤ j ∧ j < 4) : 8 + 4 * t + j ≠ 72 + 6 * c := by lia
set_option maxHeartbeats 4000000 in
theorem ixI {s t j : Int32} (hs : 0 ≤ s ∧ s < 16) (ht : 0 ≤ t ∧ t < 16) (hj : 0 ≤ j ∧ j < 4) : (8 + 4 * s + 3 = 8 + 4 * t + j) ↔ (s = t ∧ j = 3) := by
  constructor
  · intro e
    constructor <;> lia
  · rintro ⟨rfl, rfl⟩
    rfl
set_option maxHeartbeats 4000000 in
theorem ix0 {a g c t j : Int32} (ha : 0 ≤ a ∧ a ≤ 15) (hg : 0 ≤ g ∧ g < 5) (hc : 0 ≤ c ∧ c ≤ 15) (ht : 0 ≤ t ∧ t < 16) (hj : 0 ≤ j ∧ j < 4) : 0 ≤ 72 + 6 * a + 1 + g ∧ 0 ≤ 72 + 6 * c ∧ 0 ≤ 8 + 4 * t + j := by lia
set_option maxHeartbeats 4000000 in
theorem sw_rd {f : Nat → Int32} {x y : Int32} (h1 : WT f) (h2 : WC f) (h3 : 0 ≤ x ∧ x < rd f 0) (h4 : 0 ≤ its f x 3) (h5 : 0 ≤ y ∧ y < rd f 0) (h6 : 0 ≤ its f y 3) : (∀ c, 0 ≤ c ∧ c ≤ 15 → sz (swA f x y) c = sz f c) ∧ (∀ c h, 0 ≤ c ∧ c ≤ 15 → 0 ≤ h ∧ h < 5 → pl (swA f x y) c h = if its f y 3 = c ∧ hgt f y = h then x else if its f x 3 = c ∧ hgt f x = h then y else pl f c h) ∧ (∀ t j, 0 ≤ t ∧ t < 16 → 0 ≤ j ∧ j < 4 → its (swA f x y) t j = if y = t ∧ j = 3 then its f x 3 else if x = t ∧ j = 3 then its f y 3 else its f t j) ∧ (∀ i, 0 ≤ i → i < 8 → rd (swA f x y) i = rd f i) := by
  have ex := hgt_ok h1 h2 h3 h4
  have ey := hgt_ok h1 h2 h5 h6
  have cx : 0 ≤ its f x 3 ∧ its f x 3 ≤ 15 := ⟨h4, (h1.2 x h3.1 h3.2).2.2.2.1.2.1⟩
  have cy : 0 ≤ its f y 3 ∧ its f y 3 ≤ 15 := ⟨h6, (h1.2 y h5.1 h5.2).2.2.2.1.2.1⟩
  have n16 := h1.1.2
  have x16 : 0 ≤ x ∧ x < 16 := ⟨h3.1, Int32.lt_of_lt_of_le h3.2 n16⟩
  have y16 : 0 ≤ y ∧ y < 16 := ⟨h5.1, Int32.lt_of_lt_of_le h5.2 n16⟩
  have gx : 0 ≤ hgt f x ∧ hgt f x < 5 := ⟨ex.1, Int32.lt_of_lt_of_le ex.2.1 ex.2.2.2⟩
  have gy : 0 ≤ hgt f y ∧ hgt f y < 5 := ⟨ey.1, Int32.lt_of_lt_of_le ey.2.1 ey.2.2.2⟩
  clear ex ey h1 h2 h3 h4 h5 h6
  have px := (ix0 cx gx cx x16 (by decide : (0 : Int32) ≤ 3 ∧ (3 : Int32) < 4))
  have py := (ix0 cy gy cy y16 (by decide : (0 : Int32) ≤ 3 ∧ (3 : Int32) < 4))
  have main : ∀ k, 0 ≤ k → rd (swA f x y) k = if 8 + 4 * y + 3 = k then its f x 3 else if 8 + 4 * x + 3 = k then its f y 3 else if 72 + 6 * its f y 3 + 1 + hgt f y = k then x else if 72 + 6 * its f x 3 + 1 + hgt f x = k then y else rd f k := fun k hk => by
    unfold swA
    rw [rd_wr py.2.2 hk, rd_wr px.2.2 hk, rd_wr py.1 hk, rd_wr px.1 hk]
  refine ⟨fun c hc => ?_, fun c h hc hh => ?_, fun t j ht hj => ?_, fun i hi h8 => ?_⟩
  · show rd (swA f x y) (72 + 6 * c) = rd f (72 + 6 * c)
    rw [main _ (ix0 cx gx hc x16 (by decide : (0 : Int32) ≤ 3 ∧ (3 : Int32) < 4)).2.1, if_neg (ixC hc y16 (by decide)), if_neg (ixC hc x16 (by decide)), if_neg (ixS cy gy hc), if_neg (ixS cx gx hc)]
  · show rd (swA f x y) (72 + 6 * c + 1 + h) = if its f y 3 = c ∧ hgt f y = h then x else if its f x 3 = c ∧ hgt f x = h then y else rd f (72 + 6 * c + 1 + h)
    rw [main _ (ix0 hc hh hc x16 (by decide : (0 : Int32) ≤ 3 ∧ (3 : Int32) < 4)).1, if_neg (fun e => ixT hc hh y16 (by decide) e.symm), if_neg (fun e => ixT hc hh x16 (by decide) e.symm)]
    simp only [ixP cy gy hc hh, ixP cx gx hc hh]
  · show rd (swA f x y) (8 + 4 * t + j) = if y = t ∧ j = 3 then its f x 3 else if x = t ∧ j = 3 then its f y 3 else rd f (8 + 4 * t + j)
    rw [main _ (ix0 cx gx cx ht hj).2.2]
    rw [if_neg (c := 72 + 6 * its f y 3 + 1 + hgt f y = 8 + 4 * t + j) (ixT cy gy ht hj), if_neg (c := 72 + 6 * its f x 3 + 1 + hgt f x = 8 + 4 * t + j) (ixT cx gx ht hj)]
    simp only [ixI y16 ht hj, ixI x16 ht hj]
  · rw [main i hi]
    generalize its f x 3 = a at *
    generalize its f y 3 = b at *
    generalize hgt f x = g at *
    generalize hgt f y = h at *
    have z1 : 8 + 4 * y + 3 ≠ i := by clear main px py cx cy gx gy n16; lia
    have z2 : 8 + 4 * x + 3 ≠ i := by clear main px py cx cy gx gy n16; lia
    have z3 : 72 + 6 * b + 1 + h ≠ i := by clear main px py cx gx n16; lia
    have z4 : 72 + 6 * a + 1 + g ≠ i := by clear main px py cy gy n16; lia
    rw [if_neg z1, if_neg z2, if_neg z3, if_neg z4]
def sg (x y s : Int32) : Int32 := if s = y then x else if s = x then y else s
set_option maxHeartbeats 4000000 in
theorem sg_sg {x y s : Int32} : sg x y (sg x y s) = s := by
  unfold sg
  by_cases h1 : s = y
  · rw [if_pos h1]
    by_cases h2 : x = y
    · rw [if_pos h2, h2, h1]
    · rw [if_neg h2, if_pos rfl, h1]
  · rw [if_neg h1]
    by_cases h2 : s = x
    · rw [if_pos h2, if_pos rfl, h2]
    · rw [if_neg h2, if_neg h1, if_neg h2]
set_option maxHeartbeats 4000000 in
theorem sg_in {x y s n : Int32} (hx : 0 ≤ x ∧ x < n) (hy : 0 ≤ y ∧ y < n) (hs : 0 ≤ s ∧ s < n) : 0 ≤ sg x y s ∧ sg x y s < n := by
  unfold sg
  split
  · exact hx
  · split
    · exact hy
    · exact hs
set_option maxHeartbeats 4000000 in
theorem pos_iff {f : Nat → Int32} {t c h : Int32} (h1 : WT f) (h2 : WC f) (h3 : 0 ≤ t ∧ t < rd f 0) (h4 : 0 ≤ its f t 3) (hc : 0 ≤ c ∧ c ≤ 15) (hh : 0 ≤ h ∧ h < sz f c) : (its f t 3 = c ∧ hgt f t = h) ↔ t = pl f c h := by
  have e := hgt_ok h1 h2 h3 h4
  constructor
  · rintro ⟨rfl, rfl⟩
    exact e.2.2.1.symm
  · intro q
    have w := (h2 c hc.1 hc.2).2 h hh.1 hh.2
    have a : its f t 3 = c := by rw [q]; exact w.2.1
    rw [a] at e
    exact ⟨a, w.2.2 (hgt f t) e.1 e.2.1 (by rw [e.2.2.1]; exact q)⟩
set_option maxHeartbeats 4000000 in
theorem sw_pl {f : Nat → Int32} {x y : Int32} (h1 : WT f) (h2 : WC f) (h3 : 0 ≤ x ∧ x < rd f 0) (h4 : 0 ≤ its f x 3) (h5 : 0 ≤ y ∧ y < rd f 0) (h6 : 0 ≤ its f y 3) : (∀ c h, 0 ≤ c ∧ c ≤ 15 → 0 ≤ h ∧ h < sz f c → pl (swA f x y) c h = sg x y (pl f c h)) ∧ (∀ t, 0 ≤ t ∧ t < 16 → its (swA f x y) t 3 = its f (sg x y t) 3) := by
  have r := sw_rd h1 h2 h3 h4 h5 h6
  refine ⟨fun c h hc hh => ?_, fun t ht => ?_⟩
  · have h5' := (h2 c hc.1 hc.2).1.2
    rw [r.2.1 c h hc ⟨hh.1, Int32.lt_of_lt_of_le hh.2 h5'⟩]
    simp only [pos_iff h1 h2 h5 h6 hc hh, pos_iff h1 h2 h3 h4 hc hh]
    unfold sg
    generalize pl f c h = p
    clear r h1 h2 h3 h4 h5 h6 hc hh h5'
    grind
  · rw [r.2.2.1 t 3 ht (by decide)]
    unfold sg
    clear r h1 h2 h3 h4 h5 h6
    grind
set_option maxHeartbeats 4000000 in
theorem sw_ok {f : Nat → Int32} {x y : Int32} (h1 : WT f) (h2 : WC f) (h3 : 0 ≤ x ∧ x < rd f 0) (h4 : 0 ≤ its f x 3) (h5 : 0 ≤ y ∧ y < rd f 0) (h6 : 0 ≤ its f y 3) : WT (swA f x y) ∧ WC (swA f x y) := by
  have r := sw_rd h1 h2 h3 h4 h5 h6
  have s := sw_pl h1 h2 h3 h4 h5 h6
  have n0 : rd (swA f x y) 0 = rd f 0 := r.2.2.2 0 (by decide) (by decide)
  have n16 := h1.1.2
  constructor
  · refine ⟨by rw [n0]; exact h1.1, fun t ht0 ht1 => ?_⟩
    rw [n0] at ht1
    have t16 : 0 ≤ t ∧ t < 16 := ⟨ht0, Int32.lt_of_lt_of_le ht1 n16⟩
    have gi := sg_in h3 h5 ⟨ht0, ht1⟩
    have w := h1.2 t ht0 ht1
    have v := h1.2 (sg x y t) gi.1 gi.2
    rw [s.2 t t16, r.2.2.1 t 0 t16 (by decide), r.2.2.1 t 1 t16 (by decide), r.2.2.1 t 2 t16 (by decide)]
    simp only [show ((0 : Int32) = 3) = False by decide, show ((1 : Int32) = 3) = False by decide, show ((2 : Int32) = 3) = False by decide, and_false, if_false]
    refine ⟨w.1, w.2.1, w.2.2.1, v.2.2.2.1, fun q => ?_⟩
    obtain ⟨h, a, b, e⟩ := v.2.2.2.2 q
    have hc : 0 ≤ its f (sg x y t) 3 ∧ its f (sg x y t) 3 ≤ 15 := ⟨q, v.2.2.2.1.2.1⟩
    exact ⟨h, a, by rw [r.1 _ hc]; exact b, by rw [s.1 _ h hc ⟨a, b⟩, e, sg_sg]⟩
  · intro c hc0 hc1
    have hc : 0 ≤ c ∧ c ≤ 15 := ⟨hc0, hc1⟩
    have w := h2 c hc0 hc1
    rw [r.1 c hc, n0]
    refine ⟨w.1, fun h a b => ?_⟩
    have v := w.2 h a b
    have gi := sg_in h3 h5 v.1
    rw [s.1 c h hc ⟨a, b⟩]
    refine ⟨gi, ?_, fun h' a' b' e => ?_⟩
    · rw [s.2 _ ⟨gi.1, Int32.lt_of_lt_of_le gi.2 n16⟩, sg_sg]
      exact v.2.1
    · rw [s.1 c h' hc ⟨a', b'⟩] at e
      refine v.2.2 h' a' b' ?_
      have := congrArg (sg x y) e
      rw [sg_sg, sg_sg] at this
      exact this
set_option maxHeartbeats 4000000 in
theorem tn168 {k : Int32} (h0 : 0 ≤ k) (h : k < 168) {i : Nat} (hi : 168 ≤ i) : k.toNatClampNeg < i := by
  have a := Int32.le_iff_toInt_le.mp h0
  have b := Int32.lt_iff_toInt_lt.mp h
  rw [show (0 : Int32).toInt = 0 from rfl] at a
  rw [show (168 : Int32).toInt = 168 from rfl] at b
  show k.toInt.toNat < i
  omega
set_option maxHeartbeats 4000000 in
theorem ixM {a g t : Int32} (ha : 0 ≤ a ∧ a ≤ 15) (hg : 0 ≤ g ∧ g < 5) (ht : 0 ≤ t ∧ t < 16) : 72 + 6 * a + 1 + g < 168 ∧ 8 + 4 * t + 3 < 168 := by lia
set_option maxHeartbeats 4000000 in
theorem sw_wf {f : Nat → Int32} {x y : Int32} (w : WF f) (h3 : 0 ≤ x ∧ x < rd f 0) (h4 : 0 ≤ its f x 3) (h5 : 0 ≤ y ∧ y < rd f 0) (h6 : 0 ≤ its f y 3) : WF (swA f x y) ∧ ∀ i : Nat, 168 ≤ i → swA f x y i = f i := by
  obtain ⟨h1, h2, w3, w4, w5⟩ := w
  have s := sw_ok h1 h2 h3 h4 h5 h6
  have r := sw_rd h1 h2 h3 h4 h5 h6
  have hi : ∀ i : Nat, 168 ≤ i → swA f x y i = f i := by
    intro i hi
    have ex := hgt_ok h1 h2 h3 h4
    have ey := hgt_ok h1 h2 h5 h6
    have cx : 0 ≤ its f x 3 ∧ its f x 3 ≤ 15 := ⟨h4, (h1.2 x h3.1 h3.2).2.2.2.1.2.1⟩
    have cy : 0 ≤ its f y 3 ∧ its f y 3 ≤ 15 := ⟨h6, (h1.2 y h5.1 h5.2).2.2.2.1.2.1⟩
    have n16 := h1.1.2
    have x16 : 0 ≤ x ∧ x < 16 := ⟨h3.1, Int32.lt_of_lt_of_le h3.2 n16⟩
    have y16 : 0 ≤ y ∧ y < 16 := ⟨h5.1, Int32.lt_of_lt_of_le h5.2 n16⟩
    have gx : 0 ≤ hgt f x ∧ hgt f x < 5 := ⟨ex.1, Int32.lt_of_lt_of_le ex.2.1 ex.2.2.2⟩
    have gy : 0 ≤ hgt f y ∧ hgt f y < 5 := ⟨ey.1, Int32.lt_of_lt_of_le ey.2.1 ey.2.2.2⟩
    have px := ix0 cx gx cx x16 (by decide : (0 : Int32) ≤ 3 ∧ (3 : Int32) < 4)
    have py := ix0 cy gy cy y16 (by decide : (0 : Int32) ≤ 3 ∧ (3 : Int32) < 4)
    have mx := ixM cx gx x16
    have my := ixM cy gy y16
    unfold swA
    rw [wr_hi (tn168 py.2.2 my.2 hi), wr_hi (tn168 px.2.2 mx.2 hi), wr_hi (tn168 py.1 my.1 hi), wr_hi (tn168 px.1 mx.1 hi)]
  refine ⟨⟨s.1, s.2, ?_, w4.hi hi (Or.inl rfl), w5.hi hi (Or.inr rfl)⟩, hi⟩
  unfold WN at w3 ⊢
  rw [r.2.2.2 1 (by decide) (by decide), r.2.2.2 2 (by decide) (by decide), r.2.2.2 3 (by decide) (by decide), r.2.2.2 4 (by decide) (by decide), r.2.2.2 5 (by decide) (by decide), r.2.2.2 6 (by decide) (by decide)]
  exact w3

