-- 31.boxE
set_option maxHeartbeats 4000000 in
theorem ar1 {h z : Int32} (h0 : 0 ≤ h) (h3 : h ≤ 3) (h1 : h + 1 < z) (z5 : z ≤ 5) : 0 ≤ h + 1 ∧ h + 1 < 5 ∧ h < 5 ∧ ¬ z - 1 ≤ h := by
  have e := ti1 h0 (Int32.le_trans h3 (by decide))
  refine ⟨by lia, by lia, by lia, fun q => ?_⟩
  have a1 := Int32.le_iff_toInt_le.mp h0
  have a2 := Int32.le_iff_toInt_le.mp h3
  have a3 := Int32.lt_iff_toInt_lt.mp h1
  have a4 := Int32.le_iff_toInt_le.mp z5
  have a5 := Int32.le_iff_toInt_le.mp q
  rw [show (0 : Int32).toInt = 0 from rfl] at a1
  rw [show (3 : Int32).toInt = 3 from rfl] at a2
  rw [show (5 : Int32).toInt = 5 from rfl] at a4
  rw [Int32.toInt_sub, show (1 : Int32).toInt = 1 from rfl, Int.bmod_eq_of_le (by omega) (by omega)] at a5
  omega
section
variable {G : Gm} {d : Nat} {sh : List Shp} {ta : Nat → Nat → Option Nat} {m : Mem} {K : Option Value → Mem → Prop}
set_option maxHeartbeats 4000000 in
theorem r_X0_highOf (hG : fl G = false) (hd : 2 ≤ d) {b a t1 t2 : Nat} {x : Int32} (h1 : BXo sh ta b a t1 t2) (k : K (some (.int (if 0 ≤ x ∧ x ≤ 15 then rd (m (a + 6)) x else 0))) m) : Cal G mX0_highOf d [.ref b, .int x] sh ta m K := by
  obtain ⟨a1, a2, a3, ⟨b1, b2, b3, b4, b5, b6, b7⟩, ⟨d1, d2, d3, d4, d5, d6, d7⟩, -⟩ := h1
  obtain ⟨d, rfl⟩ : ∃ e, d = e + 1 := ⟨d - 1, by omega⟩
  refine Cal.of (by decide +kernel) rfl (Nat.le_of_ble_eq_true rfl) (rg_X0_highOf_0 hG (b) (x) ?_)
  refine c_X5_isCell hG (by omega) ?_
  refine ⟨_, rfl, ?_⟩
  refine ⟨fun c5 => ?_, fun c5 => ?_⟩
  · first | exact k | exact kv k (by grind)
  · refine ⟨(by first | assumption | rfl), ?_⟩
    refine ⟨_, (by first | assumption | rfl), ?_⟩
    refine ⟨_, (by first | assumption | rfl), ?_⟩
    refine ⟨(by (first | assumption | (apply ib502 <;> grind) | (apply ib16 <;> grind) | (apply ib80 <;> grind) | (apply ib672 <;> grind) | (apply ib64 <;> grind) | (apply ib128 <;> grind) | (apply ib124 <;> grind) | (apply ib96 <;> grind) | (apply ib24 <;> grind) | (apply ib60 <;> grind) | (apply ib30 <;> grind) | (apply ib28 <;> grind) | (apply ib7 <;> grind) | (apply ib4 <;> grind) | (apply ib3 <;> grind) | (exact inb (by grind) (by grind) (by omega)))), ?_⟩
    first | exact k | exact kv k (by grind)
set_option maxHeartbeats 4000000 in
theorem r_X0_thingAt (hG : fl G = false) (hd : 2 ≤ d) {b a t1 t2 : Nat} {x y : Int32} (h1 : BXo sh ta b a t1 t2) (k : K (some (.int (if 0 ≤ x ∧ x ≤ 15 ∧ 0 ≤ y ∧ y < rd (m (a + 6)) x ∧ y < 5 then rd (m (a + 5)) (5 * x + y) else -1))) m) : Cal G mX0_thingAt d [.ref b, .int x, .int y] sh ta m K := by
  obtain ⟨a1, a2, a3, ⟨b1, b2, b3, b4, b5, b6, b7⟩, ⟨d1, d2, d3, d4, d5, d6, d7⟩, -⟩ := h1
  obtain ⟨d, rfl⟩ : ∃ e, d = e + 1 := ⟨d - 1, by omega⟩
  refine Cal.of (by decide +kernel) rfl (Nat.le_of_ble_eq_true rfl) (rg_X0_thingAt_0 hG (b) (x) (y) ?_)
  refine c_X5_isCell hG (by omega) ?_
  refine ⟨_, rfl, ?_⟩
  refine ⟨fun c5 => ?_, fun c5 => ?_⟩
  · first | exact k | exact kv k (by grind)
  · refine ⟨fun c6 => ?_, fun c6 => ?_⟩
    · first | exact k | exact kv k (by grind)
    · refine ⟨(by first | assumption | rfl), ?_⟩
      refine ⟨_, (by first | assumption | rfl), ?_⟩
      refine ⟨_, (by first | assumption | rfl), ?_⟩
      refine ⟨(by (first | assumption | (apply ib502 <;> grind) | (apply ib16 <;> grind) | (apply ib80 <;> grind) | (apply ib672 <;> grind) | (apply ib64 <;> grind) | (apply ib128 <;> grind) | (apply ib124 <;> grind) | (apply ib96 <;> grind) | (apply ib24 <;> grind) | (apply ib60 <;> grind) | (apply ib30 <;> grind) | (apply ib28 <;> grind) | (apply ib7 <;> grind) | (apply ib4 <;> grind) | (apply ib3 <;> grind) | (exact inb (by grind) (by grind) (by omega)))), ?_⟩
      refine ⟨fun c13 => ?_, fun c13 => ?_⟩
      · first | exact k | exact kv k (by grind)
      · refine ⟨fun c14 => ?_, fun c14 => ?_⟩
        · refine ⟨_, (by first | assumption | rfl), ?_⟩
          refine ⟨_, (by first | assumption | rfl), ?_⟩
          refine ⟨(by (first | assumption | (apply ib502 <;> grind) | (apply ib16 <;> grind) | (apply ib80 <;> grind) | (apply ib672 <;> grind) | (apply ib64 <;> grind) | (apply ib128 <;> grind) | (apply ib124 <;> grind) | (apply ib96 <;> grind) | (apply ib24 <;> grind) | (apply ib60 <;> grind) | (apply ib30 <;> grind) | (apply ib28 <;> grind) | (apply ib7 <;> grind) | (apply ib4 <;> grind) | (apply ib3 <;> grind) | (exact inb (by grind) (by grind) (by omega)))), ?_⟩
          first | exact k | exact kv k (by grind)
        · first | exact k | exact kv k (by grind)
set_option maxHeartbeats 4000000 in
theorem r_X0_cellOf (hG : fl G = false) (hd : 2 ≤ d) {b a t1 t2 : Nat} {x : Int32} (h1 : BXo sh ta b a t1 t2) (h2 : 0 ≤ x ∧ x < m b 9 ∧ x < 16) (k : K (some (.int (rd (m (a + 3)) x))) m) : Cal G mX0_cellOf d [.ref b, .int x] sh ta m K := by
  obtain ⟨a1, a2, a3, ⟨b1, b2, b3, b4, b5, b6, b7⟩, ⟨d1, d2, d3, d4, d5, d6, d7⟩, -⟩ := h1
  obtain ⟨d, rfl⟩ : ∃ e, d = e + 1 := ⟨d - 1, by omega⟩
  refine Cal.of (by decide +kernel) rfl (Nat.le_of_ble_eq_true rfl) (rg_X0_cellOf_0 hG (b) (x) ?_)
  refine ⟨(by first | assumption | rfl), ?_⟩
  refine c_X0_has hG (by omega) (by first | assumption | rfl | omega | grind) ?_
  refine ⟨_, rfl, ?_⟩
  refine ⟨fun c6 => ?_, fun c6 => ?_⟩
  · first | exact k | exact kv k (by grind)
  · refine ⟨_, (by first | assumption | rfl), ?_⟩
    refine ⟨_, (by first | assumption | rfl), ?_⟩
    refine ⟨(by (first | assumption | (apply ib502 <;> grind) | (apply ib16 <;> grind) | (apply ib80 <;> grind) | (apply ib672 <;> grind) | (apply ib64 <;> grind) | (apply ib128 <;> grind) | (apply ib124 <;> grind) | (apply ib96 <;> grind) | (apply ib24 <;> grind) | (apply ib60 <;> grind) | (apply ib30 <;> grind) | (apply ib28 <;> grind) | (apply ib7 <;> grind) | (apply ib4 <;> grind) | (apply ib3 <;> grind) | (exact inb (by grind) (by grind) (by omega)))), ?_⟩
    first | exact k | exact kv k (by grind)
set_option maxHeartbeats 4000000 in
theorem c_X0_place (hG : fl G = false) (hd : 2 ≤ d) {b a t1 t2 : Nat} {x c y : Int32} (h1 : BXo sh ta b a t1 t2) (h2 : 0 ≤ x ∧ x < m b 9 ∧ x < 16) (h3 : 0 ≤ c ∧ c ≤ 15) (h4 : 0 ≤ y ∧ y < 5) (k : K none (upa (upa (upa m (a + 5) (5 * c + y) x) (a + 3) x c) (a + 4) x y)) : Cal G mX0_place d [.ref b, .int x, .int c, .int y] sh ta m K := by
  obtain ⟨a1, a2, a3, ⟨b1, b2, b3, b4, b5, b6, b7⟩, ⟨d1, d2, d3, d4, d5, d6, d7⟩, -⟩ := h1
  obtain ⟨d, rfl⟩ : ∃ e, d = e + 1 := ⟨d - 1, by omega⟩
  refine Cal.of (by decide +kernel) rfl (Nat.le_of_ble_eq_true rfl) (rg_X0_place_0 hG (b) (x) (c) (y) ?_)
  refine ⟨(by first | assumption | rfl), ?_⟩
  refine c_X0_has hG (by omega) (by first | assumption | rfl | omega | grind) ?_
  refine ⟨_, rfl, ?_⟩
  refine ⟨fun c6 => ?_, fun c6 => ?_⟩
  · first | exact k | (exfalso; grind)
  · refine c_X5_isCell hG (by omega) ?_
    refine ⟨_, rfl, ?_⟩
    refine ⟨fun c11 => ?_, fun c11 => ?_⟩
    · first | exact k | (exfalso; grind)
    · refine ⟨fun c12 => ?_, fun c12 => ?_⟩
      · first | exact k | (exfalso; grind)
      · refine ⟨fun c13 => ?_, fun c13 => ?_⟩
        · first | exact k | (exfalso; grind)
        · refine ⟨_, (by first | assumption | rfl), ?_⟩
          refine ⟨_, (by first | assumption | rfl), ?_⟩
          refine ⟨(by (first | assumption | (apply ib502 <;> grind) | (apply ib16 <;> grind) | (apply ib80 <;> grind) | (apply ib672 <;> grind) | (apply ib64 <;> grind) | (apply ib128 <;> grind) | (apply ib124 <;> grind) | (apply ib96 <;> grind) | (apply ib24 <;> grind) | (apply ib60 <;> grind) | (apply ib30 <;> grind) | (apply ib28 <;> grind) | (apply ib7 <;> grind) | (apply ib4 <;> grind) | (apply ib3 <;> grind) | (exact inb (by grind) (by grind) (by omega)))), ?_⟩
          rintro _ rfl
          refine ⟨_, (by first | assumption | rfl), ?_⟩
          refine ⟨_, (by first | assumption | rfl), ?_⟩
          refine ⟨(by (first | assumption | (apply ib502 <;> grind) | (apply ib16 <;> grind) | (apply ib80 <;> grind) | (apply ib672 <;> grind) | (apply ib64 <;> grind) | (apply ib128 <;> grind) | (apply ib124 <;> grind) | (apply ib96 <;> grind) | (apply ib24 <;> grind) | (apply ib60 <;> grind) | (apply ib30 <;> grind) | (apply ib28 <;> grind) | (apply ib7 <;> grind) | (apply ib4 <;> grind) | (apply ib3 <;> grind) | (exact inb (by grind) (by grind) (by omega)))), ?_⟩
          rintro _ rfl
          refine ⟨_, (by first | assumption | rfl), ?_⟩
          refine ⟨_, (by first | assumption | rfl), ?_⟩
          refine ⟨(by (first | assumption | (apply ib502 <;> grind) | (apply ib16 <;> grind) | (apply ib80 <;> grind) | (apply ib672 <;> grind) | (apply ib64 <;> grind) | (apply ib128 <;> grind) | (apply ib124 <;> grind) | (apply ib96 <;> grind) | (apply ib24 <;> grind) | (apply ib60 <;> grind) | (apply ib30 <;> grind) | (apply ib28 <;> grind) | (apply ib7 <;> grind) | (apply ib4 <;> grind) | (apply ib3 <;> grind) | (exact inb (by grind) (by grind) (by omega)))), ?_⟩
          rintro _ rfl
          first | exact k | (exfalso; grind)
-- the box when a thing was laid uppermost
set_option maxHeartbeats 4000000 in
theorem RB.lay {m m' : Mem} {b a : Nat} {f g : Nat → Int32} {t c : Int32} (h : RB m b a f) (w1 : WT f) (w2 : WC f) (ht : 0 ≤ t ∧ t < rd f 0) (h3 : its f t 3 < 0) (hc : 0 ≤ c ∧ c ≤ 15) (hs : sz f c < 5) (hL : Lay f t c g) (e0 : m' b = m b) (e1 : m' a = m a) (e2 : m' (a + 1) = m (a + 1)) (e3 : m' (a + 2) = m (a + 2)) (e4 : m' (a + 3) = wr (m (a + 3)) t c) (e5 : m' (a + 4) = wr (m (a + 4)) t (sz f c)) (e6 : m' (a + 5) = wr (m (a + 5)) (5 * c + sz f c) t) (e7 : m' (a + 6) = wr (m (a + 6)) c (sz f c + 1)) : RB m' b a g := by
  obtain ⟨l1, -, l3, l4⟩ := hL
  obtain ⟨⟨r1, r2, r3, r4⟩, r5, r6⟩ := h
  have n16 := w1.1.2
  have hs0 := (w2 c hc.1 hc.2).1.1
  have w4 : ∀ e, 0 ≤ e → e ≤ 15 → sz f e ≤ 5 := fun e a1 a2 => (w2 e a1 a2).1.2
  have w5 : ∀ e y, 0 ≤ e → e ≤ 15 → 0 ≤ y → y < sz f e → 0 ≤ pl f e y ∧ pl f e y ≠ t := by
    intro e y a1 a2 a3 a4
    obtain ⟨d1, d2, -⟩ := (w2 e a1 a2).2 y a3 a4
    exact ⟨d1.1, fun z => by rw [z] at d2; rw [d2] at h3; exact absurd a1 (Int32.not_le.mpr h3)⟩
  clear w1 w2
  unfold RB
  rw [e0, e1, e2, e3, e4, e5, e6, e7, l1 0 (by decide) (by decide), l1 3 (by decide) (by decide), l1 4 (by decide) (by decide), l1 2 (by decide) (by decide)]
  refine ⟨⟨r1, r2, r3, r4⟩, fun s s0 s1 => ?_, fun e e0 e1 => ?_⟩
  · obtain ⟨q1, q2, q3, q4⟩ := r5 s s0 s1
    have s16 : s < 16 := by clear r5 r6 l1 l3 l4 w4 w5; lia
    rw [l3 s 0 s0 s16 (by decide) (by decide), if_neg (fun z => absurd z.2 (by decide)), l3 s 1 s0 s16 (by decide) (by decide), if_neg (fun z => absurd z.2 (by decide)), l3 s 2 s0 s16 (by decide) (by decide), if_neg (fun z => absurd z.2 (by decide)), l3 s 3 s0 s16 (by decide) (by decide), rd_wr ht.1 s0]
    refine ⟨q1, q2, q3, ?_⟩
    by_cases hst : s = t
    · rw [if_pos hst.symm, if_pos ⟨hst, rfl⟩]
    · rw [if_neg (fun z => hst z.symm), if_neg (fun z => hst z.1)]; exact q4
  · obtain ⟨q1, q2⟩ := r6 e e0 e1
    obtain ⟨k1, k2⟩ := l4 e e0 e1
    have b5 := w4 e e0 e1
    have v5 := w5 e
    clear w4 w5 r5 r6 l1 l3 l4
    rw [rd_wr hc.1 e0, k1]
    refine ⟨?_, fun y y0 y1 => ?_⟩
    · by_cases hec : e = c
      · rw [if_pos hec.symm, if_pos hec]
      · rw [if_neg (fun z => hec z.symm), if_neg hec]; exact q1
    have y5 : y < 5 := by
      by_cases hec : e = c
      · rw [if_pos hec] at y1; clear q2 k2 v5; lia
      · rw [if_neg hec] at y1; clear q2 k2 v5; lia
    rw [k2 y y0 y5, rd_wr (by clear q2 k2 v5; lia) (by clear q2 k2 v5; lia)]
    by_cases hec : e = c
    · subst hec
      rw [if_pos rfl] at y1
      by_cases hy : y = sz f e
      · subst hy
        rw [if_pos rfl, if_pos ⟨rfl, rfl⟩, rd_wr ht.1 ht.1, if_pos rfl]
        exact ⟨rfl, rfl⟩
      · have y6 : y < sz f e := by clear q2 k2 v5; lia
        obtain ⟨p1, p2⟩ := q2 y y0 y6
        obtain ⟨v1, v2⟩ := v5 y e0 e1 y0 y6
        rw [if_neg (by clear q2 k2 v5; lia), if_neg (fun z => hy z.2), rd_wr ht.1 v1, if_neg (fun z => v2 z.symm)]
        exact ⟨p1, p2⟩
    · rw [if_neg hec] at y1
      obtain ⟨p1, p2⟩ := q2 y y0 y1
      obtain ⟨v1, v2⟩ := v5 y e0 e1 y0 y1
      rw [if_neg (by clear q2 k2 v5; lia), if_neg (fun z => hec z.1), rd_wr ht.1 v1, if_neg (fun z => v2 z.symm)]
      exact ⟨p1, p2⟩
set_option maxHeartbeats 4000000 in
theorem c_X0_lower (hG : fl G = false) (hd : 3 ≤ d) {b a t1 t2 : Nat} {f g : Nat → Int32} {x c : Int32} (h1 : BXo sh ta b a t1 t2) (h2 : RB m b a f) (h3 : WT f) (h4 : WC f) (h5 : 0 ≤ x ∧ x < rd f 0) (h6 : its f x 3 < 0) (h7 : 0 ≤ c ∧ c ≤ 15) (h8 : sz f c < 5) (h9 : Lay f x c g) (k : ∀ m', Fr [a + 3, a + 4, a + 5, a + 6] m m' → RB m' b a g → K none m') : Cal G mX0_lower d [.ref b, .int x, .int c] sh ta m K := by
  obtain ⟨a1, a2, a3, ⟨b1, b2, b3, b4, b5, b6, b7⟩, ⟨d1, d2, d3, d4, d5, d6, d7⟩, -, -, -, -, -, -⟩ := id h1
  have n16 := h3.1.2
  have hsz := (h4 c h7.1 h7.2).1
  have hr := (h2.2.2 c h7.1 h7.2).1
  obtain ⟨d, rfl⟩ : ∃ e, d = e + 1 := ⟨d - 1, by omega⟩
  refine Cal.of (by decide +kernel) rfl (Nat.le_of_ble_eq_true rfl) (rg_X0_lower_0 hG b x c ?_)
  refine ⟨a1, c_X0_highOf hG (by omega) h1 h2 ⟨_, rfl, c_X5_isCell hG (by omega) ⟨_, rfl, ?_⟩⟩⟩
  rw [if_pos (c := 0 ≤ c ∧ c < 16) ⟨h7.1, by clear k h2 h3 h4; lia⟩, if_pos (c := 0 ≤ c ∧ c ≤ 15) h7]
  refine ⟨fun z => absurd z (by decide), fun _ => ⟨fun z => absurd h8 (Int32.not_lt.mpr z), fun _ => ⟨_, b7, _, d7, ib16 h7.1 (by clear k h2 h3 h4; lia), ib16 h7.1 (by clear k h2 h3 h4; lia), ?_⟩⟩⟩
  rintro _ rfl
  rw [hr]
  have hb : b ≠ a + 6 := by have := h1.2.2.2.2.2.2.2.2.2.1; omega
  refine c_X0_place hG (by omega) h1 ⟨h5.1, by rw [upa_ne hb, h2.1.1]; exact h5.2, by clear k h2 h3 h4; lia⟩ h7 ⟨hsz.1, h8⟩ ⟨rfl, k _ ?_ ?_⟩
  · exact ((Fr.ua (by simp)).tr (Fr.ua (by simp))).tr ((Fr.ua (by simp)).tr (Fr.ua (by simp)))
  · have hlt := h1.2.2.2.2.2.2.2.2.2.1
    refine h2.lay h3 h4 h5 h6 h7 h8 h9 ?_ ?_ ?_ ?_ ?_ ?_ ?_ ?_
    · rw [upa_ne (by omega), upa_ne (by omega), upa_ne (by omega), upa_ne (by omega)]
    · rw [upa_ne (by omega), upa_ne (by omega), upa_ne (by omega), upa_ne (by omega)]
    · rw [upa_ne (by omega), upa_ne (by omega), upa_ne (by omega), upa_ne (by omega)]
    · rw [upa_ne (by omega), upa_ne (by omega), upa_ne (by omega), upa_ne (by omega)]
    · rw [upa_ne (by omega), upa_eq, upa_ne (by omega), upa_ne (by omega)]
    · rw [upa_eq, upa_ne (by omega), upa_ne (by omega), upa_ne (by omega)]
    · rw [upa_ne (by omega), upa_ne (by omega), upa_eq, upa_ne (by omega)]
    · rw [upa_ne (by omega), upa_ne (by omega), upa_ne (by omega), upa_eq]
-- while a pile comes down
def RS (m m' : Mem) (b a : Nat) (f : Nat → Int32) (c h0 h : Int32) : Prop := (m' b = m b ∧ m' a = m a ∧ m' (a + 1) = m (a + 1) ∧ m' (a + 2) = m (a + 2) ∧ m' (a + 6) = m (a + 6)) ∧ (∀ s, 0 ≤ s → s < rd f 0 → rd (m' (a + 3)) s = its f s 3) ∧ (∀ e y, 0 ≤ e → e ≤ 15 → 0 ≤ y → y < sz f e → rd (m' (a + 5)) (5 * e + y) = if e = c ∧ h0 ≤ y ∧ y < h then pl f e (y + 1) else pl f e y) ∧ ∀ e y, 0 ≤ e → e ≤ 15 → 0 ≤ y → y < sz f e → ¬ (e = c ∧ y = h0) → rd (m' (a + 4)) (pl f e y) = if e = c ∧ h0 < y ∧ y ≤ h then y - 1 else y
set_option maxHeartbeats 4000000 in
theorem RS.step {m m' : Mem} {b a : Nat} {f : Nat → Int32} {c h0 h : Int32} (w1 : WT f) (w2 : WC f) (hb : b < a) (hc : 0 ≤ c ∧ c ≤ 15) (hh0 : 0 ≤ h0) (hh : h0 ≤ h) (h3 : h ≤ 3) (hs : h + 1 < sz f c) (r : RS m m' b a f c h0 h) : RS m (upa (upa (upa m' (a + 5) (5 * c + h) (pl f c (h + 1))) (a + 3) (pl f c (h + 1)) c) (a + 4) (pl f c (h + 1)) h) b a f c h0 (h + 1) := by
  have n16 := w1.1.2
  obtain ⟨b1, b2⟩ := w2 c hc.1 hc.2
  have hp : 0 ≤ h ∧ 0 ≤ h + 1 ∧ h + 1 < 5 := by clear w1 w2 b2 r; lia
  obtain ⟨p1, p2, p3⟩ := b2 (h + 1) hp.2.1 hs
  have inj : ∀ e y, 0 ≤ e → e ≤ 15 → 0 ≤ y → y < sz f e → 0 ≤ pl f e y ∧ (pl f e y = pl f c (h + 1) → e = c ∧ y = h + 1) := by
    intro e y a1 a2 a3 a4
    obtain ⟨d1, d2, -⟩ := (w2 e a1 a2).2 y a3 a4
    refine ⟨d1.1, fun z => ?_⟩
    have : e = c := by rw [← d2, z, p2]
    subst this
    exact ⟨rfl, p3 y a3 a4 z⟩
  have w4 : ∀ e, 0 ≤ e → e ≤ 15 → sz f e ≤ 5 := fun e a1 a2 => (w2 e a1 a2).1.2
  clear w1 w2 b2 p3
  obtain ⟨⟨r1, r2, r3, r4, r5⟩, r6, r7, r8⟩ := r
  refine ⟨⟨?_, ?_, ?_, ?_, ?_⟩, fun s s0 s1 => ?_, fun e y e0 e1 y0 y1 => ?_, fun e y e0 e1 y0 y1 hne => ?_⟩
  · rw [upa_ne (by omega), upa_ne (by omega), upa_ne (by omega), r1]
  · rw [upa_ne (by omega), upa_ne (by omega), upa_ne (by omega), r2]
  · rw [upa_ne (by omega), upa_ne (by omega), upa_ne (by omega), r3]
  · rw [upa_ne (by omega), upa_ne (by omega), upa_ne (by omega), r4]
  · rw [upa_ne (by omega), upa_ne (by omega), upa_ne (by omega), r5]
  · rw [upa_ne (by omega), upa_eq, upa_ne (by omega), rd_wr p1.1 s0]
    by_cases hs : pl f c (h + 1) = s
    · rw [if_pos hs, ← hs, p2]
    · rw [if_neg hs]; exact r6 s s0 s1
  · have y5 : y < 5 := by have := w4 e e0 e1; clear inj r6 r7 r8 w4; lia
    rw [upa_ne (by omega), upa_ne (by omega), upa_eq, rd_wr (by clear inj r6 r7 r8 w4; lia) (by clear inj r6 r7 r8 w4; lia), r7 e y e0 e1 y0 y1]
    clear inj r6 r7 r8 w4
    by_cases hec : e = c
    · subst hec
      by_cases hy : y = h
      · subst hy
        rw [if_pos rfl, if_pos ⟨rfl, hh, by lia⟩]
      · rw [if_neg (by lia)]
        by_cases hy2 : h0 ≤ y ∧ y < h
        · rw [if_pos ⟨rfl, hy2⟩, if_pos ⟨rfl, hy2.1, by lia⟩]
        · rw [if_neg (fun z => hy2 z.2), if_neg (fun z => hy2 ⟨z.2.1, by have := z.2.2; lia⟩)]
    · rw [if_neg (by lia), if_neg (fun z => hec z.1), if_neg (fun z => hec z.1)]
  · obtain ⟨i1, i2⟩ := inj e y e0 e1 y0 y1
    have y5 : y < 5 := by have := w4 e e0 e1; clear inj r6 r7 r8 w4; lia
    rw [upa_eq, upa_ne (by omega), upa_ne (by omega), rd_wr p1.1 i1]
    have r9 := r8 e y e0 e1 y0 y1 hne
    clear inj r6 r7 r8 w4
    by_cases hq : pl f c (h + 1) = pl f e y
    · obtain ⟨z1, z2⟩ := i2 hq.symm
      rw [if_pos hq, if_pos ⟨z1, by rw [z2]; lia, by rw [z2]; exact Int32.le_refl _⟩, z2]
      lia
    · rw [if_neg hq, r9]
      by_cases hec : e = c
      · subst hec
        have hy : y ≠ h + 1 := fun z => hq (by rw [z])
        by_cases hy2 : h0 < y ∧ y ≤ h
        · rw [if_pos ⟨rfl, hy2⟩, if_pos ⟨rfl, hy2.1, by lia⟩]
        · rw [if_neg (fun z => hy2 z.2), if_neg (fun z => hy2 ⟨z.2.1, by have := z.2.2; lia⟩)]
      · rw [if_neg (fun z => hec z.1), if_neg (fun z => hec z.1)]
set_option maxHeartbeats 4000000 in
theorem RS.done {m m' m2 : Mem} {b a : Nat} {f g : Nat → Int32} {t to : Int32} (w1 : WT f) (w2 : WC f) (rb : RB m b a f) (ht : 0 ≤ t ∧ t < rd f 0) (h3 : 0 ≤ its f t 3) (hT : Tak f t to g) (r : RS m m' b a f (its f t 3) (hgt f t) (sz f (its f t 3) - 1)) (e0 : m2 b = m' b) (e1 : m2 a = m' a) (e2 : m2 (a + 1) = m' (a + 1)) (e3 : m2 (a + 2) = m' (a + 2)) (e4 : m2 (a + 3) = wr (m' (a + 3)) t to) (e5 : m2 (a + 4) = m' (a + 4)) (e6 : m2 (a + 5) = m' (a + 5)) (e7 : m2 (a + 6) = wr (m' (a + 6)) (its f t 3) (sz f (its f t 3) - 1)) : RB m2 b a g := by
  have n16 := w1.1.2
  have hc15 := (w1.2 t ht.1 ht.2).2.2.2.1.2.1
  have hg := hgt_ok w1 w2 ht h3
  obtain ⟨l1, -, l3, l4⟩ := hT
  obtain ⟨⟨r1, r2, r3, r4, r5⟩, r6, r7, r8⟩ := r
  obtain ⟨⟨q1, q2, q3, q4⟩, q5, q6⟩ := rb
  have w4 : ∀ e, 0 ≤ e → e ≤ 15 → sz f e ≤ 5 := fun e a1 a2 => (w2 e a1 a2).1.2
  clear w1 w2
  generalize its f t 3 = c at *
  generalize hgt f t = h0 at *
  unfold RB
  rw [e0, e1, e2, e3, e4, e5, e6, e7, r1, r2, r3, r4, r5, l1 0 (by decide) (by decide), l1 3 (by decide) (by decide), l1 4 (by decide) (by decide), l1 2 (by decide) (by decide)]
  refine ⟨⟨q1, q2, q3, q4⟩, fun s s0 s1 => ?_, fun e e0 e1 => ?_⟩
  · obtain ⟨p1, p2, p3, p4⟩ := q5 s s0 s1
    have s16 : s < 16 := by clear q5 q6 r6 r7 r8 l1 l3 l4 w4; lia
    rw [l3 s 0 s0 s16 (by decide) (by decide), if_neg (fun z => absurd z.2 (by decide)), l3 s 1 s0 s16 (by decide) (by decide), if_neg (fun z => absurd z.2 (by decide)), l3 s 2 s0 s16 (by decide) (by decide), if_neg (fun z => absurd z.2 (by decide)), l3 s 3 s0 s16 (by decide) (by decide), rd_wr ht.1 s0]
    refine ⟨p1, p2, p3, ?_⟩
    by_cases hst : s = t
    · rw [if_pos hst.symm, if_pos ⟨hst, rfl⟩]
    · rw [if_neg (fun z => hst z.symm), if_neg (fun z => hst z.1)]; exact r6 s s0 s1
  · obtain ⟨k1, k2⟩ := l4 e e0 e1
    have b5 := w4 e e0 e1
    have g1 := (q6 e e0 e1).1
    have g7 := r7 e
    have g8 := r8 e
    clear q5 q6 r6 r7 r8 l1 l3 l4 w4
    rw [rd_wr h3 e0, k1]
    by_cases hec : e = c
    · subst hec
      rw [if_pos rfl, if_pos rfl]
      refine ⟨rfl, fun y y0 y1 => ?_⟩
      have y5 : y < 5 := by clear g7 g8 k2; lia
      rw [k2 y y0 y5 (fun _ => y1), g7 y e0 e1 y0 (by clear g7 g8 k2; lia)]
      by_cases hy : h0 ≤ y
      · have a8 := g8 (y + 1) e0 e1 (by clear g7 g8 k2; lia) (by clear g7 g8 k2; lia) (fun z => by have := z.2; clear g7 g8 k2; lia)
        rw [if_pos ⟨rfl, hy, y1⟩, if_pos ⟨rfl, hy⟩, a8, if_pos ⟨rfl, by clear g7 g8 k2 a8; lia, by clear g7 g8 k2 a8; lia⟩]
        exact ⟨rfl, by clear g7 g8 k2 a8; lia⟩
      · have a8 := g8 y e0 e1 y0 (by clear g7 g8 k2; lia) (fun z => by have := z.2; clear g7 g8 k2; lia)
        rw [if_neg (fun z => hy z.2.1), if_neg (fun z => hy z.2), a8, if_neg (fun z => by have := z.2.1; clear g7 g8 k2 a8; lia)]
        exact ⟨rfl, rfl⟩
    · rw [if_neg (fun z => hec z.symm), if_neg hec]
      refine ⟨g1, fun y y0 y1 => ?_⟩
      have y5 : y < 5 := by clear g7 g8 k2; lia
      rw [k2 y y0 y5 (fun z => absurd z hec), if_neg (fun z => hec z.1), g7 y e0 e1 y0 y1, if_neg (fun z => hec z.1), g8 y e0 e1 y0 y1 (fun z => hec z.1), if_neg (fun z => hec z.1)]
      exact ⟨rfl, rfl⟩
set_option maxHeartbeats 4000000 in
theorem RS.start {m : Mem} {b a : Nat} {f : Nat → Int32} {c h0 : Int32} (rb : RB m b a f) : RS m m b a f c h0 h0 := by
  obtain ⟨-, q5, q6⟩ := rb
  refine ⟨⟨rfl, rfl, rfl, rfl, rfl⟩, fun s s0 s1 => (q5 s s0 s1).2.2.2, fun e y e0 e1 y0 y1 => ?_, fun e y e0 e1 y0 y1 hn => ?_⟩
  · rw [if_neg (fun z => absurd z.2.2 (Int32.not_lt.mpr z.2.1))]
    exact ((q6 e e0 e1).2 y y0 y1).1
  · rw [if_neg (fun z => absurd z.2.1 (Int32.not_lt.mpr z.2.2))]
    exact ((q6 e e0 e1).2 y y0 y1).2
set_option maxHeartbeats 4000000 in
theorem c_X0_take (hG : fl G = false) (hd : 4 ≤ d) {b a t1 t2 : Nat} {f g : Nat → Int32} {x to : Int32} (h1 : BXo sh ta b a t1 t2) (h2 : RB m b a f) (h3 : WT f) (h4 : WC f) (h5 : 0 ≤ x ∧ x < rd f 0) (h6 : 0 ≤ its f x 3) (h7 : Tak f x to g) (k : ∀ m', Fr [a + 3, a + 4, a + 5, a + 6] m m' → RB m' b a g → K none m') : Cal G mX0_take d [.ref b, .int x, .int to] sh ta m K := by
  obtain ⟨a1, a2, a3, ⟨b1, b2, b3, b4, b5, b6, b7⟩, ⟨d1, d2, d3, d4, d5, d6, d7⟩, -, -, -, -, hlt, -⟩ := id h1
  have n16 := h3.1.2
  have hc15 := (h3.2 x h5.1 h5.2).2.2.2.1.2.1
  have hg := hgt_ok h3 h4 h5 h6
  have hsz := (h4 _ h6 hc15).1
  have hr := (h2.2.2 _ h6 hc15).1
  have x16 : x < 16 := by clear k h2 h3 h4 h7; lia
  have hloop : ∀ (k : Nat) (m' : Mem) (h : Int32), hgt f x ≤ h → (sz f (its f x 3)).toInt = h.toInt + k + 1 → Fr [a + 3, a + 4, a + 5, a + 6] m m' → RS m m' b a f (its f x 3) (hgt f x) h → WP G (rmD d 0 0) mX0_take (QC G sh ta K) 0 0 29 [(0, .ref b), (1, .int x), (2, .int to), (3, .int (its f x 3)), (4, .int h)] [] (sh, ta, m') := by
    obtain ⟨d, rfl⟩ : ∃ e, d = e + 1 := ⟨d - 1, by omega⟩
    intro kk
    induction kk with
    | zero =>
      intro m' h hh hz hf r
      have hz : h = sz f (its f x 3) - 1 := by
        have c1 := Int32.le_iff_toInt_le.mp hsz.2
        have c2 := Int32.le_iff_toInt_le.mp (Int32.le_trans hg.1 hh)
        rw [show (5 : Int32).toInt = 5 from rfl] at c1
        rw [show (0 : Int32).toInt = 0 from rfl] at c2
        apply Int32.toInt_inj.mp
        rw [Int32.toInt_sub, show (1 : Int32).toInt = 1 from rfl, Int.bmod_eq_of_le (by omega) (by omega)]
        omega
      subst hz
      have i16 : InB (its f x 3) 16 := ib16 h6 (by clear k h2 h3 h4 h7 r hf; lia)
      refine rg_X0_take_29 hG b x to (its f x 3) _ ⟨a1, r_X0_highOf hG (by omega) h1 ⟨_, rfl, ?_⟩⟩
      have hr2 : rd (m' (a + 6)) (its f x 3) = sz f (its f x 3) := by rw [r.1.2.2.2.2]; exact hr
      rw [if_pos ⟨h6, hc15⟩, hr2]
      refine ⟨fun _ => ⟨_, b7, _, d7, i16, i16, ?_⟩, fun z => absurd (Int32.le_refl _) z⟩
      rintro _ rfl
      refine ⟨_, b4, _, d4, ib16 h5.1 x16, ?_⟩
      rintro _ rfl
      rw [hr2]
      refine k _ (hf.tr ((Fr.ua (by simp)).tr (Fr.ua (by simp)))) (RS.done h3 h4 h2 h5 h6 h7 r ?_ ?_ ?_ ?_ ?_ ?_ ?_ ?_)
      · rw [upa_ne (by omega), upa_ne (by omega)]
      · rw [upa_ne (by omega), upa_ne (by omega)]
      · rw [upa_ne (by omega), upa_ne (by omega)]
      · rw [upa_ne (by omega), upa_ne (by omega)]
      · rw [upa_eq, upa_ne (by omega)]
      · rw [upa_ne (by omega), upa_ne (by omega)]
      · rw [upa_ne (by omega), upa_ne (by omega)]
      · rw [upa_ne (by omega), upa_eq]
    | succ kk ih =>
      intro m' h hh hz hf r
      have h0 := Int32.le_trans hg.1 hh
      have hq : (h + 1).toInt = h.toInt + 1 ∧ h + 1 < sz f (its f x 3) ∧ h ≤ 3 := by
        have c1 := Int32.le_iff_toInt_le.mp hsz.2
        have c2 := Int32.le_iff_toInt_le.mp h0
        rw [show (5 : Int32).toInt = 5 from rfl] at c1
        rw [show (0 : Int32).toInt = 0 from rfl] at c2
        have c3 : h ≤ 3 := Int32.le_iff_toInt_le.mpr (by rw [show (3 : Int32).toInt = 3 from rfl]; omega)
        have e := ti1 h0 (Int32.le_trans c3 (by decide))
        exact ⟨e, Int32.lt_iff_toInt_lt.mpr (by rw [e]; omega), c3⟩
      have hb2 := ar1 h0 hq.2.2 hq.2.1 hsz.2
      obtain ⟨p1, p2, -⟩ := (h4 _ h6 hc15).2 (h + 1) hb2.1 hq.2.1
      have hr2 : rd (m' (a + 6)) (its f x 3) = sz f (its f x 3) := by rw [r.1.2.2.2.2]; exact hr
      have hpl : rd (m' (a + 5)) (5 * its f x 3 + (h + 1)) = pl f (its f x 3) (h + 1) := by
        rw [r.2.2.1 _ (h + 1) h6 hc15 hb2.1 hq.2.1, if_neg (fun z => by have := z.2.2; clear k h2 h3 h4 h7 r hf ih hz; lia)]
      refine rg_X0_take_29 hG b x to (its f x 3) h ⟨a1, r_X0_highOf hG (by omega) h1 ⟨_, rfl, ?_⟩⟩
      rw [if_pos ⟨h6, hc15⟩, hr2]
      refine ⟨fun z => absurd z hb2.2.2.2, fun _ => r_X0_thingAt hG (by omega) h1 ⟨_, rfl, ?_⟩⟩
      rw [hr2, if_pos ⟨h6, hc15, hb2.1, hq.2.1, hb2.2.1⟩, hpl]
      refine c_X0_place hG (by omega) h1 ⟨p1.1, by rw [r.1.1, h2.1.1]; exact p1.2, by clear k h2 h3 h4 h7 r hf ih hz; lia⟩ ⟨h6, hc15⟩ ⟨h0, hb2.2.2.1⟩ ⟨rfl, ?_⟩
      refine ih _ (h + 1) (by clear k h2 h3 h4 h7 r hf ih hz; lia) (by rw [hz, hq.1]; omega) (hf.tr (((Fr.ua (by simp)).tr (Fr.ua (by simp))).tr (Fr.ua (by simp)))) (r.step h3 h4 hlt ⟨h6, hc15⟩ hg.1 hh hq.2.2 hq.2.1)
  have hcc : its f x 3 < 16 := by clear k h2 h3 h4 h7 hloop; lia
  have hx9 : x < m b 9 := by rw [h2.1.1]; exact h5.2
  have hk : (sz f (its f x 3)).toInt = (hgt f x).toInt + ((sz f (its f x 3)).toInt - (hgt f x).toInt - 1).toNat + 1 := by
    have c1 := Int32.lt_iff_toInt_lt.mp hg.2.1
    omega
  obtain ⟨d, rfl⟩ : ∃ e, d = e + 1 := ⟨d - 1, by omega⟩
  refine Cal.of (by decide +kernel) rfl (Nat.le_of_ble_eq_true rfl) (rg_X0_take_0 hG b x to ?_)
  refine ⟨a1, c_X0_cellOf hG (by omega) h1 h2 n16 ⟨_, rfl, ?_⟩⟩
  rw [if_pos h5]
  refine c_X0_has hG (by omega) a1 ⟨_, rfl, ?_⟩
  rw [if_pos ⟨h5.1, hx9, x16⟩]
  refine ⟨fun z => absurd z (by decide), fun _ => c_X5_isCell hG (by omega) ⟨_, rfl, ?_⟩⟩
  rw [if_pos ⟨h6, hcc⟩]
  refine ⟨fun _ => c_X0_under hG (by omega) h1 h2 h3 h4 h5 ⟨_, rfl, ?_⟩, fun z => absurd z (by decide)⟩
  rw [und, if_neg (Int32.not_lt.mpr h6)]
  exact hloop _ m _ (Int32.le_refl _) hk Fr.rf (RS.start h2)
end

