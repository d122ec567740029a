def BXo (sh : List Shp) (ta : Nat → Nat → Option Nat) (b a t1 t2 : Nat) : Prop := sh[b]? = some (.inl 0) ∧ ta b 0 = some t1 ∧ ta b 1 = some t2 ∧ (ta b 2 = some a ∧ ta b 3 = some (a + 1) ∧ ta b 4 = some (a + 2) ∧ ta b 5 = some (a + 3) ∧ ta b 6 = some (a + 4) ∧ ta b 7 = some (a + 5) ∧ ta b 8 = some (a + 6)) ∧ (sh[a]? = some (.inr (0, 16)) ∧ sh[a + 1]? = some (.inr (0, 16)) ∧ sh[a + 2]? = some (.inr (0, 16)) ∧ sh[a + 3]? = some (.inr (0, 16)) ∧ sh[a + 4]? = some (.inr (0, 16)) ∧ sh[a + 5]? = some (.inr (0, 80)) ∧ sh[a + 6]? = some (.inr (0, 16))) ∧ TXo sh ta t1 ∧ TXo sh ta t2 ∧ t2 = t1 + 4 ∧ t2 + 3 < a ∧ b < a ∧ (b < t1 ∨ t2 + 3 < b)
def RB (m : Mem) (b a : Nat) (f : Nat → Int32) : Prop := (m b 9 = rd f 0 ∧ m b 10 = rd f 3 ∧ m b 11 = rd f 4 ∧ m b 12 = rd f 2) ∧ (∀ t, 0 ≤ t → t < rd f 0 → rd (m a) t = its f t 0 ∧ rd (m (a + 1)) t = its f t 1 ∧ rd (m (a + 2)) t = its f t 2 ∧ rd (m (a + 3)) t = its f t 3) ∧ ∀ c, 0 ≤ c → c ≤ 15 → rd (m (a + 6)) c = sz f c ∧ ∀ h, 0 ≤ h → h < sz f c → rd (m (a + 5)) (5 * c + h) = pl f c h ∧ rd (m (a + 4)) (pl f c h) = h
def RT (m : Mem) (t1 t2 : Nat) (f : Nat → Int32) : Prop := TR m t1 0 (tW f 0) (tV f 0) (tN f 0).toNatClampNeg ∧ TR m t2 1 (tW f 1) (tV f 1) (tN f 1).toNatClampNeg
theorem RB.und {m : Mem} {b a : Nat} {f : Nat → Int32} (h : RB m b a f) (h1 : WT f) (h2 : WC f) {x : Int32} (hx : 0 ≤ x ∧ x < rd f 0) (h4 : 0 ≤ its f x 3) : rd (m (a + 4)) x = hgt f x := by
  have h3 := hgt_ok h1 h2 hx h4
  have h5 := ((h.2.2 (its f x 3) h4 (h1.2 x hx.1 hx.2).2.2.2.1.2.1).2 (hgt f x) h3.1 h3.2.1).2
  rw [h3.2.2.1] at h5
  exact h5
section
variable {G : Gm} {d : Nat} {sh : List Shp} {ta : Nat → Nat → Option Nat} {m : Mem} {K : Option Value → Mem → Prop}
theorem c_X5_isPile (hG : fl G = false) (hd : 2 ≤ d) {x : Int32}  (k : K (some (.int (if 1 ≤ x ∧ x ≤ 15 then 1 else 0))) m) : Cal G mX5_isPile d [.int x] sh ta m K := by
  obtain ⟨d, rfl⟩ : ∃ e, d = e + 1 := ⟨d - 1, by omega⟩
  refine Cal.of (by decide +kernel) rfl (Nat.le_of_ble_eq_true rfl) (rg_X5_isPile_0 hG (x) ?_)
  refine c_X5_isCell hG (by omega) ?_
  refine ⟨_, rfl, ?_⟩
  refine ⟨fun c5 => ?_, fun c5 => ?_⟩
  · first | exact k | exact kv k (by grind)
  · refine ⟨fun c6 => ?_, fun c6 => ?_⟩
    · first | exact k | exact kv k (by grind)
    · first | exact k | exact kv k (by grind)
theorem c_X5_within (hG : fl G = false) (hd : 1 ≤ d) {x y z : Int32} (h1 : y ≤ z) (k : K (some (.int (hld x y z))) m) : Cal G mX5_within d [.int x, .int y, .int z] sh ta m K := by
  obtain ⟨d, rfl⟩ : ∃ e, d = e + 1 := ⟨d - 1, by omega⟩
  refine Cal.of (by decide +kernel) rfl (Nat.le_of_ble_eq_true rfl) (rg_X5_within_0 hG (x) (y) (z) ?_)
  first | exact k | exact kv k (by grind [hld])
theorem c_X5_strengthAt (hG : fl G = false) (hd : 1 ≤ d) {x y z : Int32}  (k : K (some (.int (if x - z * y < 0 then 0 else x - z * y))) m) : Cal G mX5_strengthAt d [.int x, .int y, .int z] sh ta m K := by
  obtain ⟨d, rfl⟩ : ∃ e, d = e + 1 := ⟨d - 1, by omega⟩
  refine Cal.of (by decide +kernel) rfl (Nat.le_of_ble_eq_true rfl) (rg_X5_strengthAt_0 hG (x) (y) (z) ?_)
  first | exact k | exact kv k (by grind)
theorem c_X5_holdBy (hG : fl G = false) (hd : 1 ≤ d) {x y : Int32}  (k : K (some (.int (if y ≤ x then 2 else if 2 * x < y then 0 else 1))) m) : Cal G mX5_holdBy d [.int x, .int y] sh ta m K := by
  obtain ⟨d, rfl⟩ : ∃ e, d = e + 1 := ⟨d - 1, by omega⟩
  refine Cal.of (by decide +kernel) rfl (Nat.le_of_ble_eq_true rfl) (rg_X5_holdBy_0 hG (x) (y) ?_)
  refine ⟨fun c1 => ?_, fun c1 => ?_⟩
  · refine ⟨fun c2 => ?_, fun c2 => ?_⟩
    · first | exact k | exact kv k (by grind)
    · first | exact k | exact kv k (by grind)
  · first | exact k | exact kv k (by grind)
theorem c_X0_nearer (hG : fl G = false) (hd : 1 ≤ d) {x : Int32} (h1 : 1 ≤ x) (h2 : x ≤ 15) (k : K (some (.int (nea x))) m) : Cal G mX0_nearer d [.int x] sh ta m K := by
  have e := (nea_ok h1 h2).2.2.1
  clear h1 h2
  rw [← e] at k
  obtain ⟨d, rfl⟩ : ∃ e, d = e + 1 := ⟨d - 1, by omega⟩
  refine Cal.of (by decide +kernel) rfl (Nat.le_of_ble_eq_true rfl) (rg_X0_nearer_0 hG (x) ?_)
  refine ⟨(by first | decide | grind), ?_⟩
  refine ⟨fun c2 => ?_, fun c2 => ?_⟩
  · first | exact k | exact kv k (by grind)
  · first | exact k | exact kv k (by grind)
theorem c_X0_kindOf (hG : fl G = false) (hd : 2 ≤ d) {b a t1 t2 : Nat} {f : Nat → Int32} {x : Int32} (h1 : BXo sh ta b a t1 t2) (h2 : RB m b a f) (h3 : rd f 0 ≤ 16) (k : K (some (.int (if 0 ≤ x ∧ x < rd f 0 then its f x 0 else 0))) m) : Cal G mX0_kindOf d [.ref b, .int x] sh ta m K := by
  obtain ⟨a1, a2, a3, ⟨b1, b2, b3, b4, b5, b6, b7⟩, ⟨d1, d2, d3, d4, d5, d6, d7⟩, -⟩ := h1
  have e1 := h2.1.1
  have e2 := h2.2.1 x
  clear h2
  obtain ⟨d, rfl⟩ : ∃ e, d = e + 1 := ⟨d - 1, by omega⟩
  refine Cal.of (by decide +kernel) rfl (Nat.le_of_ble_eq_true rfl) (rg_X0_kindOf_0 hG (b) (x) ?_)
  refine ⟨(by first | assumption | rfl), ?_⟩
  refine c_X0_has hG (by omega) (by first | assumption | rfl | omega | grind) ?_
  refine ⟨_, rfl, ?_⟩
  refine ⟨fun c6 => ?_, fun c6 => ?_⟩
  · first | exact k | exact kv k (by grind)
  · refine ⟨_, (by first | assumption | rfl), ?_⟩
    refine ⟨_, (by first | assumption | rfl), ?_⟩
    refine ⟨(by (first | assumption | (apply ib502 <;> grind) | (apply ib16 <;> grind) | (apply ib80 <;> grind) | (apply ib672 <;> grind) | (apply ib64 <;> grind) | (apply ib128 <;> grind) | (apply ib124 <;> grind) | (apply ib96 <;> grind) | (apply ib24 <;> grind) | (apply ib60 <;> grind) | (apply ib30 <;> grind) | (apply ib28 <;> grind) | (apply ib7 <;> grind) | (apply ib4 <;> grind) | (apply ib3 <;> grind) | (exact inb (by grind) (by grind) (by omega)))), ?_⟩
    first | exact k | exact kv k (by grind)
theorem c_X0_mOf (hG : fl G = false) (hd : 2 ≤ d) {b a t1 t2 : Nat} {f : Nat → Int32} {x : Int32} (h1 : BXo sh ta b a t1 t2) (h2 : RB m b a f) (h3 : rd f 0 ≤ 16) (k : K (some (.int (if 0 ≤ x ∧ x < rd f 0 then its f x 1 else 0))) m) : Cal G mX0_mOf d [.ref b, .int x] sh ta m K := by
  obtain ⟨a1, a2, a3, ⟨b1, b2, b3, b4, b5, b6, b7⟩, ⟨d1, d2, d3, d4, d5, d6, d7⟩, -⟩ := h1
  have e1 := h2.1.1
  have e2 := h2.2.1 x
  clear h2
  obtain ⟨d, rfl⟩ : ∃ e, d = e + 1 := ⟨d - 1, by omega⟩
  refine Cal.of (by decide +kernel) rfl (Nat.le_of_ble_eq_true rfl) (rg_X0_mOf_0 hG (b) (x) ?_)
  refine ⟨(by first | assumption | rfl), ?_⟩
  refine c_X0_has hG (by omega) (by first | assumption | rfl | omega | grind) ?_
  refine ⟨_, rfl, ?_⟩
  refine ⟨fun c6 => ?_, fun c6 => ?_⟩
  · first | exact k | exact kv k (by grind)
  · refine ⟨_, (by first | assumption | rfl), ?_⟩
    refine ⟨_, (by first | assumption | rfl), ?_⟩
    refine ⟨(by (first | assumption | (apply ib502 <;> grind) | (apply ib16 <;> grind) | (apply ib80 <;> grind) | (apply ib672 <;> grind) | (apply ib64 <;> grind) | (apply ib128 <;> grind) | (apply ib124 <;> grind) | (apply ib96 <;> grind) | (apply ib24 <;> grind) | (apply ib60 <;> grind) | (apply ib30 <;> grind) | (apply ib28 <;> grind) | (apply ib7 <;> grind) | (apply ib4 <;> grind) | (apply ib3 <;> grind) | (exact inb (by grind) (by grind) (by omega)))), ?_⟩
    first | exact k | exact kv k (by grind)
theorem c_X0_worthOf (hG : fl G = false) (hd : 2 ≤ d) {b a t1 t2 : Nat} {f : Nat → Int32} {x : Int32} (h1 : BXo sh ta b a t1 t2) (h2 : RB m b a f) (h3 : rd f 0 ≤ 16) (k : K (some (.int (if 0 ≤ x ∧ x < rd f 0 then its f x 2 else 0))) m) : Cal G mX0_worthOf d [.ref b, .int x] sh ta m K := by
  obtain ⟨a1, a2, a3, ⟨b1, b2, b3, b4, b5, b6, b7⟩, ⟨d1, d2, d3, d4, d5, d6, d7⟩, -⟩ := h1
  have e1 := h2.1.1
  have e2 := h2.2.1 x
  clear h2
  obtain ⟨d, rfl⟩ : ∃ e, d = e + 1 := ⟨d - 1, by omega⟩
  refine Cal.of (by decide +kernel) rfl (Nat.le_of_ble_eq_true rfl) (rg_X0_worthOf_0 hG (b) (x) ?_)
  refine ⟨(by first | assumption | rfl), ?_⟩
  refine c_X0_has hG (by omega) (by first | assumption | rfl | omega | grind) ?_
  refine ⟨_, rfl, ?_⟩
  refine ⟨fun c6 => ?_, fun c6 => ?_⟩
  · first | exact k | exact kv k (by grind)
  · refine ⟨_, (by first | assumption | rfl), ?_⟩
    refine ⟨_, (by first | assumption | rfl), ?_⟩
    refine ⟨(by (first | assumption | (apply ib502 <;> grind) | (apply ib16 <;> grind) | (apply ib80 <;> grind) | (apply ib672 <;> grind) | (apply ib64 <;> grind) | (apply ib128 <;> grind) | (apply ib124 <;> grind) | (apply ib96 <;> grind) | (apply ib24 <;> grind) | (apply ib60 <;> grind) | (apply ib30 <;> grind) | (apply ib28 <;> grind) | (apply ib7 <;> grind) | (apply ib4 <;> grind) | (apply ib3 <;> grind) | (exact inb (by grind) (by grind) (by omega)))), ?_⟩
    first | exact k | exact kv k (by grind)
theorem c_X0_cellOf (hG : fl G = false) (hd : 2 ≤ d) {b a t1 t2 : Nat} {f : Nat → Int32} {x : Int32} (h1 : BXo sh ta b a t1 t2) (h2 : RB m b a f) (h3 : rd f 0 ≤ 16) (k : K (some (.int (if 0 ≤ x ∧ x < rd f 0 then its f x 3 else -2))) m) : Cal G mX0_cellOf d [.ref b, .int x] sh ta m K := by
  obtain ⟨a1, a2, a3, ⟨b1, b2, b3, b4, b5, b6, b7⟩, ⟨d1, d2, d3, d4, d5, d6, d7⟩, -⟩ := h1
  have e1 := h2.1.1
  have e2 := h2.2.1 x
  clear h2
  obtain ⟨d, rfl⟩ : ∃ e, d = e + 1 := ⟨d - 1, by omega⟩
  refine Cal.of (by decide +kernel) rfl (Nat.le_of_ble_eq_true rfl) (rg_X0_cellOf_0 hG (b) (x) ?_)
  refine ⟨(by first | assumption | rfl), ?_⟩
  refine c_X0_has hG (by omega) (by first | assumption | rfl | omega | grind) ?_
  refine ⟨_, rfl, ?_⟩
  refine ⟨fun c6 => ?_, fun c6 => ?_⟩
  · first | exact k | exact kv k (by grind)
  · refine ⟨_, (by first | assumption | rfl), ?_⟩
    refine ⟨_, (by first | assumption | rfl), ?_⟩
    refine ⟨(by (first | assumption | (apply ib502 <;> grind) | (apply ib16 <;> grind) | (apply ib80 <;> grind) | (apply ib672 <;> grind) | (apply ib64 <;> grind) | (apply ib128 <;> grind) | (apply ib124 <;> grind) | (apply ib96 <;> grind) | (apply ib24 <;> grind) | (apply ib60 <;> grind) | (apply ib30 <;> grind) | (apply ib28 <;> grind) | (apply ib7 <;> grind) | (apply ib4 <;> grind) | (apply ib3 <;> grind) | (exact inb (by grind) (by grind) (by omega)))), ?_⟩
    first | exact k | exact kv k (by grind)
theorem c_X0_highOf (hG : fl G = false) (hd : 2 ≤ d) {b a t1 t2 : Nat} {f : Nat → Int32} {x : Int32} (h1 : BXo sh ta b a t1 t2) (h2 : RB m b a f) (k : K (some (.int (if 0 ≤ x ∧ x ≤ 15 then sz f x else 0))) m) : Cal G mX0_highOf d [.ref b, .int x] sh ta m K := by
  obtain ⟨a1, a2, a3, ⟨b1, b2, b3, b4, b5, b6, b7⟩, ⟨d1, d2, d3, d4, d5, d6, d7⟩, -⟩ := h1
  have e2 := fun q w => (h2.2.2 x q w).1
  clear h2
  obtain ⟨d, rfl⟩ : ∃ e, d = e + 1 := ⟨d - 1, by omega⟩
  refine Cal.of (by decide +kernel) rfl (Nat.le_of_ble_eq_true rfl) (rg_X0_highOf_0 hG (b) (x) ?_)
  refine c_X5_isCell hG (by omega) ?_
  refine ⟨_, rfl, ?_⟩
  refine ⟨fun c5 => ?_, fun c5 => ?_⟩
  · first | exact k | exact kv k (by grind)
  · refine ⟨(by first | assumption | rfl), ?_⟩
    refine ⟨_, (by first | assumption | rfl), ?_⟩
    refine ⟨_, (by first | assumption | rfl), ?_⟩
    refine ⟨(by (first | assumption | (apply ib502 <;> grind) | (apply ib16 <;> grind) | (apply ib80 <;> grind) | (apply ib672 <;> grind) | (apply ib64 <;> grind) | (apply ib128 <;> grind) | (apply ib124 <;> grind) | (apply ib96 <;> grind) | (apply ib24 <;> grind) | (apply ib60 <;> grind) | (apply ib30 <;> grind) | (apply ib28 <;> grind) | (apply ib7 <;> grind) | (apply ib4 <;> grind) | (apply ib3 <;> grind) | (exact inb (by grind) (by grind) (by omega)))), ?_⟩
    first | exact k | exact kv k (by grind)
theorem c_X0_thingAt (hG : fl G = false) (hd : 2 ≤ d) {b a t1 t2 : Nat} {f : Nat → Int32} {x y : Int32} (h1 : BXo sh ta b a t1 t2) (h2 : RB m b a f) (h3 : WC f) (k : K (some (.int (if 0 ≤ x ∧ x ≤ 15 ∧ 0 ≤ y ∧ y < sz f x then pl f x y else -1))) m) : Cal G mX0_thingAt d [.ref b, .int x, .int y] sh ta m K := by
  obtain ⟨a1, a2, a3, ⟨b1, b2, b3, b4, b5, b6, b7⟩, ⟨d1, d2, d3, d4, d5, d6, d7⟩, -⟩ := h1
  have e2 := fun q w => (h2.2.2 x q w).1
  have e3 := fun q w q2 w2 => ((h2.2.2 x q w).2 y q2 w2).1
  have e4 := fun q w => (h3 x q w).1
  clear h2 h3
  obtain ⟨d, rfl⟩ : ∃ e, d = e + 1 := ⟨d - 1, by omega⟩
  refine Cal.of (by decide +kernel) rfl (Nat.le_of_ble_eq_true rfl) (rg_X0_thingAt_0 hG (b) (x) (y) ?_)
  refine c_X5_isCell hG (by omega) ?_
  refine ⟨_, rfl, ?_⟩
  refine ⟨fun c5 => ?_, fun c5 => ?_⟩
  · first | exact k | exact kv k (by grind)
  · refine ⟨fun c6 => ?_, fun c6 => ?_⟩
    · first | exact k | exact kv k (by grind)
    · refine ⟨(by first | assumption | rfl), ?_⟩
      refine ⟨_, (by first | assumption | rfl), ?_⟩
      refine ⟨_, (by first | assumption | rfl), ?_⟩
      refine ⟨(by (first | assumption | (apply ib502 <;> grind) | (apply ib16 <;> grind) | (apply ib80 <;> grind) | (apply ib672 <;> grind) | (apply ib64 <;> grind) | (apply ib128 <;> grind) | (apply ib124 <;> grind) | (apply ib96 <;> grind) | (apply ib24 <;> grind) | (apply ib60 <;> grind) | (apply ib30 <;> grind) | (apply ib28 <;> grind) | (apply ib7 <;> grind) | (apply ib4 <;> grind) | (apply ib3 <;> grind) | (exact inb (by grind) (by grind) (by omega)))), ?_⟩
      refine ⟨fun c13 => ?_, fun c13 => ?_⟩
      · first | exact k | exact kv k (by grind)
      · refine ⟨fun c14 => ?_, fun c14 => ?_⟩
        · refine ⟨_, (by first | assumption | rfl), ?_⟩
          refine ⟨_, (by first | assumption | rfl), ?_⟩
          refine ⟨(by (first | assumption | (apply ib502 <;> grind) | (apply ib16 <;> grind) | (apply ib80 <;> grind) | (apply ib672 <;> grind) | (apply ib64 <;> grind) | (apply ib128 <;> grind) | (apply ib124 <;> grind) | (apply ib96 <;> grind) | (apply ib24 <;> grind) | (apply ib60 <;> grind) | (apply ib30 <;> grind) | (apply ib28 <;> grind) | (apply ib7 <;> grind) | (apply ib4 <;> grind) | (apply ib3 <;> grind) | (exact inb (by grind) (by grind) (by omega)))), ?_⟩
          first | exact k | exact kv k (by grind)
        · first | exact k | exact kv k (by grind)
theorem c_X0_top (hG : fl G = false) (hd : 3 ≤ d) {b a t1 t2 : Nat} {f : Nat → Int32} {x : Int32} (h1 : BXo sh ta b a t1 t2) (h2 : RB m b a f) (h3 : WC f) (k : K (some (.int (if 0 ≤ x ∧ x ≤ 15 then upm f x else -1))) m) : Cal G mX0_top d [.ref b, .int x] sh ta m K := by
  have a1 := h1.1
  have e4 := fun q w => (h3 x q w).1
  obtain ⟨d, rfl⟩ : ∃ e, d = e + 1 := ⟨d - 1, by omega⟩
  refine Cal.of (by decide +kernel) rfl (Nat.le_of_ble_eq_true rfl) (rg_X0_top_0 hG (b) (x) ?_)
  refine ⟨(by first | assumption | rfl), ?_⟩
  refine c_X0_highOf hG (by omega) (by first | assumption | rfl | omega | grind) (by first | assumption | rfl | omega | grind) ?_
  refine ⟨_, rfl, ?_⟩
  refine c_X0_thingAt hG (by omega) (by first | assumption | rfl | omega | grind) (by first | assumption | rfl | omega | grind) (by first | assumption | rfl | omega | grind) ?_
  refine ⟨_, rfl, ?_⟩
  clear h1 h2 h3; exact kv k (by grind [upm])
theorem c_X0_under (hG : fl G = false) (hd : 3 ≤ d) {b a t1 t2 : Nat} {f : Nat → Int32} {x : Int32} (h1 : BXo sh ta b a t1 t2) (h2 : RB m b a f) (h3 : WT f) (h4 : WC f) (h5 : 0 ≤ x ∧ x < rd f 0) (k : K (some (.int (und f x))) m) : Cal G mX0_under d [.ref b, .int x] sh ta m K := by
  obtain ⟨a1, a2, a3, ⟨b1, b2, b3, b4, b5, b6, b7⟩, ⟨d1, d2, d3, d4, d5, d6, d7⟩, -⟩ := id h1
  have e1 := h3.1.2
  have e2 := h2.und h3 h4 h5
  have e3 := und
  obtain ⟨d, rfl⟩ : ∃ e, d = e + 1 := ⟨d - 1, by omega⟩
  refine Cal.of (by decide +kernel) rfl (Nat.le_of_ble_eq_true rfl) (rg_X0_under_0 hG b x ?_)
  refine ⟨a1, c_X0_cellOf hG (by omega) h1 h2 e1 ⟨_, rfl, ?_⟩⟩
  rw [if_pos h5]
  clear h1 h2 h3 h4
  refine ⟨fun c => kv k (by rw [und, if_pos c]), fun c => ⟨_, b5, _, d5, ib16 h5.1 (by clear k; grind), kv k ?_⟩⟩
  rw [und, if_neg c]
  exact e2 (Int32.not_lt.mp c)
theorem c_X0_on (hG : fl G = false) (hd : 3 ≤ d) {b a t1 t2 : Nat} {f : Nat → Int32} {x : Int32} (h1 : BXo sh ta b a t1 t2) (h2 : RB m b a f) (h3 : WT f) (h4 : WC f) (h5 : 0 ≤ x ∧ x < rd f 0) (k : K (some (.int (upn f x))) m) : Cal G mX0_on d [.ref b, .int x] sh ta m K := by
  obtain ⟨a1, a2, a3, ⟨b1, b2, b3, b4, b5, b6, b7⟩, ⟨d1, d2, d3, d4, d5, d6, d7⟩, -⟩ := id h1
  have e1 := h3.1.2
  have e2 := h2.und h3 h4 h5
  have e3 := (h3.2 x h5.1 h5.2).2.2.2.1.2.1
  obtain ⟨d, rfl⟩ : ∃ e, d = e + 1 := ⟨d - 1, by omega⟩
  refine Cal.of (by decide +kernel) rfl (Nat.le_of_ble_eq_true rfl) (rg_X0_on_0 hG b x ?_)
  refine ⟨a1, c_X0_cellOf hG (by omega) h1 h2 e1 ⟨_, rfl, ?_⟩⟩
  rw [if_pos h5]
  refine ⟨fun c => kv k (by rw [upn, if_pos c]), fun c => ?_⟩
  have c' := Int32.not_lt.mp c
  refine c_X0_highOf hG (by omega) h1 h2 ⟨_, rfl, _, b5, _, d5, ib16 h5.1 (by clear k h1 h2 h3 h4; grind), kv k ?_⟩
  rw [upn, if_neg c, if_pos ⟨c', e3⟩, e2 c']
end

