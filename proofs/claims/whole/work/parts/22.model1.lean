def its (f : Nat → Int32) (t w : Int32) : Int32 := rd f (8 + 4 * t + w)
def sz (f : Nat → Int32) (c : Int32) : Int32 := rd f (72 + 6 * c)
def pl (f : Nat → Int32) (c h : Int32) : Int32 := rd f (72 + 6 * c + 1 + h)
def upm (f : Nat → Int32) (c : Int32) : Int32 := if sz f c = 0 then -1 else pl f c (sz f c - 1)
def hgt (f : Nat → Int32) (t : Int32) : Int32 := if pl f (its f t 3) 0 = t then 0 else if pl f (its f t 3) 1 = t then 1 else if pl f (its f t 3) 2 = t then 2 else if pl f (its f t 3) 3 = t then 3 else 4
def und (f : Nat → Int32) (t : Int32) : Int32 := if its f t 3 < 0 then -1 else hgt f t
def upn (f : Nat → Int32) (t : Int32) : Int32 := if its f t 3 < 0 then -1 else sz f (its f t 3) - 1 - hgt f t
def stg (f : Nat → Int32) (x : Int32) : Int32 := if rd f 3 - (rd f 2 + x) * rd f 4 < 0 then 0 else rd f 3 - (rd f 2 + x) * rd f 4
def nea (c : Int32) : Int32 := if 0 < c - c / 4 * 4 then c - 1 else c - 4
/-- what holds of the things and the piles -/
def WT (f : Nat → Int32) : Prop := (0 ≤ rd f 0 ∧ rd f 0 ≤ 16) ∧ ∀ t, 0 ≤ t → t < rd f 0 → (0 ≤ its f t 0 ∧ its f t 0 ≤ 6) ∧ (0 ≤ its f t 1 ∧ its f t 1 ≤ 9) ∧ (0 ≤ its f t 2 ∧ its f t 2 ≤ 99) ∧ (-2 ≤ its f t 3 ∧ its f t 3 ≤ 15 ∧ its f t 3 ≠ 0) ∧ (0 ≤ its f t 3 → ∃ h, 0 ≤ h ∧ h < sz f (its f t 3) ∧ pl f (its f t 3) h = t)
def WC (f : Nat → Int32) : Prop := ∀ c, 0 ≤ c → c ≤ 15 → (0 ≤ sz f c ∧ sz f c ≤ 5) ∧ ∀ h, 0 ≤ h → h < sz f c → (0 ≤ pl f c h ∧ pl f c h < rd f 0) ∧ its f (pl f c h) 3 = c ∧ ∀ h2, 0 ≤ h2 → h2 < sz f c → pl f c h2 = pl f c h → h2 = h
section
variable {G : Gm} {d t n i : Nat} {m : Mem} {K : Option Value → Mem → Prop}
theorem c_X6_isOpen (hG : fl G = false) (hd : 2 ≤ d) {x : Int32}  (k : K (some (.int (if 1 ≤ x ∧ x ≤ 15 then 1 else 0))) m) : Cal G mX6_isOpen d [.int x] SH (TA t n i) m K := by
  obtain ⟨d, rfl⟩ : ∃ e, d = e + 1 := ⟨d - 1, by omega⟩
  refine Cal.of (by decide +kernel) rfl (Nat.le_of_ble_eq_true rfl) (rg_X6_isOpen_0 hG (x) ?_)
  refine c_X6_in hG (by omega) ?_
  refine ⟨_, rfl, ?_⟩
  refine ⟨(by grind [isB]), ?_⟩
  first | exact k | exact kv k (by grind)
theorem c_X6_isThing (hG : fl G = false) (hd : 2 ≤ d) {x : Int32} (h1 : 0 ≤ rd (m 76) 0) (h2 : rd (m 76) 0 ≤ 16) (k : K (some (.int (if 0 ≤ x ∧ x < rd (m 76) 0 then 1 else 0))) m) : Cal G mX6_isThing d [.ref 75, .int x] SH (TA t n i) m K := by
  obtain ⟨d, rfl⟩ : ∃ e, d = e + 1 := ⟨d - 1, by omega⟩
  refine Cal.of (by decide +kernel) rfl (Nat.le_of_ble_eq_true rfl) (rg_X6_isThing_0 hG (75) (x) ?_)
  refine ⟨(by first | assumption | rfl), ?_⟩
  refine ⟨_, (by first | assumption | rfl), ?_⟩
  refine ⟨_, (by first | assumption | rfl), ?_⟩
  refine ⟨(by (first | assumption | (apply ib502 <;> grind) | (apply ib16 <;> grind) | (apply ib80 <;> grind) | (apply ib672 <;> grind) | (apply ib64 <;> grind) | (apply ib128 <;> grind) | (apply ib124 <;> grind) | (apply ib96 <;> grind) | (apply ib24 <;> grind) | (apply ib60 <;> grind) | (apply ib30 <;> grind) | (apply ib28 <;> grind) | (apply ib7 <;> grind) | (apply ib4 <;> grind) | (apply ib3 <;> grind) | (exact inb (by grind) (by grind) (by omega)))), ?_⟩
  refine c_X6_in hG (by omega) ?_
  refine ⟨_, rfl, ?_⟩
  refine ⟨(by grind [isB]), ?_⟩
  first | exact k | exact kv k (by grind)
theorem c_X6_its (hG : fl G = false) (hd : 1 ≤ d) {x y : Int32} (h1 : 0 ≤ x ∧ x < 16) (h2 : 0 ≤ y ∧ y < 4) (k : K (some (.int (its (m 76) x y))) m) : Cal G mX6_its d [.ref 75, .int x, .int y] SH (TA t n i) m K := by
  obtain ⟨d, rfl⟩ : ∃ e, d = e + 1 := ⟨d - 1, by omega⟩
  refine Cal.of (by decide +kernel) rfl (Nat.le_of_ble_eq_true rfl) (rg_X6_its_0 hG (75) (x) (y) ?_)
  refine ⟨(by first | assumption | rfl), ?_⟩
  refine ⟨_, (by first | assumption | rfl), ?_⟩
  refine ⟨_, (by first | assumption | rfl), ?_⟩
  refine ⟨(by (first | assumption | (apply ib502 <;> grind [its]) | (apply ib16 <;> grind [its]) | (apply ib80 <;> grind [its]) | (apply ib672 <;> grind [its]) | (apply ib64 <;> grind [its]) | (apply ib128 <;> grind [its]) | (apply ib124 <;> grind [its]) | (apply ib96 <;> grind [its]) | (apply ib24 <;> grind [its]) | (apply ib60 <;> grind [its]) | (apply ib30 <;> grind [its]) | (apply ib28 <;> grind [its]) | (apply ib7 <;> grind [its]) | (apply ib4 <;> grind [its]) | (apply ib3 <;> grind [its]) | (exact inb (by grind [its]) (by grind [its]) (by omega)))), ?_⟩
  first | exact k | exact kv k (by grind [its])
theorem c_X6_size (hG : fl G = false) (hd : 1 ≤ d) {x : Int32} (h1 : 0 ≤ x ∧ x ≤ 15) (k : K (some (.int (sz (m 76) x))) m) : Cal G mX6_size d [.ref 75, .int x] SH (TA t n i) m K := by
  obtain ⟨d, rfl⟩ : ∃ e, d = e + 1 := ⟨d - 1, by omega⟩
  refine Cal.of (by decide +kernel) rfl (Nat.le_of_ble_eq_true rfl) (rg_X6_size_0 hG (75) (x) ?_)
  refine ⟨(by first | assumption | rfl), ?_⟩
  refine ⟨_, (by first | assumption | rfl), ?_⟩
  refine ⟨_, (by first | assumption | rfl), ?_⟩
  refine ⟨(by (first | assumption | (apply ib502 <;> grind [sz]) | (apply ib16 <;> grind [sz]) | (apply ib80 <;> grind [sz]) | (apply ib672 <;> grind [sz]) | (apply ib64 <;> grind [sz]) | (apply ib128 <;> grind [sz]) | (apply ib124 <;> grind [sz]) | (apply ib96 <;> grind [sz]) | (apply ib24 <;> grind [sz]) | (apply ib60 <;> grind [sz]) | (apply ib30 <;> grind [sz]) | (apply ib28 <;> grind [sz]) | (apply ib7 <;> grind [sz]) | (apply ib4 <;> grind [sz]) | (apply ib3 <;> grind [sz]) | (exact inb (by grind [sz]) (by grind [sz]) (by omega)))), ?_⟩
  first | exact k | exact kv k (by grind [sz])
theorem c_X6_at1 (hG : fl G = false) (hd : 1 ≤ d) {x y : Int32} (h1 : 0 ≤ x ∧ x ≤ 15) (h2 : 0 ≤ y ∧ y < 5) (k : K (some (.int (pl (m 76) x y))) m) : Cal G mX6_at1 d [.ref 75, .int x, .int y] SH (TA t n i) m K := by
  obtain ⟨d, rfl⟩ : ∃ e, d = e + 1 := ⟨d - 1, by omega⟩
  refine Cal.of (by decide +kernel) rfl (Nat.le_of_ble_eq_true rfl) (rg_X6_at1_0 hG (75) (x) (y) ?_)
  refine ⟨(by first | assumption | rfl), ?_⟩
  refine ⟨_, (by first | assumption | rfl), ?_⟩
  refine ⟨_, (by first | assumption | rfl), ?_⟩
  refine ⟨(by (first | assumption | (apply ib502 <;> grind [pl]) | (apply ib16 <;> grind [pl]) | (apply ib80 <;> grind [pl]) | (apply ib672 <;> grind [pl]) | (apply ib64 <;> grind [pl]) | (apply ib128 <;> grind [pl]) | (apply ib124 <;> grind [pl]) | (apply ib96 <;> grind [pl]) | (apply ib24 <;> grind [pl]) | (apply ib60 <;> grind [pl]) | (apply ib30 <;> grind [pl]) | (apply ib28 <;> grind [pl]) | (apply ib7 <;> grind [pl]) | (apply ib4 <;> grind [pl]) | (apply ib3 <;> grind [pl]) | (exact inb (by grind [pl]) (by grind [pl]) (by omega)))), ?_⟩
  first | exact k | exact kv k (by grind [pl])
theorem c_X6_uppermost (hG : fl G = false) (hd : 2 ≤ d) {x : Int32} (h1 : 0 ≤ x ∧ x ≤ 15) (h2 : 0 ≤ sz (m 76) x ∧ sz (m 76) x ≤ 5) (k : K (some (.int (upm (m 76) x))) m) : Cal G mX6_uppermost d [.ref 75, .int x] SH (TA t n i) m K := by
  obtain ⟨d, rfl⟩ : ∃ e, d = e + 1 := ⟨d - 1, by omega⟩
  refine Cal.of (by decide +kernel) rfl (Nat.le_of_ble_eq_true rfl) (rg_X6_uppermost_0 hG (75) (x) ?_)
  refine ⟨(by first | assumption | rfl), ?_⟩
  refine c_X6_size hG (by omega) (by first | assumption | rfl | omega | grind [upm]) ?_
  refine ⟨_, rfl, ?_⟩
  refine ⟨fun c6 => ?_, fun c6 => ?_⟩
  · refine c_X6_size hG (by omega) (by first | assumption | rfl | omega | grind [upm]) ?_
    refine ⟨_, rfl, ?_⟩
    refine c_X6_at1 hG (by omega) (by first | assumption | rfl | omega | grind [upm]) (by first | assumption | rfl | omega | grind [upm]) ?_
    refine ⟨_, rfl, ?_⟩
    first | exact k | exact kv k (by grind [upm])
  · first | exact k | exact kv k (by grind [upm])
theorem c_X6_change1 (hG : fl G = false) (hd : 1 ≤ d) {x y : Int32} (h1 : 0 ≤ x ∧ x < 502) (k : K (some (.int (rd (m 76) x))) (set1 m 76 (wr (m 76) x y))) : Cal G mX6_change1 d [.ref 75, .int x, .int y] SH (TA t n i) m K := by
  obtain ⟨d, rfl⟩ : ∃ e, d = e + 1 := ⟨d - 1, by omega⟩
  refine Cal.of (by decide +kernel) rfl (Nat.le_of_ble_eq_true rfl) (rg_X6_change1_0 hG (75) (x) (y) ?_)
  refine ⟨(by first | assumption | rfl), ?_⟩
  refine ⟨_, (by first | assumption | rfl), ?_⟩
  refine ⟨_, (by first | assumption | rfl), ?_⟩
  refine ⟨(by (first | assumption | (apply ib502 <;> grind) | (apply ib16 <;> grind) | (apply ib80 <;> grind) | (apply ib672 <;> grind) | (apply ib64 <;> grind) | (apply ib128 <;> grind) | (apply ib124 <;> grind) | (apply ib96 <;> grind) | (apply ib24 <;> grind) | (apply ib60 <;> grind) | (apply ib30 <;> grind) | (apply ib28 <;> grind) | (apply ib7 <;> grind) | (apply ib4 <;> grind) | (apply ib3 <;> grind) | (exact inb (by grind) (by grind) (by omega)))), ?_⟩
  refine ⟨(by (first | assumption | (apply ib502 <;> grind) | (apply ib16 <;> grind) | (apply ib80 <;> grind) | (apply ib672 <;> grind) | (apply ib64 <;> grind) | (apply ib128 <;> grind) | (apply ib124 <;> grind) | (apply ib96 <;> grind) | (apply ib24 <;> grind) | (apply ib60 <;> grind) | (apply ib30 <;> grind) | (apply ib28 <;> grind) | (apply ib7 <;> grind) | (apply ib4 <;> grind) | (apply ib3 <;> grind) | (exact inb (by grind) (by grind) (by omega)))), ?_⟩
  rintro _ rfl
  rw [upa_set]; exact k
theorem c_X6_error (hG : fl G = false) (hd : 1 ≤ d) {x : Int32} (h1 : 0 ≤ x ∧ x < 7) (k : K (some (.int (-1000000000 - x))) (set1 m 79 (wr (m 79) x (rd (m 79) x + 1)))) : Cal G mX6_error d [.ref 75, .int x] SH (TA t n i) m K := by
  obtain ⟨d, rfl⟩ : ∃ e, d = e + 1 := ⟨d - 1, by omega⟩
  refine Cal.of (by decide +kernel) rfl (Nat.le_of_ble_eq_true rfl) (rg_X6_error_0 hG (75) (x) ?_)
  refine ⟨(by first | assumption | rfl), ?_⟩
  refine ⟨_, (by first | assumption | rfl), ?_⟩
  refine ⟨_, (by first | assumption | rfl), ?_⟩
  refine ⟨(by (first | assumption | (apply ib502 <;> grind) | (apply ib16 <;> grind) | (apply ib80 <;> grind) | (apply ib672 <;> grind) | (apply ib64 <;> grind) | (apply ib128 <;> grind) | (apply ib124 <;> grind) | (apply ib96 <;> grind) | (apply ib24 <;> grind) | (apply ib60 <;> grind) | (apply ib30 <;> grind) | (apply ib28 <;> grind) | (apply ib7 <;> grind) | (apply ib4 <;> grind) | (apply ib3 <;> grind) | (exact inb (by grind) (by grind) (by omega)))), ?_⟩
  refine ⟨(by (first | assumption | (apply ib502 <;> grind) | (apply ib16 <;> grind) | (apply ib80 <;> grind) | (apply ib672 <;> grind) | (apply ib64 <;> grind) | (apply ib128 <;> grind) | (apply ib124 <;> grind) | (apply ib96 <;> grind) | (apply ib24 <;> grind) | (apply ib60 <;> grind) | (apply ib30 <;> grind) | (apply ib28 <;> grind) | (apply ib7 <;> grind) | (apply ib4 <;> grind) | (apply ib3 <;> grind) | (exact inb (by grind) (by grind) (by omega)))), ?_⟩
  rintro _ rfl
  rw [upa_set]; exact k
theorem c_X6_nearer (hG : fl G = false) (hd : 1 ≤ d) {x : Int32}  (k : K (some (.int (nea x))) m) : Cal G mX6_nearer d [.int x] SH (TA t n i) m K := by
  obtain ⟨d, rfl⟩ : ∃ e, d = e + 1 := ⟨d - 1, by omega⟩
  refine Cal.of (by decide +kernel) rfl (Nat.le_of_ble_eq_true rfl) (rg_X6_nearer_0 hG (x) ?_)
  refine ⟨(by first | decide | grind [nea]), ?_⟩
  refine ⟨fun c2 => ?_, fun c2 => ?_⟩
  · first | exact k | exact kv k (by grind [nea])
  · first | exact k | exact kv k (by grind [nea])
theorem c_X6_strengthBehind (hG : fl G = false) (hd : 1 ≤ d) {x : Int32}  (k : K (some (.int (stg (m 76) x))) m) : Cal G mX6_strengthBehind d [.ref 75, .int x] SH (TA t n i) m K := by
  obtain ⟨d, rfl⟩ : ∃ e, d = e + 1 := ⟨d - 1, by omega⟩
  refine Cal.of (by decide +kernel) rfl (Nat.le_of_ble_eq_true rfl) (rg_X6_strengthBehind_0 hG (75) (x) ?_)
  refine ⟨(by first | assumption | rfl), ?_⟩
  refine ⟨_, (by first | assumption | rfl), ?_⟩
  refine ⟨_, (by first | assumption | rfl), ?_⟩
  refine ⟨(by (first | assumption | (apply ib502 <;> grind [stg]) | (apply ib16 <;> grind [stg]) | (apply ib80 <;> grind [stg]) | (apply ib672 <;> grind [stg]) | (apply ib64 <;> grind [stg]) | (apply ib128 <;> grind [stg]) | (apply ib124 <;> grind [stg]) | (apply ib96 <;> grind [stg]) | (apply ib24 <;> grind [stg]) | (apply ib60 <;> grind [stg]) | (apply ib30 <;> grind [stg]) | (apply ib28 <;> grind [stg]) | (apply ib7 <;> grind [stg]) | (apply ib4 <;> grind [stg]) | (apply ib3 <;> grind [stg]) | (exact inb (by grind [stg]) (by grind [stg]) (by omega)))), ?_⟩
  refine ⟨(by (first | assumption | (apply ib502 <;> grind [stg]) | (apply ib16 <;> grind [stg]) | (apply ib80 <;> grind [stg]) | (apply ib672 <;> grind [stg]) | (apply ib64 <;> grind [stg]) | (apply ib128 <;> grind [stg]) | (apply ib124 <;> grind [stg]) | (apply ib96 <;> grind [stg]) | (apply ib24 <;> grind [stg]) | (apply ib60 <;> grind [stg]) | (apply ib30 <;> grind [stg]) | (apply ib28 <;> grind [stg]) | (apply ib7 <;> grind [stg]) | (apply ib4 <;> grind [stg]) | (apply ib3 <;> grind [stg]) | (exact inb (by grind [stg]) (by grind [stg]) (by omega)))), ?_⟩
  refine ⟨(by (first | assumption | (apply ib502 <;> grind [stg]) | (apply ib16 <;> grind [stg]) | (apply ib80 <;> grind [stg]) | (apply ib672 <;> grind [stg]) | (apply ib64 <;> grind [stg]) | (apply ib128 <;> grind [stg]) | (apply ib124 <;> grind [stg]) | (apply ib96 <;> grind [stg]) | (apply ib24 <;> grind [stg]) | (apply ib60 <;> grind [stg]) | (apply ib30 <;> grind [stg]) | (apply ib28 <;> grind [stg]) | (apply ib7 <;> grind [stg]) | (apply ib4 <;> grind [stg]) | (apply ib3 <;> grind [stg]) | (exact inb (by grind [stg]) (by grind [stg]) (by omega)))), ?_⟩
  refine ⟨fun c9 => ?_, fun c9 => ?_⟩
  · first | exact k | exact kv k (by grind [stg])
  · first | exact k | exact kv k (by grind [stg])
theorem c_X6_heightOf (hG : fl G = false) (hd : 2 ≤ d) {x : Int32} (h1 : WT (m 76)) (h2 : WC (m 76)) (h3 : 0 ≤ x ∧ x < rd (m 76) 0) (h4 : 0 ≤ its (m 76) x 3) (k : K (some (.int (hgt (m 76) x))) m) : Cal G mX6_heightOf d [.ref 75, .int x] SH (TA t n i) m K := by
  obtain ⟨-, -, -, ⟨-, e3, e4⟩, e5⟩ := h1.2 x h3.1 h3.2
  obtain ⟨g, g0, g1, g2⟩ := e5 h4
  have g3 := (h2 _ h4 e3).1.2
  have e0 := h1.1.2
  generalize ec : its (m 76) x 3 = c at *
  have hx : hgt (m 76) x = if pl (m 76) c 0 = x then 0 else if pl (m 76) c 1 = x then 1 else if pl (m 76) c 2 = x then 2 else if pl (m 76) c 3 = x then 3 else 4 := by rw [hgt, ec]
  rw [hx] at k
  clear hx h1 h2 e5
  have hloop : ∀ h : Int32, h ≤ 4 → 0 ≤ h → (∀ j, 0 ≤ j → j < h → pl (m 76) c j ≠ x) → WP G (rmD d 0 0) mX6_heightOf (QC G SH (TA t n i) K) 0 0 9 [(0, .ref 75), (1, .int x), (2, .int c), (3, .int h)] [] (SH, TA t n i, m) := by
    obtain ⟨d, rfl⟩ : ∃ e, d = e + 1 := ⟨d - 1, by omega⟩
    refine i32_down ?_ ?_
    · intro h0 hj
      have a0 := hj 0 (by decide) (by decide)
      have a1 := hj 1 (by decide) (by decide)
      have a2 := hj 2 (by decide) (by decide)
      have a3 := hj 3 (by decide) (by decide)
      refine rg_X6_heightOf_9 hG 75 x c 4 ?_
      refine ⟨rfl, c_X6_at1 hG (by omega) ⟨h4, e3⟩ (by decide) ⟨_, rfl, fun c => ?_, fun c => ?_⟩⟩
      · rw [if_neg a0, if_neg a1, if_neg a2, if_neg a3] at k; exact k
      · exfalso
        have : g = 0 ∨ g = 1 ∨ g = 2 ∨ g = 3 ∨ g = 4 := by clear hj; grind
        rcases this with rfl | rfl | rfl | rfl | rfl <;> contradiction
    · intro h hh ih h0 hj
      refine rg_X6_heightOf_9 hG 75 x c h ?_
      refine ⟨rfl, c_X6_at1 hG (by omega) ⟨h4, e3⟩ (by clear hj ih; grind) ⟨_, rfl, fun c => ?_, fun c => ?_⟩⟩
      · have : h = 0 ∨ h = 1 ∨ h = 2 ∨ h = 3 := by clear hj ih; grind
        rcases this with rfl | rfl | rfl | rfl
        · rw [if_pos c] at k; exact k
        · rw [if_neg (hj 0 (by decide) (by decide)), if_pos c] at k; exact k
        · rw [if_neg (hj 0 (by decide) (by decide)), if_neg (hj 1 (by decide) (by decide)), if_pos c] at k; exact k
        · rw [if_neg (hj 0 (by decide) (by decide)), if_neg (hj 1 (by decide) (by decide)), if_neg (hj 2 (by decide) (by decide)), if_pos c] at k; exact k
      · refine ih (by clear hj ih; grind) (fun j j0 j1 => ?_)
        by_cases hq : j = h
        · rw [hq]; exact c
        · exact hj j j0 (by clear hj ih; grind)
  obtain ⟨d, rfl⟩ : ∃ e, d = e + 1 := ⟨d - 1, by omega⟩
  refine Cal.of (by decide +kernel) rfl (Nat.le_of_ble_eq_true rfl) (rg_X6_heightOf_0 hG 75 x ?_)
  refine ⟨rfl, c_X6_its hG (by omega) ⟨h3.1, by clear hloop; grind⟩ (by decide) ⟨_, rfl, ?_⟩⟩
  rw [ec]
  exact hloop 0 (by decide) (by decide) (fun j j0 j1 => absurd j1 (Int32.not_lt.mpr j0))
theorem c_X6_under (hG : fl G = false) (hd : 3 ≤ d) {x : Int32} (h1 : WT (m 76)) (h2 : WC (m 76)) (h3 : 0 ≤ x ∧ x < rd (m 76) 0) (k : K (some (.int (und (m 76) x))) m) : Cal G mX6_under d [.ref 75, .int x] SH (TA t n i) m K := by
  have e0 := h1.1
  obtain ⟨d, rfl⟩ : ∃ e, d = e + 1 := ⟨d - 1, by omega⟩
  refine Cal.of (by decide +kernel) rfl (Nat.le_of_ble_eq_true rfl) (rg_X6_under_0 hG (75) (x) ?_)
  refine ⟨(by first | assumption | rfl), ?_⟩
  refine c_X6_its hG (by omega) (by first | assumption | rfl | omega | grind [und]) (by first | assumption | rfl | omega | grind [und]) ?_
  refine ⟨_, rfl, ?_⟩
  refine ⟨fun c6 => ?_, fun c6 => ?_⟩
  · refine c_X6_heightOf hG (by omega) (by first | assumption | rfl | omega | grind [und]) (by first | assumption | rfl | omega | grind [und]) (by first | assumption | rfl | omega | grind [und]) (by first | assumption | rfl | omega | grind [und]) ?_
    refine ⟨_, rfl, ?_⟩
    first | exact k | exact kv k (by grind [und])
  · first | exact k | exact kv k (by grind [und])
theorem c_X6_upon (hG : fl G = false) (hd : 3 ≤ d) {x : Int32} (h1 : WT (m 76)) (h2 : WC (m 76)) (h3 : 0 ≤ x ∧ x < rd (m 76) 0) (k : K (some (.int (upn (m 76) x))) m) : Cal G mX6_upon d [.ref 75, .int x] SH (TA t n i) m K := by
  have e0 := h1.1
  have e1 := (h1.2 x h3.1 h3.2).2.2.2.1
  obtain ⟨d, rfl⟩ : ∃ e, d = e + 1 := ⟨d - 1, by omega⟩
  refine Cal.of (by decide +kernel) rfl (Nat.le_of_ble_eq_true rfl) (rg_X6_upon_0 hG (75) (x) ?_)
  refine ⟨(by first | assumption | rfl), ?_⟩
  refine c_X6_its hG (by omega) (by first | assumption | rfl | omega | grind [upn]) (by first | assumption | rfl | omega | grind [upn]) ?_
  refine ⟨_, rfl, ?_⟩
  refine ⟨fun c6 => ?_, fun c6 => ?_⟩
  · refine c_X6_its hG (by omega) (by first | assumption | rfl | omega | grind [upn]) (by first | assumption | rfl | omega | grind [upn]) ?_
    refine ⟨_, rfl, ?_⟩
    refine c_X6_size hG (by omega) (by first | assumption | rfl | omega | grind [upn]) ?_
    refine ⟨_, rfl, ?_⟩
    refine c_X6_heightOf hG (by omega) (by first | assumption | rfl | omega | grind [upn]) (by first | assumption | rfl | omega | grind [upn]) (by first | assumption | rfl | omega | grind [upn]) (by first | assumption | rfl | omega | grind [upn]) ?_
    refine ⟨_, rfl, ?_⟩
    first | exact k | exact kv k (by grind [upn])
  · first | exact k | exact kv k (by grind [upn])
end

