-- 77.parse
/-! the reading of a text: what both sides hold at a place -/
def psOf (u : Nat) (q : Int32 × Int32) : Int32 := enc (Int32.ofNat u) q.1 q.2
-- the tape, and a place on it
def psT (n : Nat) (w : Nat → Int32) (p : Nat) (m : Mem) : Prop := m 1 1 = Int32.ofNat n ∧ (∀ j, j < n → m 2 j = w j) ∧ m 9 3 = Int32.ofNat p
-- the class at a place, with the steps told so far
def psS (n : Nat) (w : Nat → Int32) (u p : Nat) (E : List (Int32 × Int32)) (m : Mem) : Prop := psT n w p m ∧ m 9 4 = 0 ∧ m 17 1 = Int32.ofNat E.length ∧ ∀ k, k < E.length → m 18 k = psOf u (E.getD k (0, 0))
-- the class after a fault
def psF (n : Nat) (w : Nat → Int32) (p : Nat) (m : Mem) : Prop := psT n w p m ∧ ¬ m 9 4 = 0 ∧ 0 ≤ m 17 1
def lkb (n : Nat) (w : Nat → Int32) (p : Nat) : Int32 := if p < n then w p else -1
-- the model at a place
def qsS (f : Nat → Int32) (u p o : Nat) (E : List (Int32 × Int32)) (m : Mem) : Prop := m 76 = f ∧ m 75 5 = Int32.ofNat p ∧ m 75 6 = Int32.ofNat o ∧ m 75 7 = Int32.ofNat E.length ∧ m 75 8 = Int32.ofNat u ∧ ∀ k, k < E.length → m 80 (2 * k) = (E.getD k (0, 0)).1 ∧ m 80 (2 * k + 1) = (E.getD k (0, 0)).2
def qsF (m m' : Mem) : Prop := Fr [75, 80] m m' ∧ ∀ j, j ≠ 5 → j ≠ 6 → j ≠ 7 → m' 75 j = m 75 j
def psX (n : Nat) (w : Nat → Int32) (u : Nat) (f : Nat → Int32) : Prop := n ≤ 60 ∧ (∀ j, j < n → 0 ≤ w j ∧ w j ≤ 255) ∧ rd f 5 = Int32.ofNat n ∧ (∀ j, j < n → f (418 + j) = w j) ∧ u < 2
set_option maxHeartbeats 4000000 in
theorem qsF.rf {m : Mem} : qsF m m := ⟨Fr.rf, fun _ _ _ _ => rfl⟩
set_option maxHeartbeats 4000000 in
theorem qsF.tr {m m' m'' : Mem} (h : qsF m m') (g : qsF m' m'') : qsF m m'' := ⟨h.1.tr g.1, fun j a b c => (g.2 j a b c).trans (h.2 j a b c)⟩
set_option maxHeartbeats 4000000 in
theorem gd_l {E : List (Int32 × Int32)} {q : Int32 × Int32} {k : Nat} (h : k < E.length) : (E ++ [q]).getD k (0, 0) = E.getD k (0, 0) := by simp [List.getElem?_append, h]
set_option maxHeartbeats 4000000 in
theorem gd_r {E : List (Int32 × Int32)} {q : Int32 × Int32} : (E ++ [q]).getD E.length (0, 0) = q := by simp
set_option maxHeartbeats 4000000 in
theorem psT.fr {n p : Nat} {w : Nat → Int32} {m m' : Mem} (h : psT n w p m) (hf : Fr [17, 18] m m') : psT n w p m' := by
  unfold psT at h ⊢
  rw [hf 1 (by decide), hf 2 (by decide), hf 9 (by decide)]
  exact h
set_option maxHeartbeats 4000000 in
theorem psT.inc {n p : Nat} {w : Nat → Int32} {m : Mem} (h : psT n w p m) : psT n w (p + 1) (up2 m 9 3 (m 9 3 + 1)) := by
  refine ⟨h.1, h.2.1, ?_⟩
  rw [up2_eq, if_pos rfl, h.2.2]
  exact o_add p 1
set_option maxHeartbeats 4000000 in
theorem psS.inc {n p u : Nat} {w : Nat → Int32} {E : List (Int32 × Int32)} {m : Mem} (h : psS n w u p E m) : psS n w u (p + 1) E (up2 m 9 3 (m 9 3 + 1)) := ⟨h.1.inc, h.2.1, h.2.2.1, h.2.2.2⟩
set_option maxHeartbeats 4000000 in
theorem psF.fr {n p : Nat} {w : Nat → Int32} {m m' : Mem} (h : psF n w p m) (hf : Fr [17, 18] m m') (h0 : 0 ≤ m' 17 1) : psF n w p m' := ⟨h.1.fr hf, by rw [hf 9 (by decide)]; exact h.2.1, h0⟩
set_option maxHeartbeats 4000000 in
theorem psS.app {n p u : Nat} {w : Nat → Int32} {E : List (Int32 × Int32)} {q : Int32 × Int32} {m m' : Mem} (h : psS n w u p E m) (hf : Fr [17, 18] m m') (e : m' 17 1 = Int32.ofNat (E.length + 1) ∧ m' 18 E.length = psOf u q ∧ ∀ k, k < E.length → m' 18 k = m 18 k) : psS n w u p (E ++ [q]) m' := by
  refine ⟨h.1.fr hf, by rw [hf 9 (by decide)]; exact h.2.1, by rw [e.1, List.length_append]; rfl, fun k hk => ?_⟩
  rw [List.length_append, show [q].length = 1 from rfl] at hk
  by_cases c : k < E.length
  · rw [gd_l c, e.2.2 k c]; exact h.2.2.2 k c
  · rw [show k = E.length by omega, gd_r]; exact e.2.1
section
variable {G : Gm} {d n p u t a i : Nat} {w f : Nat → Int32} {m : Mem} {K : Option Value → Mem → Prop}
set_option maxHeartbeats 4000000 in
theorem c_tapeAt (hG : fl G = false) (hd : 3 ≤ d) (h : psT n w p m) (hn : n ≤ 60) (hp : p < n) (k : K (some (.int (w p))) m) : Cal G mX2_at d [.ref 1, .int (m 9 3)] SH (TA 1 (1003 + u) 16) m K := by
  refine c_X2_at hG (by omega) (b := 1) (n := 60) rfl rfl rfl (by rw [h.1]; exact (o_le (by omega) (by decide)).mpr hn) (by decide) ?_
  show K (some (.int (if 0 ≤ m 9 3 ∧ m 9 3 < m 1 1 then rd (m 2) (m 9 3) else 0))) m
  rw [h.2.2, h.1, if_pos ⟨o_0 p (by omega), (o_lt (by omega) (by omega)).mpr hp⟩, rd_o (by omega), h.2.1 p hp]
  exact k
set_option maxHeartbeats 4000000 in
theorem psT.ge {n p : Nat} {w : Nat → Int32} {m : Mem} (h : psT n w p m) (hn : n ≤ 60) (hp : p ≤ n) : m 1 1 ≤ m 9 3 ↔ ¬ p < n := by
  rw [h.1, h.2.2, o_le (by omega) (by omega)]
  omega
set_option maxHeartbeats 4000000 in
theorem c_isN (hG : fl G = false) (hd : 4 ≤ d) (h : psT n w p m) (hn : n ≤ 60) (hp : p ≤ n) {c : Int32} (hc : c ≠ -1) (k : K (some (.int (if m 9 4 = 0 ∧ lkb n w p = c then 1 else 0))) m) : Cal G mX1_isNext d [.ref 9, .int c] SH (TA 1 (1003 + u) 16) m K := by
  obtain ⟨d, rfl⟩ : ∃ e, d = e + 1 := ⟨d - 1, by omega⟩
  refine Cal.of (by decide +kernel) rfl (Nat.le_of_ble_eq_true rfl) (rg_X1_isNext_0 hG 9 c ⟨rfl, fun e => ?_, fun e => ⟨1, rfl, rfl, fun c1 => ?_, fun c1 => ?_⟩⟩)
  · rw [if_neg (fun q => e q.1)] at k; exact k
  · rw [lkb, if_neg ((h.ge hn hp).mp c1), if_neg (fun q => hc q.2.symm)] at k; exact k
  · have hlt : p < n := Decidable.by_contra fun q => c1 ((h.ge hn hp).mpr q)
    rw [lkb, if_pos hlt] at k
    refine c_tapeAt hG (by omega) h hn hlt ⟨_, rfl, fun c2 => ?_, fun c2 => ?_⟩
    · rw [if_neg (fun q => c2 q.2)] at k; exact k
    · rw [if_pos ⟨e, c2⟩] at k; exact k
set_option maxHeartbeats 4000000 in
theorem c_isD (hG : fl G = false) (hd : 4 ≤ d) (h : psT n w p m) (hn : n ≤ 60) (hp : p ≤ n) (k : K (some (.int (if m 9 4 = 0 ∧ 48 ≤ lkb n w p ∧ lkb n w p ≤ 57 then 1 else 0))) m) : Cal G mX1_isDigit d [.ref 9] SH (TA 1 (1003 + u) 16) m K := by
  obtain ⟨d, rfl⟩ : ∃ e, d = e + 1 := ⟨d - 1, by omega⟩
  refine Cal.of (by decide +kernel) rfl (Nat.le_of_ble_eq_true rfl) (rg_X1_isDigit_0 hG 9 ⟨rfl, fun e => ?_, fun e => ⟨1, rfl, rfl, fun c1 => ?_, fun c1 => ?_⟩⟩)
  · rw [if_neg (fun q => e q.1)] at k; exact k
  · rw [lkb, if_neg ((h.ge hn hp).mp c1), if_neg (fun q => absurd q.2.1 (by decide))] at k; exact k
  · have hlt : p < n := Decidable.by_contra fun q => c1 ((h.ge hn hp).mpr q)
    rw [lkb, if_pos hlt] at k
    refine c_tapeAt hG (by omega) h hn hlt ⟨_, rfl, fun c2 => ?_, fun c2 => ?_⟩
    · rw [if_neg (fun q => Int32.not_le.mpr c2 q.2.1)] at k; exact k
    · refine c_tapeAt hG (by omega) h hn hlt ⟨_, rfl, fun c3 => ?_, fun c3 => ?_⟩
      · rw [if_neg (fun q => Int32.not_le.mpr c3 q.2.2)] at k; exact k
      · rw [if_pos ⟨e, Int32.not_lt.mp c2, Int32.not_lt.mp c3⟩] at k; exact k
set_option maxHeartbeats 4000000 in
theorem nmO_no : nmO u (-1) = -1 := by
  unfold nmO
  split <;> rfl
set_option maxHeartbeats 4000000 in
theorem c_isM (hG : fl G = false) (hd : 5 ≤ d) (h : psT n w p m) (hx : psX n w u f) (hp : p ≤ n) (k : K (some (.int (if m 9 4 = 0 ∧ 0 ≤ nmO u (lkb n w p) then 1 else 0))) m) : Cal G mX1_isName d [.ref 9] SH (TA 1 (1003 + u) 16) m K := by
  obtain ⟨d, rfl⟩ : ∃ e, d = e + 1 := ⟨d - 1, by omega⟩
  have hn := hx.1
  refine Cal.of (by decide +kernel) rfl (Nat.le_of_ble_eq_true rfl) (rg_X1_isName_0 hG 9 ⟨rfl, fun e => ?_, fun e => ⟨1, rfl, rfl, fun c1 => ?_, fun c1 => ⟨_, rfl, ?_⟩⟩⟩)
  · rw [if_neg (fun q => e q.1)] at k; exact k
  · rw [lkb, if_neg ((h.ge hn hp).mp c1), nmO_no, if_neg (fun q => absurd q.2 (by decide))] at k; exact k
  · have hlt : p < n := Decidable.by_contra fun q => c1 ((h.ge hn hp).mpr q)
    rw [lkb, if_pos hlt] at k
    have hb := hx.2.1 p hlt
    refine c_tapeAt hG (by omega) h hn hlt ⟨_, rfl, isTx_k (by have := hx.2.2.2.2; omega), c_names (by omega) hx.2.2.2.2 hb.1 hb.2 ⟨_, rfl, fun c2 => ?_, fun c2 => ?_⟩⟩
    · rw [if_neg (fun q => Int32.not_lt.mpr q.2 c2)] at k; exact k
    · rw [if_pos ⟨e, Int32.not_lt.mp c2⟩] at k; exact k
set_option maxHeartbeats 4000000 in
theorem c_rowAdd (hG : fl G = false) (hd : 2 ≤ d) {x : Int32} (h0 : 0 ≤ m 17 1) (k : ∀ m', Fr [17, 18] m m' → 0 ≤ m' 17 1 → (∀ L, L < 60 → m 17 1 = Int32.ofNat L → m' 17 1 = Int32.ofNat (L + 1) ∧ m' 18 L = x ∧ ∀ k, k < L → m' 18 k = m 18 k) → K none m') : Cal G mX2_add d [.ref 17, .int x] SH (TA t a i) m K := by
  refine c_X2_add hG (by omega) (b := 17) (n := 60) rfl rfl rfl (by decide) h0 ?_
  by_cases c : m 17 1 < Int32.ofNat 60
  · rw [if_pos c]
    refine k _ (fun z hz => ?_) ?_ (fun L hL e => ⟨?_, ?_, fun j hj => ?_⟩)
    · show up2 (up2 m 18 _ x) 17 1 _ z = m z
      simp only [List.mem_cons, List.mem_nil_iff, or_false, not_or] at hz
      rw [up2_ne hz.1, up2_ne hz.2]
    · show 0 ≤ up2 (up2 m 18 _ x) 17 1 (m 17 1 + 1) 17 1
      rw [up2_eq, if_pos rfl]
      have : m 17 1 < 60 := c
      lia
    · show up2 (up2 m 18 _ x) 17 1 (m 17 1 + 1) 17 1 = _
      rw [up2_eq, if_pos rfl, e]
      exact o_add L 1
    · show up2 (up2 m 18 _ x) 17 1 (m 17 1 + 1) 18 L = _
      rw [up2_ne (by decide), up2_eq, e, tn_o (by omega), if_pos rfl]
    · show up2 (up2 m 18 _ x) 17 1 (m 17 1 + 1) 18 j = _
      rw [up2_ne (by decide), up2_eq, e, tn_o (by omega), if_neg (by omega)]
  · rw [if_neg c]
    exact k _ Fr.rf h0 (fun L hL e => absurd (by rw [e]; exact (o_lt (by omega) (by decide)).mpr hL) c)
set_option maxHeartbeats 4000000 in
theorem c_sgAdd (hG : fl G = false) (hd : 3 ≤ d) {c : Int32} (h0 : 0 ≤ m 17 1) (k : ∀ m', Fr [17, 18] m m' → 0 ≤ m' 17 1 → (∀ L, L < 60 → m 17 1 = Int32.ofNat L → m' 17 1 = Int32.ofNat (L + 1) ∧ m' 18 L = -c ∧ ∀ k, k < L → m' 18 k = m 18 k) → K none m') : Cal G mX3_addSign d [.ref 16, .int c] SH (TA t a i) m K := by
  obtain ⟨d, rfl⟩ : ∃ e, d = e + 1 := ⟨d - 1, by omega⟩
  exact Cal.of (by decide +kernel) rfl (Nat.le_of_ble_eq_true rfl) (rg_X3_addSign_0 hG 16 c ⟨rfl, 17, rfl, rfl, c_rowAdd hG (by omega) h0 fun m' a b e => ⟨rfl, k m' a b e⟩⟩)
set_option maxHeartbeats 4000000 in
theorem c_nmAdd (hG : fl G = false) (hd : 3 ≤ d) {c : Int32} (h0 : 0 ≤ m 17 1) (k : ∀ m', Fr [17, 18] m m' → 0 ≤ m' 17 1 → (∀ L, L < 60 → m 17 1 = Int32.ofNat L → m' 17 1 = Int32.ofNat (L + 1) ∧ m' 18 L = -1 - c ∧ ∀ k, k < L → m' 18 k = m 18 k) → K none m') : Cal G mX3_addName d [.ref 16, .int c] SH (TA t a i) m K := by
  obtain ⟨d, rfl⟩ : ∃ e, d = e + 1 := ⟨d - 1, by omega⟩
  exact Cal.of (by decide +kernel) rfl (Nat.le_of_ble_eq_true rfl) (rg_X3_addName_0 hG 16 c ⟨rfl, 17, rfl, rfl, c_rowAdd hG (by omega) h0 fun m' a b e => ⟨rfl, k m' a b e⟩⟩)
set_option maxHeartbeats 4000000 in
theorem c_nuAdd (hG : fl G = false) (hd : 3 ≤ d) {c : Int32} (h0 : 0 ≤ m 17 1) (k : ∀ m', Fr [17, 18] m m' → 0 ≤ m' 17 1 → (∀ L, L < 60 → m 17 1 = Int32.ofNat L → m' 17 1 = Int32.ofNat (L + 1) ∧ m' 18 L = c ∧ ∀ k, k < L → m' 18 k = m 18 k) → K none m') : Cal G mX3_addNumber d [.ref 16, .int c] SH (TA t a i) m K := by
  obtain ⟨d, rfl⟩ : ∃ e, d = e + 1 := ⟨d - 1, by omega⟩
  exact Cal.of (by decide +kernel) rfl (Nat.le_of_ble_eq_true rfl) (rg_X3_addNumber_0 hG 16 c ⟨rfl, 17, rfl, rfl, c_rowAdd hG (by omega) h0 fun m' a b e => ⟨rfl, k m' a b e⟩⟩)
/-! the model -/
set_option maxHeartbeats 4000000 in
theorem c_look (hG : fl G = false) (hd : 1 ≤ d) (hx : psX n w u f) (hp : p ≤ n) (e6 : m 76 = f) (e5 : m 75 5 = Int32.ofNat p) (k : K (some (.int (lkb n w p))) m) : Cal G mX6_look d [.ref 75] SH (TA t a i) m K := by
  obtain ⟨hn, hb, h5, hw, hu⟩ := hx
  obtain ⟨d, rfl⟩ : ∃ e, d = e + 1 := ⟨d - 1, by omega⟩
  have hc : rd f 5 ≤ m 75 5 ↔ ¬ p < n := by rw [h5, e5, o_le (by omega) (by omega)]; omega
  have e418 : (418 : Int32) + m 75 5 = Int32.ofNat (418 + p) := by rw [e5]; exact o_add 418 p
  refine Cal.of (by decide +kernel) rfl (Nat.le_of_ble_eq_true rfl) (rg_X6_look_0 hG 75 ⟨rfl, 76, rfl, 502, rfl, ib502 (by decide) (by decide), fun c => ?_, fun c => ⟨?_, ?_⟩⟩)
  · rw [e6] at c
    rw [lkb, if_neg (hc.mp c)] at k
    exact k
  · rw [e418]
    exact ib_o (by omega) (by decide)
  · rw [e6] at c ⊢
    have hlt : p < n := Decidable.by_contra fun q => c (hc.mpr q)
    rw [lkb, if_pos hlt] at k
    rw [e418, rd_o (by omega), hw p hlt]
    exact k
set_option maxHeartbeats 4000000 in
theorem c_step1 (hG : fl G = false) (hd : 1 ≤ d) {o : Nat} {E : List (Int32 × Int32)} {x y : Int32} (h : qsS f u p o E m) (hL : E.length < 60) (k : ∀ m', qsF m m' → qsS f u p o (E ++ [(x, y)]) m' → K none m') : Cal G mX6_step1 d [.ref 75, .int x, .int y] SH (TA t a i) m K := by
  obtain ⟨e6, e5, eo, e7, e8, hE⟩ := h
  obtain ⟨d, rfl⟩ : ∃ e, d = e + 1 := ⟨d - 1, by omega⟩
  have a1 : (2 : Int32) * m 75 7 = Int32.ofNat (2 * E.length) := by rw [e7]; exact o_mul 2 E.length
  have a2 : (2 : Int32) * m 75 7 + 1 = Int32.ofNat (2 * E.length + 1) := by rw [a1]; exact o_add (2 * E.length) 1
  refine Cal.of (by decide +kernel) rfl (Nat.le_of_ble_eq_true rfl) (rg_X6_step1_0 hG 75 x y ⟨rfl, 80, rfl, 124, rfl, by rw [a1]; exact ib_o (by omega) (by decide), ?_⟩)
  rintro m1 rfl
  have b1 : (2 : Int32) * upa m 80 (2 * m 75 7) x 75 7 + 1 = Int32.ofNat (2 * E.length + 1) := a2
  refine ⟨by rw [b1]; exact ib_o (by omega) (by decide), ?_⟩
  rintro m2 rfl m3 rfl
  rw [b1]
  have c1 : upa m 80 (2 * m 75 7) x = up2 m 80 (2 * E.length) x := by rw [a1]; unfold upa; rw [tn_o (by omega)]
  rw [c1]
  have c2 : upa (up2 m 80 (2 * E.length) x) 80 (Int32.ofNat (2 * E.length + 1)) y = up2 (up2 m 80 (2 * E.length) x) 80 (2 * E.length + 1) y := by unfold upa; rw [tn_o (by omega)]
  rw [c2]
  have c3 : up2 (up2 m 80 (2 * E.length) x) 80 (2 * E.length + 1) y 75 7 + 1 = Int32.ofNat (E.length + 1) := by rw [up2_ne (by decide), up2_ne (by decide), e7]; exact o_add E.length 1
  rw [c3]
  refine k _ ⟨fun z hz => ?_, fun j h5 h6 h7 => ?_⟩ ⟨?_, ?_, ?_, ?_, ?_, fun j hj => ?_⟩
  · simp only [List.mem_cons, List.mem_nil_iff, or_false, not_or] at hz
    rw [up2_ne hz.1, up2_ne hz.2, up2_ne hz.2]
  · rw [up2_eq, if_neg h7, up2_ne (by decide), up2_ne (by decide)]
  · rw [up2_ne (by decide), up2_ne (by decide), up2_ne (by decide)]; exact e6
  · rw [up2_eq, if_neg (by decide), up2_ne (by decide), up2_ne (by decide)]; exact e5
  · rw [up2_eq, if_neg (by decide), up2_ne (by decide), up2_ne (by decide)]; exact eo
  · rw [up2_eq, if_pos rfl, List.length_append]; rfl
  · rw [up2_eq, if_neg (by decide), up2_ne (by decide), up2_ne (by decide)]; exact e8
  · rw [List.length_append, show [(x, y)].length = 1 from rfl] at hj
    rw [up2_ne (by decide), up2_eq, up2_eq, up2_eq, up2_eq, if_neg (show ¬ 2 * j = 2 * E.length + 1 by omega)]
    by_cases c : j < E.length
    · rw [if_neg (show ¬ 2 * j = 2 * E.length by omega), if_neg (show ¬ 2 * j + 1 = 2 * E.length + 1 by omega), if_neg (show ¬ 2 * j + 1 = 2 * E.length by omega), gd_l c]
      exact hE j c
    · rw [show j = E.length by omega, if_pos rfl, if_pos rfl, gd_r]
      exact ⟨rfl, rfl⟩
set_option maxHeartbeats 4000000 in
theorem c_mName (hG : fl G = false) (hd : 1 ≤ d) (hu : u < 2) {c : Int32} (e8 : m 75 8 = Int32.ofNat u) (k : K (some (.int (if 0 ≤ nmO u c then 1 else 0))) m) : Cal G mX6_isName d [.ref 75, .int c] SH (TA t a i) m K := by
  obtain ⟨d, rfl⟩ : ∃ e, d = e + 1 := ⟨d - 1, by omega⟩
  unfold nmO at k
  rcases (show u = 0 ∨ u = 1 by omega) with rfl | rfl
  · have e : m 75 8 = 0 := e8
    refine Cal.of (by decide +kernel) rfl (Nat.le_of_ble_eq_true rfl) (rg_X6_isName_0 hG 75 c ⟨fun c1 => ⟨rfl, fun q => absurd e q, fun _ => ⟨fun c2 => ?_, fun c2 => ⟨fun c3 => ?_, fun c3 => ⟨fun c4 => ?_, fun c4 => ?_⟩⟩⟩⟩, fun c1 => ?_⟩)
    · rw [if_pos rfl, if_neg c1, if_pos c2] at k; exact k
    · rw [if_pos rfl, if_neg c1, if_neg c2, if_pos c3] at k; exact k
    · rw [if_pos rfl, if_neg c1, if_neg c2, if_neg c3, if_neg c4] at k; exact k
    · rw [if_pos rfl, if_neg c1, if_neg c2, if_neg c3, if_pos c4] at k; exact k
    · rw [if_pos rfl, if_pos c1] at k; exact k
  · have e : ¬ m 75 8 = 0 := by rw [e8]; decide
    refine Cal.of (by decide +kernel) rfl (Nat.le_of_ble_eq_true rfl) (rg_X6_isName_0 hG 75 c ⟨fun c1 => ⟨rfl, fun _ => ⟨fun c2 => ?_, fun c2 => ⟨fun c3 => ?_, fun c3 => ?_⟩⟩, fun q => absurd q e⟩, fun c1 => ?_⟩)
    · rw [if_neg (show ¬ (1 : Nat) = 0 by decide), if_pos c2] at k; exact k
    · rw [if_neg (show ¬ (1 : Nat) = 0 by decide), if_neg c2, if_neg c3, if_neg c1] at k; exact k
    · rw [if_neg (show ¬ (1 : Nat) = 0 by decide), if_neg c2, if_pos c3] at k; exact k
    · rw [if_neg (show ¬ (1 : Nat) = 0 by decide), if_neg (show ¬ c = 119 by rw [c1]; decide), if_neg (show ¬ c = 107 by rw [c1]; decide), if_pos c1] at k; exact k
end

