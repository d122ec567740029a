theorem kv {K : Option Value → Mem → Prop} {m : Mem} {a b : Int32} (k : K (some (.int a)) m) (h : b = a) : K (some (.int b)) m := h ▸ k
theorem inb {x : Int32} {n : Nat} (h0 : 0 ≤ x) (h : x < Int32.ofNat n) (hn : n < 2147483648) : InB x n := by
  intro hq
  rcases hq with hq | hq
  · exact absurd hq (Int32.not_lt.mpr h0)
  · have h2 := Int32.lt_iff_toInt_lt.mp h
    rw [Int32.toInt_ofNat_of_lt (by omega)] at h2
    have h3 := Int32.le_iff_toInt_le.mp h0
    have e : (0 : Int32).toInt = 0 := rfl
    rw [e] at h3
    have : x.toInt.toNat = x.toNatClampNeg := rfl
    omega
theorem tn_inj {x y : Int32} (hx : 0 ≤ x) (hy : 0 ≤ y) (h : x.toNatClampNeg = y.toNatClampNeg) : x = y := by
  have h1 := Int32.le_iff_toInt_le.mp hx
  have h2 := Int32.le_iff_toInt_le.mp hy
  have e : (0 : Int32).toInt = 0 := rfl
  rw [e] at h1 h2
  have h3 : x.toInt.toNat = y.toInt.toNat := h
  exact Int32.toInt_inj.mp (by omega)
theorem tn_iff {x y : Int32} (hx : 0 ≤ x) (hy : 0 ≤ y) : x.toNatClampNeg = y.toNatClampNeg ↔ x = y := ⟨tn_inj hx hy, fun h => h ▸ rfl⟩
section
variable {G : Gm} {d : Nat} {sh : List Shp} {ta : Nat → Nat → Option Nat} {m : Mem} {K : Option Value → Mem → Prop}
theorem c_X6_in (hG : fl G = false) (hd : 1 ≤ d) {x y z : Int32}  (k : K (some (.int (if y ≤ x ∧ x ≤ z then 1 else 0))) m) : Cal G mX6_in d [.int x, .int y, .int z] sh ta m K := by
  obtain ⟨d, rfl⟩ : ∃ e, d = e + 1 := ⟨d - 1, by omega⟩
  refine Cal.of (by decide +kernel) rfl (Nat.le_of_ble_eq_true rfl) (rg_X6_in_0 hG x y z ?_)
  grind
theorem c_X6_held (hG : fl G = false) (hd : 1 ≤ d) {x y z : Int32}  (k : K (some (.int (if x < y then y else if z < x then z else x))) m) : Cal G mX6_held d [.int x, .int y, .int z] sh ta m K := by
  obtain ⟨d, rfl⟩ : ∃ e, d = e + 1 := ⟨d - 1, by omega⟩
  refine Cal.of (by decide +kernel) rfl (Nat.le_of_ble_eq_true rfl) (rg_X6_held_0 hG x y z ?_)
  grind
theorem c_X6_isCell (hG : fl G = false) (hd : 2 ≤ d) {x : Int32}  (k : K (some (.int (if 0 ≤ x ∧ x ≤ 15 then 1 else 0))) m) : Cal G mX6_isCell d [.int x] sh ta m K := by
  obtain ⟨d, rfl⟩ : ∃ e, d = e + 1 := ⟨d - 1, by omega⟩
  refine Cal.of (by decide +kernel) rfl (Nat.le_of_ble_eq_true rfl) (rg_X6_isCell_0 hG x ?_)
  exact c_X6_in hG (by omega) ⟨_, rfl, by grind [isB], k⟩
theorem c_X0_has (hG : fl G = false) (hd : 1 ≤ d) {b : Nat} {x : Int32} (h1 : sh[b]? = some (.inl 0)) (k : K (some (.int (if 0 ≤ x ∧ x < m b 9 ∧ x < 16 then 1 else 0))) m) : Cal G mX0_has d [.ref b, .int x] sh ta m K := by
  have hb := h1
  obtain ⟨d, rfl⟩ : ∃ e, d = e + 1 := ⟨d - 1, by omega⟩
  refine Cal.of (by decide +kernel) rfl (Nat.le_of_ble_eq_true rfl) (rg_X0_has_0 hG b x ?_)
  grind
theorem c_X5_isCell (hG : fl G = false) (hd : 1 ≤ d) {x : Int32}  (k : K (some (.int (if 0 ≤ x ∧ x < 16 then 1 else 0))) m) : Cal G mX5_isCell d [.int x] sh ta m K := by
  obtain ⟨d, rfl⟩ : ∃ e, d = e + 1 := ⟨d - 1, by omega⟩
  refine Cal.of (by decide +kernel) rfl (Nat.le_of_ble_eq_true rfl) (rg_X5_isCell_0 hG x ?_)
  grind
theorem c_X2_holds (hG : fl G = false) (hd : 1 ≤ d) {b : Nat} {x : Int32} (h1 : sh[b]? = some (.inl 2)) (k : K (some (.int (if 0 ≤ x ∧ x < m b 1 then 1 else 0))) m) : Cal G mX2_holds d [.ref b, .int x] sh ta m K := by
  have hb := h1
  obtain ⟨d, rfl⟩ : ∃ e, d = e + 1 := ⟨d - 1, by omega⟩
  refine Cal.of (by decide +kernel) rfl (Nat.le_of_ble_eq_true rfl) (rg_X2_holds_0 hG b x ?_)
  grind
theorem c_X2_at (hG : fl G = false) (hd : 2 ≤ d) {b n : Nat} {x : Int32} (h1 : sh[b]? = some (.inl 2)) (h2 : ta b 0 = some (b + 1)) (h3 : sh[b + 1]? = some (.inr (0, n))) (h4 : m b 1 ≤ Int32.ofNat n) (h5 : n < 1000) (k : K (some (.int (if 0 ≤ x ∧ x < m b 1 then rd (m (b + 1)) x else 0))) m) : Cal G mX2_at d [.ref b, .int x] sh ta m K := by
  have hb := h1
  have h0 := h2
  have h1 := h3
  have hn := h4
  have hn2 := h5
  obtain ⟨d, rfl⟩ : ∃ e, d = e + 1 := ⟨d - 1, by omega⟩
  refine Cal.of (by decide +kernel) rfl (Nat.le_of_ble_eq_true rfl) (rg_X2_at_0 hG b x ?_)
  refine ⟨hb, c_X2_holds hG (by omega) hb ⟨_, rfl, ?_⟩⟩
  refine ⟨fun c => ?_, fun c => ⟨_, h0, _, h1, ?_, ?_⟩⟩
  · grind
  · exact inb (by grind) (by grind) (by omega)
  · grind
theorem c_X2_holdsRun (hG : fl G = false) (hd : 1 ≤ d) {b : Nat} {x n : Int32} (h1 : sh[b]? = some (.inl 2)) (k : K (some (.int (if 0 ≤ x ∧ 0 ≤ n ∧ n ≤ m b 1 ∧ x ≤ m b 1 - n then 1 else 0))) m) : Cal G mX2_holdsRun d [.ref b, .int x, .int n] sh ta m K := by
  have hb := h1
  obtain ⟨d, rfl⟩ : ∃ e, d = e + 1 := ⟨d - 1, by omega⟩
  refine Cal.of (by decide +kernel) rfl (Nat.le_of_ble_eq_true rfl) (rg_X2_holdsRun_0 hG b x n ?_)
  grind
theorem c_X2_add (hG : fl G = false) (hd : 1 ≤ d) {b n : Nat} {x : Int32} (h1 : sh[b]? = some (.inl 2)) (h2 : ta b 0 = some (b + 1)) (h3 : sh[b + 1]? = some (.inr (0, n))) (h4 : n < 1000) (h5 : 0 ≤ m b 1) (k : K none (if m b 1 < Int32.ofNat n then up2 (upa m (b + 1) (m b 1) x) b 1 (m b 1 + 1) else m)) : Cal G mX2_add d [.ref b, .int x] sh ta m K := by
  have hb := h1
  have h0 := h2
  have h1 := h3
  have hn := h4
  have hz := h5
  obtain ⟨d, rfl⟩ : ∃ e, d = e + 1 := ⟨d - 1, by omega⟩
  refine Cal.of (by decide +kernel) rfl (Nat.le_of_ble_eq_true rfl) (rg_X2_add_0 hG b x ?_)
  refine ⟨hb, _, h0, _, h1, fun c => ?_, fun c => ⟨inb hz (by grind) (by omega), ?_⟩⟩
  · rw [if_neg (by grind)] at k; exact k
  · rw [if_pos (by grind)] at k
    have e : upa m (b + 1) (m b 1) x b 1 = m b 1 := by simp [upa, up2]
    rintro _ rfl _ rfl
    rw [e]
    exact k
theorem c_X2_change (hG : fl G = false) (hd : 2 ≤ d) {b n : Nat} {x y : Int32} (h1 : sh[b]? = some (.inl 2)) (h2 : ta b 0 = some (b + 1)) (h3 : sh[b + 1]? = some (.inr (0, n))) (h4 : m b 1 ≤ Int32.ofNat n) (h5 : n < 1000) (k : K none (if 0 ≤ x ∧ x < m b 1 then upa m (b + 1) x y else m)) : Cal G mX2_change d [.ref b, .int x, .int y] sh ta m K := by
  have hb := h1
  have h0 := h2
  have h1 := h3
  have hn := h4
  have hn2 := h5
  obtain ⟨d, rfl⟩ : ∃ e, d = e + 1 := ⟨d - 1, by omega⟩
  refine Cal.of (by decide +kernel) rfl (Nat.le_of_ble_eq_true rfl) (rg_X2_change_0 hG b x y ?_)
  refine ⟨hb, c_X2_holds hG (by omega) hb ⟨_, rfl, fun c => ?_, fun c => ⟨_, h0, _, h1, inb (by grind) (by grind) (by omega), ?_⟩⟩⟩
  · rw [if_neg (by grind)] at k; exact k
  · rw [if_pos (by grind)] at k
    rintro _ rfl
    exact k
theorem c_X2_clear (hG : fl G = false) (hd : 1 ≤ d) {b : Nat} (h1 : sh[b]? = some (.inl 2)) (k : K none (up2 m b 1 0)) : Cal G mX2_clear d [.ref b] sh ta m K := by
  have hb := h1
  obtain ⟨d, rfl⟩ : ∃ e, d = e + 1 := ⟨d - 1, by omega⟩
  refine Cal.of (by decide +kernel) rfl (Nat.le_of_ble_eq_true rfl) (rg_X2_clear_0 hG b ?_)
  exact ⟨hb, fun _ e => e ▸ k⟩
theorem tn_le {x : Int32} {n : Nat} (h0 : 0 ≤ x) (h : x ≤ Int32.ofNat n) (hn : n < 2147483648) : x.toNatClampNeg ≤ n := by
  have h2 := Int32.le_iff_toInt_le.mp h
  rw [Int32.toInt_ofNat_of_lt (by omega)] at h2
  have : x.toInt.toNat = x.toNatClampNeg := rfl
  omega
theorem tn_add_le {i l X : Int32} {n : Nat} (hi : 0 ≤ i) (hl : 0 ≤ l) (h1 : l ≤ X) (h2 : i ≤ X - l) (hX : X ≤ Int32.ofNat n) (hn : n < 1000) : i.toNatClampNeg + l.toNatClampNeg ≤ n := by
  have a1 := Int32.toInt_ofNat_of_lt (n := n) (by omega)
  have e : (0 : Int32).toInt = 0 := rfl
  rw [Int32.le_iff_toInt_le] at hi hl h1 h2 hX
  rw [a1] at hX
  rw [e] at hi hl
  rw [Int32.toInt_sub, Int.bmod_eq_of_le (by omega) (by omega)] at h2
  show i.toInt.toNat + l.toInt.toNat ≤ n
  omega
theorem tn0 : (0 : Int32).toNatClampNeg = 0 := rfl
theorem c_X2_copyFrom (hG : fl G = false) (hd : 1 ≤ d) {b c n n2 : Nat} (h1 : sh[b]? = some (.inl 2)) (h2 : ta b 0 = some (b + 1)) (h3 : sh[b + 1]? = some (.inr (0, n))) (h4 : sh[c]? = some (.inl 2)) (h5 : ta c 0 = some (c + 1)) (h6 : sh[c + 1]? = some (.inr (0, n2))) (h7 : n < 1000) (h8 : n2 < 1000) (h9 : 0 ≤ m c 1) (h10 : m c 1 ≤ Int32.ofNat n2) (h11 : m c 1 ≤ Int32.ofNat n) (k : K none (cp2 (up2 m b 1 (m c 1)) (b + 1) 0 (c + 1) 0 (m c 1).toNatClampNeg)) : Cal G mX2_copyFrom d [.ref b, .ref c] sh ta m K := by
  have hb := h1
  have h0 := h2
  have h1 := h3
  have hc := h4
  have g0 := h5
  have g1 := h6
  have hn := h7
  have hn2 := h8
  have hz := h9
  have hl := h10
  have hl2 := h11
  obtain ⟨d, rfl⟩ : ∃ e, d = e + 1 := ⟨d - 1, by omega⟩
  refine Cal.of (by decide +kernel) rfl (Nat.le_of_ble_eq_true rfl) (rg_X2_copyFrom_0 hG b c ?_)
  have e : (if m c 1 < Int32.ofNat n then m c 1 else Int32.ofNat n) = m c 1 := by grind
  refine ⟨hb, _, h0, _, h1, hc, ?_⟩
  rw [e]
  rintro _ rfl
  have e2 : up2 m b 1 (m c 1) b 1 = m c 1 := by simp [up2]
  refine ⟨_, g0, _, g1, by decide, by decide, ?_⟩
  rw [e2, tn0]
  refine ⟨by grind, by rw [Nat.zero_add]; exact tn_le hz hl (by omega), by rw [Nat.zero_add]; exact tn_le hz hl2 (by omega), ?_⟩
  rintro _ rfl
  exact k
theorem c_X2_copyRun (hG : fl G = false) (hd : 2 ≤ d) {b c n n2 : Nat} {i j l : Int32} (h1 : sh[b]? = some (.inl 2)) (h2 : ta b 0 = some (b + 1)) (h3 : sh[b + 1]? = some (.inr (0, n))) (h4 : sh[c]? = some (.inl 2)) (h5 : ta c 0 = some (c + 1)) (h6 : sh[c + 1]? = some (.inr (0, n2))) (h7 : n < 1000) (h8 : n2 < 1000) (h9 : m c 1 ≤ Int32.ofNat n2) (h10 : m b 1 ≤ Int32.ofNat n) (h11 : 0 ≤ j ∧ 0 ≤ i ∧ 0 ≤ l ∧ l ≤ m b 1 ∧ j ≤ m b 1 - l ∧ l ≤ m c 1 ∧ i ≤ m c 1 - l) (k : K none (cp2 m (b + 1) j.toNatClampNeg (c + 1) i.toNatClampNeg l.toNatClampNeg)) : Cal G mX2_copyRun d [.ref b, .int j, .ref c, .int i, .int l] sh ta m K := by
  have hb := h1
  have h0 := h2
  have h1 := h3
  have hc := h4
  have g0 := h5
  have g1 := h6
  have hn := h7
  have hn2 := h8
  have hl := h9
  have hl2 := h10
  have hz := h11
  obtain ⟨d, rfl⟩ : ∃ e, d = e + 1 := ⟨d - 1, by omega⟩
  refine Cal.of (by decide +kernel) rfl (Nat.le_of_ble_eq_true rfl) (rg_X2_copyRun_0 hG b j c i l ?_)
  have t1 : i.toNatClampNeg + l.toNatClampNeg ≤ n2 := tn_add_le hz.2.1 hz.2.2.1 hz.2.2.2.2.2.1 hz.2.2.2.2.2.2 hl hn2
  have t2 : j.toNatClampNeg + l.toNatClampNeg ≤ n := tn_add_le hz.1 hz.2.2.1 hz.2.2.2.1 hz.2.2.2.2.1 hl2 hn
  refine ⟨hb, c_X2_holdsRun hG (by omega) hb ⟨_, rfl, fun q => by grind, fun _ => ⟨hc, c_X2_holdsRun hG (by omega) hc ⟨_, rfl, fun q => by grind, fun _ => ⟨_, g0, _, h0, _, g1, _, h1, by grind, by grind, by grind, t1, t2, ?_⟩⟩⟩⟩⟩
  rintro _ rfl
  exact k
end

