-- 42.sheets
def lkS (g : Nat → Int32) (x : Int32) : Int32 := if 0 ≤ x ∧ x ≤ 3 then if rd g x = 0 then 2 else 0 else 1
-- how many of k numbers from the c-th on are piles, up to the first that is none
def rwf (w : Nat → Int32) (c : Nat) (k : Nat) : Nat := match k with
  | 0 => c
  | j + 1 => if 1 ≤ w c ∧ w c ≤ 15 then rwf w (c + 1) j else c
set_option maxHeartbeats 4000000 in
theorem rwf_le {w : Nat → Int32} : ∀ (k c : Nat), rwf w c k ≤ c + k := by
  intro k
  induction k with
  | zero => intro c; exact Nat.le_refl _
  | succ k ih =>
    intro c
    simp only [rwf]
    split
    · have := ih (c + 1); omega
    · omega
set_option maxHeartbeats 4000000 in
theorem rwf_in {w : Nat → Int32} : ∀ (k c j : Nat), c ≤ j → j < rwf w c k → 1 ≤ w j ∧ w j ≤ 15 := by
  intro k
  induction k with
  | zero => intro c j h1 h2; simp only [rwf] at h2; omega
  | succ k ih =>
    intro c j h1 h2
    simp only [rwf] at h2
    split at h2
    · by_cases e : j = c
      · rw [e]; assumption
      · exact ih (c + 1) j (by omega) h2
    · omega
set_option maxHeartbeats 4000000 in
theorem rwf_eq {w v : Nat → Int32} : ∀ (k c : Nat), (∀ j, c ≤ j → j < c + k → w j = v j) → rwf w c k = rwf v c k := by
  intro k
  induction k with
  | zero => intro c _; rfl
  | succ k ih =>
    intro c h
    simp only [rwf]
    rw [h c (Nat.le_refl _) (by omega), ih (c + 1) (fun j a b => h j (by omega) (by omega))]
section
variable {G : Gm} {d t n i : Nat} {m : Mem} {K : Option Value → Mem → Prop}
set_option maxHeartbeats 4000000 in
theorem c_X5_isSheet (hG : fl G = false) (hd : 1 ≤ d) {x : Int32}  (k : K (some (.int (if 0 ≤ x ∧ x ≤ 3 then 1 else 0))) m) : Cal G mX5_isSheet d [.int x] SH (TA t n i) m K := by
  obtain ⟨d, rfl⟩ : ∃ e, d = e + 1 := ⟨d - 1, by omega⟩
  refine Cal.of (by decide +kernel) rfl (Nat.le_of_ble_eq_true rfl) (rg_X5_isSheet_0 hG x ?_)
  grind
set_option maxHeartbeats 4000000 in
theorem c_X6_isSheet (hG : fl G = false) (hd : 2 ≤ d) {x : Int32}  (k : K (some (.int (if 0 ≤ x ∧ x ≤ 3 then 1 else 0))) m) : Cal G mX6_isSheet d [.int x] SH (TA t n i) m K := by
  obtain ⟨d, rfl⟩ : ∃ e, d = e + 1 := ⟨d - 1, by omega⟩
  refine Cal.of (by decide +kernel) rfl (Nat.le_of_ble_eq_true rfl) (rg_X6_isSheet_0 hG x ?_)
  exact c_X6_in hG (by omega) ⟨_, rfl, by grind [isB], k⟩
set_option maxHeartbeats 4000000 in
theorem c_X6_lacks (hG : fl G = false) (hd : 3 ≤ d) {x : Int32}  (k : K (some (.int (lkS (m 85) x))) m) : Cal G mX6_lacks d [.ref 75, .int x] SH (TA t n i) m K := by
  unfold lkS at k
  obtain ⟨d, rfl⟩ : ∃ e, d = e + 1 := ⟨d - 1, by omega⟩
  refine Cal.of (by decide +kernel) rfl (Nat.le_of_ble_eq_true rfl) (rg_X6_lacks_0 hG 75 x ?_)
  refine c_X6_isSheet hG (by omega) ⟨_, rfl, fun q => ?_, fun q => ?_⟩
  · have h : 0 ≤ x ∧ x ≤ 3 := Decidable.byContradiction fun h => q (if_neg h)
    rw [if_pos h] at k
    exact ⟨rfl, 85, rfl, 4, rfl, inb h.1 (Int32.lt_of_le_of_lt h.2 (by decide)) (by decide), fun z => by rw [if_neg z] at k; exact k, fun z => by rw [if_pos z] at k; exact k⟩
  · have h : ¬ (0 ≤ x ∧ x ≤ 3) := fun h => absurd (if_pos h ▸ q) (by decide)
    rw [if_neg h] at k
    exact k
set_option maxHeartbeats 4000000 in
theorem c_X5_lackOf (hG : fl G = false) (hd : 2 ≤ d) {x : Int32}  (k : K (some (.int (lkS (m 32) x))) m) : Cal G mX5_lackOf d [.ref 0, .int x] SH (TA t n i) m K := by
  unfold lkS at k
  obtain ⟨d, rfl⟩ : ∃ e, d = e + 1 := ⟨d - 1, by omega⟩
  refine Cal.of (by decide +kernel) rfl (Nat.le_of_ble_eq_true rfl) (rg_X5_lackOf_0 hG 0 x ?_)
  refine c_X5_isSheet hG (by omega) ⟨_, rfl, fun q => ?_, fun q => ?_⟩
  · have h : 0 ≤ x ∧ x ≤ 3 := Decidable.byContradiction fun h => q (if_neg h)
    rw [if_pos h] at k
    exact ⟨rfl, 32, rfl, 4, rfl, inb h.1 (Int32.lt_of_le_of_lt h.2 (by decide)) (by decide), fun z => by rw [if_neg z] at k; exact k, fun z => by rw [if_pos z] at k; exact k⟩
  · have h : ¬ (0 ≤ x ∧ x ≤ 3) := fun h => absurd (if_pos h ▸ q) (by decide)
    rw [if_neg h] at k
    exact k
end
set_option maxHeartbeats 4000000 in
theorem c_X5_pullsIn {G : Gm} {sh : List Shp} {ta : Nat → Nat → Option Nat} (hG : fl G = false) {d b z : Nat} {m : Mem} {K : Option Value → Mem → Prop} (hd : 3 ≤ d) (h1 : sh[b]? = some (.inl 2)) (h2 : ta b 0 = some (b + 1)) (h3 : sh[b + 1]? = some (.inr (0, 24))) (h4 : m b 1 = Int32.ofNat z) (hz : z ≤ 24) (k : K (some (.int (Int32.ofNat (rwf (m (b + 1)) 0 z)))) m) : Cal G mX5_pullsIn d [.ref b] sh ta m K := by
  obtain ⟨d, rfl⟩ : ∃ e, d = e + 1 := ⟨d - 1, by omega⟩
  refine Cal.of (by decide +kernel) rfl (Nat.le_of_ble_eq_true rfl) (rg_X5_pullsIn_0 hG b ?_)
  have hloop : ∀ (r c : Nat), c + r = z → rwf (m (b + 1)) 0 z = rwf (m (b + 1)) c r → WP G (rmD (d + 1) 0 0) mX5_pullsIn (QC G sh ta K) 0 0 2 [(0, .ref b), (1, .int (Int32.ofNat c))] [] (sh, ta, m) := by
    intro r
    induction r with
    | zero =>
      intro c hc he
      rw [he] at k
      refine rg_X5_pullsIn_2 hG b _ ⟨h1, fun _ => k, fun q => absurd ?_ q⟩
      rw [h4, o_le (by omega) (by omega)]
      omega
    | succ r ih =>
      intro c hc he
      have hlt : ¬ m b 1 ≤ Int32.ofNat c := fun q => by
        rw [h4, o_le (by omega) (by omega)] at q
        omega
      refine rg_X5_pullsIn_2 hG b _ ⟨h1, fun q => absurd q hlt, fun _ => c_X2_at hG (by omega) h1 h2 h3 (by rw [h4]; exact (o_le (by omega) (by omega)).mpr hz) (by decide) ⟨_, rfl, ?_⟩⟩
      rw [if_pos ⟨o_0 c (by omega), Int32.not_le.mp hlt⟩, rd_o (by omega)]
      refine c_X5_isPile hG (by omega) ⟨_, rfl, fun q => ?_, fun q => ?_⟩
      · have h : ¬ (1 ≤ m (b + 1) c ∧ m (b + 1) c ≤ 15) := fun h => absurd (if_pos h ▸ q) (by decide)
        rw [he, rwf, if_neg h] at k
        exact k
      · have h : 1 ≤ m (b + 1) c ∧ m (b + 1) c ≤ 15 := Decidable.byContradiction fun h => q (if_neg h)
        rw [o_1]
        exact ih (c + 1) (by omega) (by rw [he, rwf, if_pos h])
  exact hloop z 0 (by omega) rfl
set_option maxHeartbeats 4000000 in
theorem c_X6_rowOf {G : Gm} {t n i : Nat} (hG : fl G = false) {d x z : Nat} {m : Mem} {K : Option Value → Mem → Prop} (hd : 4 ≤ d) (hx : x < 4) (h4 : m 86 x = Int32.ofNat z) (hz : z ≤ 24) (k : K (some (.int (Int32.ofNat (rwf (fun j => m 87 (24 * x + j)) 0 z)))) m) : Cal G mX6_rowOf d [.ref 75, .int (Int32.ofNat x)] SH (TA t n i) m K := by
  obtain ⟨d, rfl⟩ : ∃ e, d = e + 1 := ⟨d - 1, by omega⟩
  refine Cal.of (by decide +kernel) rfl (Nat.le_of_ble_eq_true rfl) (rg_X6_rowOf_0 hG 75 (Int32.ofNat x) ?_)
  have e24 : ∀ c : Nat, (24 : Int32) * Int32.ofNat x + Int32.ofNat c = Int32.ofNat (24 * x + c) := fun c => by
    rw [show (24 : Int32) = Int32.ofNat 24 from rfl, o_mul, Int32.ofNat_add]
  have hloop : ∀ (r c : Nat), c + r = z → rwf (fun j => m 87 (24 * x + j)) 0 z = rwf (fun j => m 87 (24 * x + j)) c r → WP G (rmD (d + 1) 0 0) mX6_rowOf (QC G SH (TA t n i) K) 0 0 2 [(0, .ref 75), (1, .int (Int32.ofNat x)), (2, .int (Int32.ofNat c))] [] (SH, TA t n i, m) := by
    intro r
    induction r with
    | zero =>
      intro c hc he
      rw [he] at k
      refine rg_X6_rowOf_2 hG 75 _ _ ⟨rfl, 86, rfl, 4, rfl, ib_o hx (by decide), fun _ => k, fun q => absurd ?_ q⟩
      rw [rd_o (by omega), h4, o_le (by omega) (by omega)]
      omega
    | succ r ih =>
      intro c hc he
      have hlt : ¬ rd (m 86) (Int32.ofNat x) ≤ Int32.ofNat c := fun q => by
        rw [rd_o (by omega), h4, o_le (by omega) (by omega)] at q
        omega
      refine rg_X6_rowOf_2 hG 75 _ _ ⟨rfl, 86, rfl, 4, rfl, ib_o hx (by decide), fun q => absurd q hlt, fun _ => ⟨87, rfl, 96, rfl, ?_⟩⟩
      rw [e24, rd_o (by omega)]
      refine ⟨ib_o (by omega) (by decide), c_X6_isOpen hG (by omega) ⟨_, rfl, fun q => ?_, fun q => ?_⟩⟩
      · have h : ¬ (1 ≤ m 87 (24 * x + c) ∧ m 87 (24 * x + c) ≤ 15) := fun h => absurd (if_pos h ▸ q) (by decide)
        rw [he, rwf, if_neg h] at k
        exact k
      · have h : 1 ≤ m 87 (24 * x + c) ∧ m 87 (24 * x + c) ≤ 15 := Decidable.byContradiction fun h => q (if_neg h)
        rw [o_1]
        exact ih (c + 1) (by omega) (by rw [he, rwf, if_pos h])
  exact hloop z 0 (by omega) rfl

