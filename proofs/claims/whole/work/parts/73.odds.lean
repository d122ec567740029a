-- 73.odds
set_option maxHeartbeats 4000000 in
theorem o_div {a b : Nat} (ha : a < 2147483648) (hb : b < 2147483648) : Int32.ofNat a / Int32.ofNat b = Int32.ofNat (a / b) := by
  have h : a / b ≤ a := Nat.div_le_self a b
  apply Int32.toInt_inj.mp
  rw [Int32.toInt_div, Int32.toInt_ofNat_of_lt (by omega), Int32.toInt_ofNat_of_lt (by omega), Int32.toInt_ofNat_of_lt (by omega), Int.tdiv_eq_ediv_of_nonneg (by omega)]
  have hh : (a : Int) / (b : Int) = ((a / b : Nat) : Int) := rfl
  rw [hh]
  generalize a / b = q at h ⊢
  rw [Int.bmod_eq_of_le (by omega) (by omega)]
set_option maxHeartbeats 4000000 in
theorem o_sub {a b : Nat} (ha : a < 2147483648) (h : b ≤ a) : Int32.ofNat a - Int32.ofNat b = Int32.ofNat (a - b) := by
  apply Int32.toInt_inj.mp
  rw [Int32.toInt_sub, Int32.toInt_ofNat_of_lt (by omega), Int32.toInt_ofNat_of_lt (by omega), Int32.toInt_ofNat_of_lt (by omega), Int.bmod_eq_of_le (by omega) (by omega)]
  omega
set_option maxHeartbeats 4000000 in
theorem l_toInt {a : Nat} (h : a < 9223372036854775808) : (Int64.ofNat a).toInt = (a : Int) := Int64.toInt_ofNat_of_lt h
set_option maxHeartbeats 4000000 in
theorem l_div {a b : Nat} (ha : a < 9223372036854775808) (hb : b < 9223372036854775808) : Int64.ofNat a / Int64.ofNat b = Int64.ofNat (a / b) := by
  have h : a / b ≤ a := Nat.div_le_self a b
  apply Int64.toInt_inj.mp
  rw [Int64.toInt_div, l_toInt ha, l_toInt hb, l_toInt (by omega), Int.tdiv_eq_ediv_of_nonneg (by omega)]
  have hh : (a : Int) / (b : Int) = ((a / b : Nat) : Int) := rfl
  rw [hh]
  generalize a / b = q at h ⊢
  rw [Int.bmod_eq_of_le (by omega) (by omega)]
set_option maxHeartbeats 4000000 in
theorem l_mul (a b : Nat) : Int64.ofNat a * Int64.ofNat b = Int64.ofNat (a * b) := (Int64.ofNat_mul a b).symm
set_option maxHeartbeats 4000000 in
theorem l_sub {a b : Nat} (ha : a < 9223372036854775808) (h : b ≤ a) : Int64.ofNat a - Int64.ofNat b = Int64.ofNat (a - b) := by
  apply Int64.toInt_inj.mp
  rw [Int64.toInt_sub, l_toInt (by omega), l_toInt (by omega), l_toInt (by omega), Int.bmod_eq_of_le (by omega) (by omega)]
  omega
set_option maxHeartbeats 4000000 in
theorem l_0 {a : Nat} (ha : a < 9223372036854775808) : Int64.ofNat a = 0 ↔ a = 0 := by
  constructor
  · intro h
    have := congrArg Int64.toInt h
    rw [l_toInt ha, show (0 : Int64).toInt = 0 from rfl] at this
    omega
  · intro h; rw [h]; rfl
set_option maxHeartbeats 4000000 in
theorem o_l {a : Nat} (ha : a < 2147483648) : (Int32.ofNat a).toInt64 = Int64.ofNat a := by
  apply Int64.toInt_inj.mp
  rw [Int32.toInt_toInt64, Int32.toInt_ofNat_of_lt ha, l_toInt (by omega)]
-- how many of the first k are c
def dpN (w : Nat → Int32) (c : Int32) (k : Nat) : Nat := match k with
  | 0 => 0
  | e + 1 => dpN w c e + if w e = c then 1 else 0
set_option maxHeartbeats 4000000 in
theorem dpN_le {w : Nat → Int32} {c : Int32} : ∀ k, dpN w c k ≤ k := by
  intro k
  induction k with
  | zero => exact Nat.le_refl _
  | succ k ih => simp only [dpN]; split <;> omega
def cvN (f : Nat → Int32) (w : Nat → Int32) (i : Nat) : Nat := if (sz f (w i)).toNatClampNeg ≤ dpN w (w i) i then 0 else min 16 ((stg f (Int32.ofNat i)).toNatClampNeg * 16 / (nds f (pl f (w i) (Int32.ofNat ((sz f (w i)).toNatClampNeg - 1 - dpN w (w i) i)))).toNatClampNeg)
def abN (f : Nat → Int32) (w : Nat → Int32) (k : Nat) : Nat := match k with
  | 0 => 1
  | e + 1 => abN f w e * cvN f w e
set_option maxHeartbeats 4000000 in
theorem cvN_le (f w : Nat → Int32) (i : Nat) : cvN f w i ≤ 16 := by
  unfold cvN
  split
  · omega
  · exact Nat.min_le_left _ _
set_option maxHeartbeats 4000000 in
theorem abN_le (f w : Nat → Int32) : ∀ k, abN f w k ≤ 16 ^ k := by
  intro k
  induction k with
  | zero => exact Nat.le_refl _
  | succ k ih =>
    simp only [abN]
    rw [Nat.pow_succ]
    exact Nat.mul_le_mul ih (cvN_le f w k)
set_option maxHeartbeats 4000000 in
theorem p16 {k : Nat} (h : k ≤ 4) : 16 ^ k ≤ 65536 := by
  rcases (show k = 0 ∨ k = 1 ∨ k = 2 ∨ k = 3 ∨ k = 4 by omega) with rfl | rfl | rfl | rfl | rfl <;> decide
-- a strength, and what the pulls' bound does to it
set_option maxHeartbeats 4000000 in
theorem stg_o {f : Nat → Int32} (w : WN f) {i : Nat} (hi : i ≤ 4) : (∃ s, s ≤ 99 ∧ stg f (Int32.ofNat i) = Int32.ofNat s) ∧ (if rd f 3 - (if rd f 2 + Int32.ofNat i < 9999 then rd f 2 + Int32.ofNat i else 9999) * rd f 4 < 0 then 0 else rd f 3 - (if rd f 2 + Int32.ofNat i < 9999 then rd f 2 + Int32.ofNat i else 9999) * rd f 4) = stg f (Int32.ofNat i) := by
  obtain ⟨p, hp, ep⟩ := oN' (N := 9999) w.2.1.1 w.2.1.2 (by decide)
  obtain ⟨s, hs, es⟩ := oN' (N := 99) w.2.2.1.1 w.2.2.1.2 (by decide)
  obtain ⟨k, hk, ek⟩ := oN' (N := 9) w.2.2.2.1.1 w.2.2.2.1.2 (by decide)
  have key : ∀ q : Nat, q ≤ 10003 → (Int32.ofNat s - Int32.ofNat q * Int32.ofNat k).toInt = (s : Int) - (q * k : Nat) := by
    intro q hq
    have hm : q * k ≤ 10003 * 9 := Nat.mul_le_mul hq hk
    rw [o_mul, Int32.toInt_sub, Int32.toInt_ofNat_of_lt (by omega), Int32.toInt_ofNat_of_lt (by omega), Int.bmod_eq_of_le (by omega) (by omega)]
  unfold stg
  rw [ep, es, ek, o_add]
  have k1 := key (p + i) (by omega)
  generalize hqq : (p + i) * k = q at k1
  have z : (0 : Int32).toInt = 0 := rfl
  constructor
  · by_cases h : Int32.ofNat s - Int32.ofNat (p + i) * Int32.ofNat k < 0
    · exact ⟨0, by omega, by rw [if_pos h]; rfl⟩
    · refine ⟨s - q, by omega, ?_⟩
      rw [if_neg h]
      rw [Int32.lt_iff_toInt_lt, k1, z] at h
      apply Int32.toInt_inj.mp
      have hb : s - q < 2147483648 := by omega
      rw [k1, Int32.toInt_ofNat_of_lt hb]
      omega
  · by_cases h : Int32.ofNat (p + i) < 9999
    · rw [if_pos h]
    · rw [if_neg h]
      have hq : 9999 ≤ p + i := by
        have : ¬ p + i < 9999 := fun q => h ((o_lt (b := 9999) (by omega) (by decide)).mpr q)
        omega
      have k2 := key 9999 (by omega)
      rw [show (9999 : Int32) = Int32.ofNat 9999 from rfl]
      by_cases k0 : k = 0
      · rw [k0, o_mul, o_mul, Nat.mul_zero, Nat.mul_zero]
      · have m1 : 9999 ≤ (p + i) * k := Nat.le_trans hq (Nat.le_mul_of_pos_right _ (by omega))
        rw [hqq] at m1
        have m2 : 9999 ≤ 9999 * k := Nat.le_mul_of_pos_right _ (by omega)
        rw [if_pos (by rw [Int32.lt_iff_toInt_lt, k2, z]; omega), if_pos (by rw [Int32.lt_iff_toInt_lt, k1, z]; omega)]
set_option maxHeartbeats 4000000 in
theorem nds_o (f : Nat → Int32) (t : Int32) : ∃ k, 1 ≤ k ∧ k ≤ 99 ∧ nds f t = Int32.ofNat k := by
  have h : 1 ≤ nds f t ∧ nds f t ≤ 99 := by
    unfold nds hld
    split
    · decide
    · split
      · decide
      · rename_i a b
        exact ⟨Int32.not_lt.mp a, Int32.not_lt.mp b⟩
  obtain ⟨k, hk, e⟩ := oN' (N := 99) (Int32.le_trans (by decide) h.1) h.2 (by decide)
  refine ⟨k, ?_, hk, e⟩
  have := h.1
  rw [e] at this
  exact (o_le (a := 1) (by decide) (by omega)).mp this
set_option maxHeartbeats 4000000 in
theorem odd_gcd {a : Nat} (h : a % 2 = 1) : ∀ k, Nat.gcd a (2 ^ k) = 1 := by
  intro k
  have : Nat.Coprime a 2 := by
    show Nat.gcd a 2 = 1
    rw [Nat.gcd_comm, Nat.gcd_rec, h]
    rfl
  exact Nat.Coprime.pow_right k this
section
variable {G : Gm} {d t n i : Nat} {m : Mem} {K : Option Value → Mem → Prop} {f g z u : Nat → Int32} {x y c : Int32}
set_option maxHeartbeats 4000000 in
theorem c_X5_casesOf (hG : fl G = false) (hd : 6 ≤ d) (hb : RB m 35 44 f) (ht : RT m 36 40 f) (hw : WF f) {b zz ii : Nat} {w : Nat → Int32} (r1 : SH[b]? = some (.inl 2)) (r2 : TA t n i b 0 = some (b + 1)) (r3 : SH[b + 1]? = some (.inr (0, 24))) (em : m b 1 = Int32.ofNat zz) (hzz : zz ≤ 24) (hu : ∀ j, j < zz → m (b + 1) j = w j) (hi : ii < zz) (hi4 : ii ≤ 3) (hc : 1 ≤ w ii ∧ w ii ≤ 15) (k : ∀ m', Fr [36, 39] m m' → K (some (.int (Int32.ofNat (cvN f w ii)))) m') : Cal G mX5_casesOf d [.ref 0, .ref b, .int (Int32.ofNat ii)] SH (TA t n i) m K := by
  obtain ⟨d, rfl⟩ : ∃ e, d = e + 1 := ⟨d - 1, by omega⟩
  have hm : m b 1 ≤ Int32.ofNat 24 := by rw [em]; exact (o_le (by omega) (by omega)).mpr hzz
  have at' : ∀ j, j < zz → ∀ {e : Nat} {K' : Option Value → Mem → Prop}, 2 ≤ e → K' (some (.int (w j))) m → Cal G mX2_at e [.ref b, .int (Int32.ofNat j)] SH (TA t n i) m K' := by
    intro j hj e K' he kk
    refine c_X2_at hG he r1 r2 r3 hm (by decide) ?_
    rw [if_pos ⟨o_0 j (by omega), by rw [em]; exact (o_lt (by omega) (by omega)).mpr hj⟩, rd_o (by omega), hu j hj]
    exact kk
  refine Cal.of (by decide +kernel) rfl (Nat.le_of_ble_eq_true rfl) (rg_X5_casesOf_0 hG 0 b _ ⟨r1, at' ii hi (by omega) ⟨_, rfl, ?_⟩⟩)
  have c0 : 0 ≤ w ii ∧ w ii ≤ 15 := ⟨Int32.le_trans (by decide) hc.1, hc.2⟩
  have loop : ∀ (e j : Nat), j + e = ii → WP G (rmD (d + 1) 0 0) mX5_casesOf (QC G SH (TA t n i) K) 0 0 12 [(0, .ref 0), (1, .ref b), (2, .int (Int32.ofNat ii)), (3, .int (w ii)), (4, .int (Int32.ofNat (dpN w (w ii) j))), (5, .int (Int32.ofNat j))] [] (SH, TA t n i, m) := by
    intro e
    induction e with
    | zero =>
      intro j hj
      have : j = ii := by omega
      subst this
      refine rg_X5_casesOf_12 hG 0 b _ _ _ _ ⟨fun _ => ⟨rfl, 35, rfl, rfl, c_X0_highOf hG (by omega) B35 hb ⟨_, rfl, ?_⟩⟩, fun o => absurd (Int32.le_refl _) o⟩
      rw [if_pos c0]
      obtain ⟨hh, h5, eh⟩ := oN' (N := 5) (hw.2.1 _ c0.1 c0.2).1.1 (hw.2.1 _ c0.1 c0.2).1.2 (by decide)
      have dl := dpN_le (w := w) (c := w j) j
      have cv : ∀ v, cvN f w j = v → ∀ m', Fr [36, 39] m m' → K (some (.int (Int32.ofNat v))) m' := fun v e m' hf => by rw [← e]; exact k m' hf
      unfold cvN at cv
      rw [eh, tn_o (by omega)] at cv
      refine c_X0_thingAt hG (by omega) B35 hb hw.2.1 ⟨_, rfl, ?_⟩
      rw [eh]
      by_cases hq : hh ≤ dpN w (w j) j
      · have eneg : Int32.ofNat hh - 1 - Int32.ofNat (dpN w (w j) j) < 0 := by
          rw [Int32.lt_iff_toInt_lt, Int32.toInt_sub, Int32.toInt_sub, Int32.toInt_ofNat_of_lt (by omega), Int32.toInt_ofNat_of_lt (by omega), show (1 : Int32).toInt = 1 from rfl, show (0 : Int32).toInt = 0 from rfl, Int.bmod_eq_of_le (n := (hh : Int) - 1) (by omega) (by omega), Int.bmod_eq_of_le (by omega) (by omega)]
          omega
        rw [if_neg (fun o => absurd eneg (Int32.not_lt.mpr o.2.2.1))]
        exact ⟨fun o => absurd o (by decide), fun _ => cv 0 (if_pos hq) m Fr.rf⟩
      · have eq : Int32.ofNat hh - 1 - Int32.ofNat (dpN w (w j) j) = Int32.ofNat (hh - 1 - dpN w (w j) j) := by
          rw [show (1 : Int32) = Int32.ofNat 1 from rfl, o_sub (by omega) (by omega), o_sub (by omega) (by omega)]
        rw [eq]
        have hr : 0 ≤ Int32.ofNat (hh - 1 - dpN w (w j) j) ∧ Int32.ofNat (hh - 1 - dpN w (w j) j) < sz f (w j) := ⟨o_0 _ (by omega), by rw [eh]; exact (o_lt (by omega) (by omega)).mpr (by omega)⟩
        have hp := (hw.2.1 _ c0.1 c0.2).2 _ hr.1 hr.2
        rw [← eh, if_pos ⟨c0.1, c0.2, hr⟩]
        refine ⟨fun _ => c_X5_strengthAt hG (by omega) ⟨_, rfl, c_X0_needs hG (by omega) B35 hb ht hw hp.1 (fun m' hf => ⟨_, rfl, ?_⟩)⟩, fun o => absurd hp.1.1 o⟩
        obtain ⟨⟨s, hs, es⟩, e2⟩ := stg_o hw.2.2.1 (i := j) (by omega)
        obtain ⟨nk, n1, n2, en⟩ := nds_o f (pl f (w j) (Int32.ofNat (hh - 1 - dpN w (w j) j)))
        rw [hb.1.2.1, hb.1.2.2.1, hb.1.2.2.2, e2, es, en]
        have n0 : ¬ Int32.ofNat nk ≤ 0 := fun o => by have := (o_le (b := 0) (by omega) (by decide)).mp o; omega
        have n00 : ¬ Int32.ofNat nk = 0 := fun o => by have := (o_eq (b := 0) (by omega) (by decide)).mp o; omega
        refine ⟨fun o => absurd o n0, fun _ => ⟨n00, ?_⟩⟩
        rw [show (16 : Int32) = Int32.ofNat 16 from rfl, o_mul, o_div (by omega) (by omega)]
        have hdv : s * 16 / nk ≤ s * 16 := Nat.div_le_self _ _
        have := cv (min 16 (s * 16 / nk)) (by rw [if_neg hq, es, en, tn_o (by omega), tn_o (by omega)]) m' (hf.mo (by simp))
        by_cases h16 : s * 16 / nk < 16
        · rw [if_pos ((o_lt (by omega) (by omega)).mpr h16)]
          rw [Nat.min_eq_right (by omega)] at this
          exact this
        · rw [if_neg (fun o => h16 ((o_lt (by omega) (by omega)).mp o))]
          rw [Nat.min_eq_left (by omega)] at this
          exact this
    | succ e ih =>
      intro j hj
      refine rg_X5_casesOf_12 hG 0 b _ _ _ _ ⟨fun o => ?_, fun _ => ⟨r1, at' j (by omega) (by omega) ⟨_, rfl, fun h => ?_, fun h => ?_⟩⟩⟩
      · rw [o_le (by omega) (by omega)] at o; omega
      · have := ih (j + 1) (by omega)
        simp only [dpN, if_neg h, Nat.add_zero] at this
        rw [o_1]
        exact this
      · have := ih (j + 1) (by omega)
        simp only [dpN, if_pos h] at this
        rw [o_1, o_1]
        exact this
  exact loop ii 0 (by omega)
-- the answer: the error, or the two parts of the fraction
def odE (g z u : Nat → Int32) (x y : Int32) : Int32 := if 0 ≤ y ∧ y ≤ 1 then if lkS g x = 0 then if 1 ≤ rd z x ∧ rd z x ≤ 4 then if (rd z x).toNatClampNeg ≤ rwf (fun j => u (24 * x.toNatClampNeg + j)) 0 (rd z x).toNatClampNeg then 0 else 2 else 2 else lkS g x else 1
def odV (z u : Nat → Int32) (f : Nat → Int32) (x y : Int32) : Int64 := if y = 0 then Int64.ofNat (abN f (fun j => u (24 * x.toNatClampNeg + j)) (rd z x).toNatClampNeg / Nat.gcd (abN f (fun j => u (24 * x.toNatClampNeg + j)) (rd z x).toNatClampNeg) (16 ^ (rd z x).toNatClampNeg)) else Int64.ofNat (16 ^ (rd z x).toNatClampNeg / Nat.gcd (abN f (fun j => u (24 * x.toNatClampNeg + j)) (rd z x).toNatClampNeg) (16 ^ (rd z x).toNatClampNeg))
def AnL (L : List Nat) (k : Nat) (m : Mem) (K : Option Value → Mem → Prop) (e : Int32) (v : Int64) : Prop := (e = 0 → ∀ m', Fr L m m' → K (some (.long v)) m') ∧ (e ≠ 0 → K (some (.long ((-1000000000 - e : Int32).toInt64))) (set1 m k (wr (m k) e (rd (m k) e + 1))))
set_option maxHeartbeats 4000000 in
theorem AnL.no {L : List Nat} {k : Nat} {m : Mem} {K : Option Value → Mem → Prop} {e a : Int32} {v : Int64} (h : AnL L k m K e v) (he : e = a) (ha : a ≠ 0) : K (some (.long ((-1000000000 - a : Int32).toInt64))) (set1 m k (wr (m k) a (rd (m k) a + 1))) := by subst he; exact h.2 ha
set_option maxHeartbeats 4000000 in
theorem AnL.ok {L : List Nat} {k : Nat} {m m' : Mem} {K : Option Value → Mem → Prop} {e : Int32} {v a : Int64} (h : AnL L k m K e v) (he : e = 0) (hf : Fr L m m') (ha : v = a) : K (some (.long a)) m' := by subst ha; exact h.1 he m' hf
set_option maxHeartbeats 4000000 in
theorem c_X5_odds (hG : fl G = false) (hd : 20 ≤ d) (hs : ShC m g z u) (hz : ShZ z) (hb : RB m 35 44 f) (ht : RT m 36 40 f) (hw : WF f) (k : AnL [36, 39] 34 m K (odE g z u x y) (odV z u f x y)) : Cal G mX5_odds d [.ref 0, .int x, .int y] SH (TA t n i) m K := by
  obtain ⟨d, rfl⟩ : ∃ e, d = e + 1 := ⟨d - 1, by omega⟩
  have hl := lkS_eq (x := x) hs
  refine Cal.of (by decide +kernel) rfl (Nat.le_of_ble_eq_true rfl) (rg_X5_odds_0 hG 0 x y ⟨fun c => ⟨rfl, c_X5_refuse hG (by omega) (by decide) ⟨_, rfl, k.no (by rw [odE, if_neg (fun o => absurd c (Int32.not_lt.mpr o.1))]) (by decide)⟩⟩, fun c => ⟨fun c2 => ?_, fun c2 => ⟨rfl, c_X5_refuse hG (by omega) (by decide) ⟨_, rfl, k.no (by rw [odE, if_neg (fun o => c2 o.2)]) (by decide)⟩⟩⟩⟩)
  have hy : 0 ≤ y ∧ y ≤ 1 := ⟨Int32.not_lt.mp c, c2⟩
  rw [odE, if_pos hy] at k
  refine ⟨rfl, c_X5_lackOf hG (by omega) ⟨_, rfl, fun q2 => ?_, fun q2 => ?_⟩⟩
  · rw [hl] at q2
    rw [if_pos q2] at k
    obtain ⟨xx, h4, rfl, -⟩ := lkS_0 q2
    obtain ⟨zz, hzz, ez⟩ := hz xx h4
    obtain ⟨r1, r2, r3, r4⟩ := rowS (t := t) (n := n) (i := i) xx h4
    have em : m (24 + 2 * xx) 1 = Int32.ofNat zz := by rw [(hs xx h4).2.1, ez]
    unfold odV at k
    rw [tn_o (by omega), rd_o (by omega), ez, tn_o (by omega)] at k
    have hu : ∀ j, j < zz → m (24 + 2 * xx + 1) j = u (24 * xx + j) := fun j hj => (hs xx h4).2.2 j (by rw [ez]; exact (o_lt (by omega) (by omega)).mpr hj) (by omega)
    have er : rwf (m (24 + 2 * xx + 1)) 0 zz = rwf (fun j => u (24 * xx + j)) 0 zz := rwf_eq zz 0 (fun j _ hj => hu j (by omega))
    have hin := rwf_in (w := fun j => u (24 * xx + j)) zz 0
    have hle := rwf_le (w := fun j => u (24 * xx + j)) zz 0
    generalize hW : (fun j => u (24 * xx + j)) = W at *
    have hu : ∀ j, j < zz → m (24 + 2 * xx + 1) j = W j := fun j hj => by rw [hu j hj, ← hW]
    refine ⟨23, rfl, 4, rfl, ib_o h4 (by decide), 24 + 2 * xx, by rw [tn_o (by omega)]; exact r4, r1, ?_⟩
    rw [em]
    refine ⟨fun q => c_X5_refuse hG (by omega) (by decide) ⟨_, rfl, k.no (by rw [if_neg (fun o => absurd q (Int32.not_lt.mpr o.1))]) (by decide)⟩, fun q => ⟨fun q3 => c_X5_refuse hG (by omega) (by decide) ⟨_, rfl, k.no (by rw [if_neg (fun o => absurd q3 (Int32.not_lt.mpr o.2))]) (by decide)⟩, fun q3 => ?_⟩⟩
    have q5 : 1 ≤ Int32.ofNat zz ∧ Int32.ofNat zz ≤ 4 := ⟨Int32.not_lt.mp q, Int32.not_lt.mp q3⟩
    have z4 : zz ≤ 4 := (o_le (b := 4) (by omega) (by decide)).mp q5.2
    rw [if_pos q5] at k
    refine c_X5_pullsIn hG (by omega) r1 r2 r3 em hzz ⟨_, rfl, ?_⟩
    rw [em, er]
    refine ⟨fun q6 => ?_, fun q6 => c_X5_refuse hG (by omega) (by decide) ⟨_, rfl, k.no (by rw [if_neg (fun o => q6 ((o_le (by omega) (by omega)).mpr o))]) (by decide)⟩⟩
    have q6 := (o_le (by omega) (by omega)).mp q6
    rw [if_pos q6] at k
    have hin : ∀ j, j < zz → 1 ≤ W j ∧ W j ≤ 15 := fun j hj => by
      have := hin j (by omega) (by omega)
      rw [← hW]
      exact this
    have hB := p16 z4
    have hA := abN_le f W zz
    -- the halving
    have halves : ∀ (e j a b : Nat), j + e = 4 * zz → ∀ (m' : Mem), Fr [36, 39] m m' → b = 2 ^ e → a ≤ 65536 → 0 < a → a / Nat.gcd a b = abN f W zz / Nat.gcd (abN f W zz) (16 ^ zz) → b / Nat.gcd a b = 16 ^ zz / Nat.gcd (abN f W zz) (16 ^ zz) → WP G (rmD (d + 1) 0 0) mX5_odds (QC G SH (TA t n i) K) 0 0 132 [(2, .int y), (4, .ref (24 + 2 * xx)), (5, .int (Int32.ofNat a)), (6, .int (Int32.ofNat b)), (7, .int (Int32.ofNat j))] [] (SH, TA t n i, m') := by
      intro e
      induction e with
      | zero =>
        intro j a b hj m' hf hb2 ha ha0 h1 h2
        have hb1 : b = 1 := hb2
        subst hb1
        rw [Nat.gcd_one_right, Nat.div_one] at h1 h2
        have em' : m' (24 + 2 * xx) 1 = Int32.ofNat zz := by rw [hf _ (by simp; omega), em]
        refine rg_X5_odds_132 hG y (24 + 2 * xx) _ _ _ ⟨r1, fun _ => ⟨fun y0 => k.ok rfl hf ?_, fun y0 => k.ok rfl hf ?_⟩, fun o => absurd ?_ o⟩
        · rw [if_neg y0, ← h2, o_l (by omega)]
        · rw [if_pos y0, ← h1, o_l (by omega)]
        · rw [em', show (4 : Int32) = Int32.ofNat 4 from rfl, o_mul, o_le (by omega) (by omega)]; omega
      | succ e ih =>
        intro j a b hj m' hf hb2 ha ha0 h1 h2
        have em' : m' (24 + 2 * xx) 1 = Int32.ofNat zz := by rw [hf _ (by simp; omega), em]
        have hbb : b ≤ 65536 := by
          have : b ≤ 2 ^ 16 := by rw [hb2]; exact Nat.pow_le_pow_right (by decide) (by omega)
          exact this
        refine rg_X5_odds_132 hG y (24 + 2 * xx) _ _ _ ⟨r1, fun o => ?_, fun _ => ⟨by decide, ?_⟩⟩
        · rw [em', show (4 : Int32) = Int32.ofNat 4 from rfl, o_mul, o_le (by omega) (by omega)] at o; omega
        have e2 : Int32.ofNat a - Int32.ofNat a / 2 * 2 = Int32.ofNat (a % 2) := by
          rw [show (2 : Int32) = Int32.ofNat 2 from rfl, o_div (by omega) (by omega), o_mul, o_sub (by omega) (by omega)]
          congr 1
          omega
        rw [e2]
        refine ⟨fun o => ?_, fun o => ⟨by decide, by decide, ?_⟩⟩
        · have hodd : a % 2 = 1 := by
            by_cases q : a % 2 = 0
            · rw [q] at o; exact absurd rfl o
            · omega
          rw [hb2, odd_gcd hodd, Nat.div_one] at h1 h2
          rw [← hb2] at h2
          refine ⟨fun y0 => k.ok rfl hf ?_, fun y0 => k.ok rfl hf ?_⟩
          · rw [if_neg y0, ← h2, o_l (by omega)]
          · rw [if_pos y0, ← h1, o_l (by omega)]
        · have hev : a % 2 = 0 := (o_eq (b := 0) (by omega) (by decide)).mp o
          obtain ⟨a', rfl⟩ : ∃ q, a = 2 * q := ⟨a / 2, by omega⟩
          have hb3 : b = 2 * 2 ^ e := by rw [hb2, Nat.pow_succ, Nat.mul_comm]
          have g2 : Nat.gcd (2 * a') b = 2 * Nat.gcd a' (2 ^ e) := by rw [hb3, Nat.gcd_mul_left]
          rw [show (2 : Int32) = Int32.ofNat 2 from rfl, o_div (by omega) (by omega), o_div (by omega) (by omega), o_1]
          rw [show 2 * a' / 2 = a' by omega, show b / 2 = 2 ^ e by omega]
          refine ih (j + 1) a' (2 ^ e) (by omega) m' hf rfl (by omega) (by omega) ?_ ?_
          · rw [← h1, g2, Nat.mul_div_mul_left _ _ (by decide)]
          · rw [← h2, g2, hb3, Nat.mul_div_mul_left _ _ (by decide)]
    have prod : ∀ (e j : Nat), j + e = zz → ∀ (m' : Mem), Fr [36, 39] m m' → WP G (rmD (d + 1) 0 0) mX5_odds (QC G SH (TA t n i) K) 0 0 85 [(0, .ref 0), (2, .int y), (4, .ref (24 + 2 * xx)), (5, .int (Int32.ofNat (abN f W j))), (6, .int (Int32.ofNat (16 ^ j))), (7, .int (Int32.ofNat j))] [] (SH, TA t n i, m') := by
      intro e
      induction e with
      | zero =>
        intro j hj m' hf
        have : j = zz := by omega
        subst this
        have em' : m' (24 + 2 * xx) 1 = Int32.ofNat j := by rw [hf _ (by simp; omega), em]
        refine rg_X5_odds_85 hG 0 y (24 + 2 * xx) _ _ _ ⟨r1, fun _ => ⟨fun a0 => ?_, fun a0 => ?_⟩, fun o => absurd ?_ o⟩
        · refine halves (4 * j) 0 _ _ (by omega) m' hf ?_ (by omega) ?_ rfl rfl
          · rw [show (16 : Nat) = 2 ^ 4 from rfl, ← Nat.pow_mul]
          · by_cases q : abN f W j = 0
            · rw [q] at a0; exact absurd rfl a0
            · omega
        · have a0 := (o_eq (b := 0) (by omega) (by decide)).mp a0
          rw [a0, Nat.gcd_zero_left, Nat.zero_div, Nat.div_self (Nat.pow_pos (by decide))] at k
          refine k.ok rfl hf ?_
          rcases x01 hy with rfl | rfl
          · rw [if_pos rfl]; rfl
          · rw [if_neg (by decide)]; rfl
        · rw [em', o_le (by omega) (by omega)]; omega
      | succ e ih =>
        intro j hj m' hf
        have em' : m' (24 + 2 * xx) 1 = Int32.ofNat zz := by rw [hf _ (by simp; omega), em]
        have er' : m' (24 + 2 * xx + 1) = m (24 + 2 * xx + 1) := hf _ (by simp; omega)
        refine rg_X5_odds_85 hG 0 y (24 + 2 * xx) _ _ _ ⟨r1, fun o => ?_, fun _ => ⟨rfl, ?_⟩⟩
        · rw [em', o_le (by omega) (by omega)] at o; omega
        refine c_X5_casesOf hG (by omega) (hb.fr hf (by decide) (by intro j hj; simp; omega)) (ht.fr hf (by decide) (by decide) (by decide) (by decide)) hw r1 r2 r3 em' hzz (by rw [er']; exact hu) (by omega) (by omega) (hin j (by omega)) (fun m2 hf2 => ⟨_, rfl, ?_⟩)
        rw [show (16 : Int32) = Int32.ofNat 16 from rfl, o_mul, o_mul, o_1]
        exact ih (j + 1) (by omega) m2 (hf.tr hf2)
    exact prod zz 0 (by omega) m Fr.rf
  · rw [hl] at q2 ⊢
    exact c_X5_refuse hG (by omega) (lkS_n q2) ⟨_, rfl, k.no (by rw [if_neg q2]) q2⟩
end

