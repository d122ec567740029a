-- 59.judge
set_option maxHeartbeats 4000000 in
theorem e24 (x c : Nat) : (24 : Int32) * Int32.ofNat x + Int32.ofNat c = Int32.ofNat (24 * x + c) := by
  rw [show (24 : Int32) = Int32.ofNat 24 from rfl, o_mul, o_add]
-- the first of k places from i on at which a row of piles differs
def jdA (w : Nat → Int32) (f : Nat → Int32) (c : Int32) (i : Nat) (k : Nat) : Nat := match k with
  | 0 => i
  | e + 1 => if w i = pl f c (Int32.ofNat i) then jdA w f c (i + 1) e else i
def jgV (w : Nat → Int32) (f : Nat → Int32) (c : Int32) (z h : Nat) : Int32 := if jdA w f c 0 (min z h) = z ∧ jdA w f c 0 (min z h) = h then -1 else Int32.ofNat (jdA w f c 0 (min z h))
def jgR (g z u : Nat → Int32) (f : Nat → Int32) (x y : Int32) : Int32 × Int32 := if 0 ≤ y ∧ y ≤ 15 then if lkS g x = 0 then (0, jgV (fun j => u (24 * x.toNatClampNeg + j)) f y (rd z x).toNatClampNeg (sz f y).toNatClampNeg) else (lkS g x, 0) else (1, 0)
set_option maxHeartbeats 4000000 in
theorem lt16 {y : Int32} : y < 16 ↔ y ≤ 15 := by
  rw [Int32.lt_iff_toInt_lt, Int32.le_iff_toInt_le, show (16 : Int32).toInt = 16 from rfl, show (15 : Int32).toInt = 15 from rfl]
  omega
section
variable {G : Gm} {d t n i : Nat} {m : Mem} {K : Option Value → Mem → Prop} {f g z u : Nat → Int32} {x y : Int32}
set_option maxHeartbeats 4000000 in
theorem c_X5_judge (hG : fl G = false) (hd : 20 ≤ d) (hs : ShC m g z u) (hz : ShZ z) (hb : RB m 35 44 f) (hw : WF f) (k : Ans [] 34 m K (jgR g z u f x y)) : Cal G mX5_judge d [.ref 0, .int x, .int y] SH (TA t n i) m K := by
  obtain ⟨d, rfl⟩ : ∃ e, d = e + 1 := ⟨d - 1, by omega⟩
  have hl := lkS_eq (x := x) hs
  refine Cal.of (by decide +kernel) rfl (Nat.le_of_ble_eq_true rfl) (rg_X5_judge_0 hG 0 x y (c_X5_isCell hG (by omega) ⟨_, rfl, fun q => ?_, fun q => ⟨rfl, c_X5_refuse hG (by omega) (by decide) ⟨_, rfl, k.no Fr.rf (by rw [jgR, if_neg (fun o => b0 q ⟨o.1, lt16.mpr o.2⟩)]) (by decide)⟩⟩⟩))
  have q := b1 q
  have c0 : 0 ≤ y ∧ y ≤ 15 := ⟨q.1, lt16.mp q.2⟩
  rw [jgR, if_pos c0] at k
  refine ⟨rfl, c_X5_lackOf hG (by omega) ⟨_, rfl, fun q2 => ?_, fun q2 => ?_⟩⟩
  · rw [hl] at q2
    obtain ⟨xx, h4, rfl, -⟩ := lkS_0 q2
    obtain ⟨zz, hzz, ez⟩ := hz xx h4
    obtain ⟨r1, r2, r3, r4⟩ := rowS (t := t) (n := n) (i := i) xx h4
    obtain ⟨hh, h5, eh⟩ := oN' (N := 5) (hw.2.1 y c0.1 c0.2).1.1 (hw.2.1 y c0.1 c0.2).1.2 (by decide)
    rw [if_pos q2, tn_o (by omega), rd_o (by omega), ez, tn_o (by omega), eh, tn_o (by omega)] at k
    have em : m (24 + 2 * xx) 1 = Int32.ofNat zz := by rw [(hs xx h4).2.1, ez]
    have hu : ∀ j, j < zz → m (24 + 2 * xx + 1) j = u (24 * xx + j) := fun j hj => (hs xx h4).2.2 j (by rw [ez]; exact (o_lt (by omega) (by omega)).mpr hj) (by omega)
    refine ⟨23, rfl, 4, rfl, ib_o h4 (by decide), 24 + 2 * xx, by rw [tn_o (by omega)]; exact r4, 35, rfl, rfl, c_X0_highOf hG (by omega) B35 hb ⟨_, rfl, r1, ?_⟩⟩
    rw [if_pos c0, eh, em]
    have eb : (if Int32.ofNat hh < Int32.ofNat zz then Int32.ofNat hh else Int32.ofNat zz) = Int32.ofNat (min zz hh) := by
      by_cases h : hh < zz
      · rw [if_pos ((o_lt (by omega) (by omega)).mpr h), Nat.min_eq_right (by omega)]
      · rw [if_neg (fun o => h ((o_lt (by omega) (by omega)).mp o)), Nat.min_eq_left (by omega)]
    rw [eb]
    generalize hW : (fun j => u (24 * xx + j)) = W at *
    have hu : ∀ j, j < zz → m (24 + 2 * xx + 1) j = W j := fun j hj => by rw [hu j hj, ← hW]
    have loop : ∀ (e j : Nat), j + e = min zz hh → jdA W f y 0 (min zz hh) = jdA W f y j e → WP G (rmD (d + 1) 0 0) mX5_judge (QC G SH (TA t n i) K) 0 0 60 [(0, .ref 0), (2, .int y), (4, .ref (24 + 2 * xx)), (5, .int (Int32.ofNat hh)), (6, .int (Int32.ofNat (min zz hh))), (7, .int (Int32.ofNat j))] [] (SH, TA t n i, m) := by
      intro e
      induction e with
      | zero =>
        intro j hj hr
        have hr : jdA W f y 0 (min zz hh) = j := hr
        rw [jgV, hr] at k
        refine rg_X5_judge_60 hG 0 _ _ _ _ _ ⟨fun _ => ⟨r1, fun h => ?_, fun h => ?_⟩, fun o => absurd ?_ o⟩
        · have hne : zz ≠ hh := fun o => h (by rw [em, o])
          have := k.ok Fr.rf (by rw [if_neg (fun o => hne (o.1.symm.trans o.2))])
          rw [show min zz hh = j by omega]
          exact this
        · rw [em] at h
          have h := (o_eq (by omega) (by omega)).mp h
          exact k.ok Fr.rf (by rw [if_pos (by omega)])
        · rw [o_le (by omega) (by omega)]; omega
      | succ e ih =>
        intro j hj hr
        have jc : 0 ≤ Int32.ofNat j ∧ Int32.ofNat j < sz f y := ⟨o_0 _ (by omega), by rw [eh]; exact (o_lt (by omega) (by omega)).mpr (by omega)⟩
        refine rg_X5_judge_60 hG 0 _ _ _ _ _ ⟨fun o => ?_, fun _ => ⟨r1, c_X2_at hG (by omega) r1 r2 r3 (by rw [em]; exact (o_le (by omega) (by omega)).mpr hzz) (by decide) ⟨_, rfl, rfl, 35, rfl, rfl, c_X0_thingAt hG (by omega) B35 hb hw.2.1 ⟨_, rfl, ?_⟩⟩⟩⟩
        · rw [o_le (by omega) (by omega)] at o; omega
        rw [if_pos ⟨o_0 j (by omega), by rw [em]; exact (o_lt (by omega) (by omega)).mpr (by omega)⟩, rd_o (by omega), hu j (by omega), if_pos ⟨c0.1, c0.2, jc⟩, o_1]
        refine ⟨fun h => ih (j + 1) (by omega) ?_, fun h => ?_⟩
        · rw [hr, jdA, if_pos h]
        · have hr : jdA W f y 0 (min zz hh) = j := by rw [hr, jdA, if_neg h]
          rw [jgV, hr, if_neg (by omega)] at k
          exact k.ok Fr.rf rfl
    exact loop (min zz hh) 0 (by omega) rfl
  · rw [hl] at q2 ⊢
    exact c_X5_refuse hG (by omega) (lkS_n q2) ⟨_, rfl, k.no Fr.rf (by rw [if_neg q2]) q2⟩
set_option maxHeartbeats 4000000 in
theorem c_X6_judge (hG : fl G = false) (hd : 20 ≤ d) (hz : ShZ (m 86)) (hw : WF (m 76)) (k : Ans [] 79 m K (jgR (m 85) (m 86) (m 87) (m 76) x y)) : Cal G mX6_judge d [.ref 75, .int x, .int y] SH (TA t n i) m K := by
  obtain ⟨d, rfl⟩ : ∃ e, d = e + 1 := ⟨d - 1, by omega⟩
  refine Cal.of (by decide +kernel) rfl (Nat.le_of_ble_eq_true rfl) (rg_X6_judge_0 hG 75 x y (c_X6_isCell hG (by omega) ⟨_, rfl, fun q => ⟨rfl, c_X6_error hG (by omega) (by decide) ⟨_, rfl, k.no Fr.rf (by rw [jgR, if_neg (b0 q)]) (by decide)⟩⟩, fun q => ?_⟩))
  have c0 := b1 q
  rw [jgR, if_pos c0] at k
  refine ⟨rfl, c_X6_lacks hG (by omega) ⟨_, rfl, fun q2 => ?_, fun q2 => ?_⟩⟩
  · have q2 := lkS_p.mp q2
    obtain ⟨xx, h4, rfl, -⟩ := lkS_0 q2
    obtain ⟨zz, hzz, ez⟩ := hz xx h4
    obtain ⟨hh, h5, eh⟩ := oN' (N := 5) (hw.2.1 y c0.1 c0.2).1.1 (hw.2.1 y c0.1 c0.2).1.2 (by decide)
    rw [if_pos q2, tn_o (by omega), rd_o (by omega), ez, tn_o (by omega), eh, tn_o (by omega)] at k
    generalize hW : (fun j => m 87 (24 * xx + j)) = W at *
    have hu : ∀ j, m 87 (24 * xx + j) = W j := fun j => by rw [← hW]
    have fin : ∀ j, jdA W (m 76) y 0 (min zz hh) = j → (¬ Int32.ofNat j = rd (m 86) (Int32.ofNat xx) → K (some (.int (Int32.ofNat j))) m) ∧ (Int32.ofNat j = rd (m 86) (Int32.ofNat xx) → Cal G mX6_size d [.ref 75, .int y] SH (TA t n i) m (fun v10 m11 => ∃ r12, v10 = some (.int r12) ∧ ((¬ Int32.ofNat j = r12 → K (some (.int (Int32.ofNat j))) m11) ∧ (Int32.ofNat j = r12 → K (some (.int (-1))) m11)))) := by
      intro j hr
      have jb : j ≤ 24 := by
        have key : ∀ (e a : Nat), jdA W (m 76) y a e ≤ a + e := by
          intro e
          induction e with
          | zero => intro a; exact Nat.le_refl _
          | succ e ih =>
            intro a
            rw [jdA]
            split
            · have := ih (a + 1); omega
            · omega
        have := key (min zz hh) 0
        omega
      rw [jgV, hr] at k
      rw [rd_o (by omega), ez]
      refine ⟨fun h => k.ok Fr.rf (by rw [if_neg (fun o => h (by rw [o.1]))]), fun h => c_X6_size hG (by omega) c0 ⟨_, rfl, fun h2 => ?_, fun h2 => ?_⟩⟩
      · rw [eh] at h2
        exact k.ok Fr.rf (by rw [if_neg (fun o => h2 (by rw [o.2]))])
      · rw [eh] at h2
        exact k.ok Fr.rf (by rw [if_pos ⟨(o_eq (by omega) (by omega)).mp h, (o_eq (by omega) (by omega)).mp h2⟩])
    have loop : ∀ (e j : Nat), j + e = min zz hh → jdA W (m 76) y 0 (min zz hh) = jdA W (m 76) y j e → WP G (rmD (d + 1) 0 0) mX6_judge (QC G SH (TA t n i) K) 0 0 30 [(0, .ref 75), (1, .int (Int32.ofNat xx)), (2, .int y), (4, .int (Int32.ofNat j))] [] (SH, TA t n i, m) := by
      intro e
      induction e with
      | zero =>
        intro j hj hr
        have hf := fin j hr
        refine rg_X6_judge_30 hG 75 _ _ _ ⟨rfl, 86, rfl, 4, rfl, ib_o h4 (by decide), fun _ => ⟨ib_o h4 (by decide), hf⟩, fun h => c_X6_size hG (by omega) c0 ⟨_, rfl, fun _ => ⟨ib_o h4 (by decide), hf⟩, fun h2 => ?_⟩⟩
        exfalso
        rw [rd_o (by omega), ez, o_le (by omega) (by omega)] at h
        rw [eh, o_le (by omega) (by omega)] at h2
        omega
      | succ e ih =>
        intro j hj hr
        refine rg_X6_judge_30 hG 75 _ _ _ ⟨rfl, 86, rfl, 4, rfl, ib_o h4 (by decide), fun h => ?_, fun h => c_X6_size hG (by omega) c0 ⟨_, rfl, fun h2 => ?_, fun h2 => ⟨87, rfl, 96, rfl, ?_⟩⟩⟩
        · exfalso
          rw [rd_o (by omega), ez, o_le (by omega) (by omega)] at h
          omega
        · exfalso
          rw [eh, o_le (by omega) (by omega)] at h2
          omega
        rw [e24, rd_o (by omega), hu]
        refine ⟨ib_o (by omega) (by decide), c_X6_at1 hG (by omega) c0 ⟨o_0 _ (by omega), (o_lt (b := 5) (by omega) (by decide)).mpr (by omega)⟩ ⟨_, rfl, fun h3 => ⟨ib_o h4 (by decide), fin j (by rw [hr, jdA, if_neg h3])⟩, fun h3 => ?_⟩⟩
        rw [o_1]
        exact ih (j + 1) (by omega) (by rw [hr, jdA, if_pos h3])
    exact loop (min zz hh) 0 (by omega) rfl
  · have q2 : lkS (m 85) x ≠ 0 := fun e => q2 (lkS_p.mpr e)
    have hn := lkS_n q2
    exact c_X6_error hG (by omega) ⟨Int32.le_trans (by decide) hn.1, hn.2⟩ ⟨_, rfl, k.no Fr.rf (by rw [if_neg q2]) q2⟩
def bdR (w : Nat → Int32) (N : Nat) (x : Int32) : Int32 × Int32 := if 0 ≤ x ∧ x < Int32.ofNat N then (0, rd w x) else (2, 0)
set_option maxHeartbeats 4000000 in
theorem c_X5_body (hG : fl G = false) (hd : 20 ≤ d) {N : Nat} {w : Nat → Int32} (hN : N ≤ 30) (h1 : m 21 1 = Int32.ofNat N) (h2 : ∀ j, j < N → m 22 j = w j) (k : Ans [] 34 m K (bdR w N x)) : Cal G mX5_body d [.ref 0, .int x] SH (TA t n i) m K := by
  obtain ⟨d, rfl⟩ : ∃ e, d = e + 1 := ⟨d - 1, by omega⟩
  refine Cal.of (by decide +kernel) rfl (Nat.le_of_ble_eq_true rfl) (rg_X5_body_0 hG 0 x ⟨rfl, 20, rfl, rfl, 21, rfl, rfl, c_X2_holds hG (by omega) rfl ⟨_, rfl, fun q => ?_, fun q => ?_⟩⟩)
  · rw [h1] at q
    exact c_X5_refuse hG (by omega) (by decide) ⟨_, rfl, k.no Fr.rf (by rw [bdR, if_neg (b0 q)]) (by decide)⟩
  · have q := b1 q
    refine c_X2_at hG (by omega) rfl rfl rfl (by rw [h1]; exact (o_le (by omega) (by decide)).mpr hN) (by decide) ⟨_, rfl, ?_⟩
    rw [if_pos q]
    rw [h1] at q
    refine k.ok Fr.rf ?_
    rw [bdR, if_pos q]
    obtain ⟨j, hj, rfl⟩ := oN q.1 q.2 (by omega)
    rw [rd_o (by omega), rd_o (by omega), h2 j hj]
set_option maxHeartbeats 4000000 in
theorem le_pred {x : Int32} {N : Nat} (hN : N ≤ 30) : x ≤ Int32.ofNat N - 1 ↔ x < Int32.ofNat N := by
  have e : (Int32.ofNat N).toInt = N := Int32.toInt_ofNat_of_lt (by omega)
  have e2 : (Int32.ofNat N - 1).toInt = (N : Int) - 1 := by
    rw [Int32.toInt_sub, e, show (1 : Int32).toInt = 1 from rfl, Int.bmod_eq_of_le (by omega) (by omega)]
  rw [Int32.le_iff_toInt_le, Int32.lt_iff_toInt_lt, e, e2]
  omega
set_option maxHeartbeats 4000000 in
theorem c_X6_body (hG : fl G = false) (hd : 20 ≤ d) {N : Nat} (hN : N ≤ 30) (h1 : m 75 15 = Int32.ofNat N) (k : Ans [] 79 m K (bdR (m 84) N x)) : Cal G mX6_body d [.ref 75, .int x] SH (TA t n i) m K := by
  obtain ⟨d, rfl⟩ : ∃ e, d = e + 1 := ⟨d - 1, by omega⟩
  refine Cal.of (by decide +kernel) rfl (Nat.le_of_ble_eq_true rfl) (rg_X6_body_0 hG 75 x ?_)
  rw [h1]
  refine ⟨rfl, c_X6_in hG (by omega) ⟨_, rfl, fun q => ?_, fun q => ?_⟩⟩
  · exact c_X6_error hG (by omega) (by decide) ⟨_, rfl, k.no Fr.rf (by rw [bdR, if_neg (fun o => b0 q ⟨o.1, (le_pred hN).mpr o.2⟩)]) (by decide)⟩
  · have q := b1 q
    have q2 : 0 ≤ x ∧ x < Int32.ofNat N := ⟨q.1, (le_pred hN).mp q.2⟩
    exact ⟨84, rfl, 30, rfl, ib30 q2.1 (Int32.lt_of_lt_of_le q2.2 ((o_le (b := 30) (by omega) (by decide)).mpr hN)), k.ok Fr.rf (by rw [bdR, if_pos q2])⟩
end

