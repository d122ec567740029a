-- 58.look
section
variable {G : Gm} {d t n i : Nat} {m : Mem} {K : Option Value → Mem → Prop} {f : Nat → Int32} {x y z : Int32}
def snA (f : Nat → Int32) (y : Int32) (c : Nat) (k : Nat) : Int32 × Int32 := match k with
  | 0 => (2, 0)
  | e + 1 => if sz f (Int32.ofNat c) ≤ y then snA f y (c + 4) e else (0, pl f (Int32.ofNat c) y)
def snR (f : Nat → Int32) (x y : Int32) : Int32 × Int32 := if 0 ≤ x ∧ x ≤ 3 then if 0 ≤ y ∧ y ≤ 4 then snA f y x.toNatClampNeg 4 else (1, 0) else (1, 0)
set_option maxHeartbeats 4000000 in
theorem lt4 {y : Int32} : ¬ 4 ≤ y ↔ y ≤ 3 := by
  rw [Int32.le_iff_toInt_le, Int32.le_iff_toInt_le, show (4 : Int32).toInt = 4 from rfl, show (3 : Int32).toInt = 3 from rfl]
  omega
set_option maxHeartbeats 4000000 in
theorem lt54 {y : Int32} : y < 5 ↔ y ≤ 4 := by
  rw [Int32.lt_iff_toInt_lt, Int32.le_iff_toInt_le, show (5 : Int32).toInt = 5 from rfl, show (4 : Int32).toInt = 4 from rfl]
  omega
set_option maxHeartbeats 4000000 in
theorem o_4 (c : Nat) : Int32.ofNat c + 4 = Int32.ofNat (c + 4) := by
  rw [show (4 : Int32) = Int32.ofNat 4 from rfl, o_add]
set_option maxHeartbeats 4000000 in
theorem c_X5_seen (hG : fl G = false) (hd : 20 ≤ d) (hb : RB m 35 44 f) (hw : WF f) (k : Ans [] 34 m K (snR f x y)) : Cal G mX5_seen d [.ref 0, .int x, .int y] SH (TA t n i) m K := by
  obtain ⟨d, rfl⟩ : ∃ e, d = e + 1 := ⟨d - 1, by omega⟩
  have no : ¬ (0 ≤ x ∧ x ≤ 3 ∧ 0 ≤ y ∧ y ≤ 4) → ∀ {e : Nat}, 1 ≤ e → Cal G mX5_refuse e [.ref 0, .int 1] SH (TA t n i) m (fun v1 m2 => ∃ r3, v1 = some (.int r3) ∧ K (some (.int r3)) m2) := by
    intro h e he
    refine c_X5_refuse hG he (by decide) ⟨_, rfl, k.no Fr.rf ?_ (by decide)⟩
    unfold snR
    split
    · split
      · rename_i a b; exact absurd ⟨a.1, a.2, b⟩ h
      · rfl
    · rfl
  refine Cal.of (by decide +kernel) rfl (Nat.le_of_ble_eq_true rfl) (rg_X5_seen_0 hG 0 x y ⟨fun c => ⟨rfl, no (fun o => absurd c (Int32.not_lt.mpr o.1)) (by omega)⟩, fun c => ⟨fun c2 => ⟨rfl, no (fun o => lt4.mpr o.2.1 c2) (by omega)⟩, fun c2 => ⟨fun c3 => ⟨rfl, no (fun o => absurd c3 (Int32.not_lt.mpr o.2.2.1)) (by omega)⟩, fun c3 => ⟨fun c4 => ?_, fun c4 => ⟨rfl, no (fun o => c4 (lt54.mpr o.2.2.2)) (by omega)⟩⟩⟩⟩⟩)
  have hx : 0 ≤ x ∧ x ≤ 3 := ⟨Int32.not_lt.mp c, lt4.mp c2⟩
  have hy : 0 ≤ y ∧ y ≤ 4 := ⟨Int32.not_lt.mp c3, lt54.mp c4⟩
  rw [snR, if_pos hx, if_pos hy] at k
  obtain ⟨x, hx4, rfl⟩ := oN' (N := 3) hx.1 hx.2 (by decide)
  rw [tn_o (by omega)] at k
  generalize hS : snA f y x 4 = S at k
  have loop : ∀ (e c : Nat), c + 4 * e = x + 16 → S = snA f y c e → WP G (rmD (d + 1) 0 0) mX5_seen (QC G SH (TA t n i) K) 0 0 26 [(0, .ref 0), (2, .int y), (3, .int (Int32.ofNat c))] [] (SH, TA t n i, m) := by
    intro e
    induction e with
    | zero =>
      intro c hc hr
      refine rg_X5_seen_26 hG 0 y _ ⟨fun _ => ⟨rfl, c_X5_refuse hG (by omega) (by decide) ⟨_, rfl, k.no Fr.rf (by rw [hr]; rfl) (by decide)⟩⟩, fun q => absurd ?_ q⟩
      rw [show (16 : Int32) = Int32.ofNat 16 from rfl, o_le (by omega) (by omega)]; omega
    | succ e ih =>
      intro c hc hr
      have c0 : 0 ≤ Int32.ofNat c ∧ Int32.ofNat c ≤ 15 := ⟨o_0 _ (by omega), (o_le (b := 15) (by omega) (by decide)).mpr (by omega)⟩
      refine rg_X5_seen_26 hG 0 y _ ⟨fun q => ?_, fun _ => ⟨rfl, 35, rfl, rfl, c_X0_thingAt hG (by omega) B35 hb hw.2.1 ⟨_, rfl, ?_⟩⟩⟩
      · rw [show (16 : Int32) = Int32.ofNat 16 from rfl, o_le (by omega) (by omega)] at q; omega
      rw [snA] at hr
      by_cases h : sz f (Int32.ofNat c) ≤ y
      · rw [if_pos h] at hr
        rw [if_neg (fun o => absurd o.2.2.2 (Int32.not_lt.mpr h)), o_4]
        exact ⟨fun _ => ih (c + 4) (by omega) hr, fun q => absurd (by decide) q⟩
      · rw [if_neg h] at hr
        have hl := Int32.not_le.mp h
        rw [if_pos ⟨c0.1, c0.2, hy.1, hl⟩]
        exact ⟨fun q => absurd q (Int32.not_lt.mpr ((hw.2.1 _ c0.1 c0.2).2 y hy.1 hl).1.1), fun _ => k.ok Fr.rf hr⟩
  exact loop 4 x (by omega) hS.symm
set_option maxHeartbeats 4000000 in
theorem c_X6_seen (hG : fl G = false) (hd : 20 ≤ d) (hw : WF (m 76)) (k : Ans [] 79 m K (snR (m 76) x y)) : Cal G mX6_seen d [.ref 75, .int x, .int y] SH (TA t n i) m K := by
  obtain ⟨d, rfl⟩ : ∃ e, d = e + 1 := ⟨d - 1, by omega⟩
  refine Cal.of (by decide +kernel) rfl (Nat.le_of_ble_eq_true rfl) (rg_X6_seen_0 hG 75 x y (c_X6_in hG (by omega) ⟨_, rfl, fun q => ⟨rfl, c_X6_error hG (by omega) (by decide) ⟨_, rfl, k.no Fr.rf (by rw [snR, if_neg (b0 q)]) (by decide)⟩⟩, fun q => ?_⟩))
  have hx := b1 q
  rw [snR, if_pos hx] at k
  refine c_X6_in hG (by omega) ⟨_, rfl, fun q2 => ?_, fun q2 => ⟨rfl, c_X6_error hG (by omega) (by decide) ⟨_, rfl, k.no Fr.rf (by rw [if_neg (b0 q2)]) (by decide)⟩⟩⟩
  have hy := b1 q2
  rw [if_pos hy] at k
  obtain ⟨x, hx4, rfl⟩ := oN' (N := 3) hx.1 hx.2 (by decide)
  rw [tn_o (by omega)] at k
  generalize hS : snA (m 76) y x 4 = S at k
  have loop : ∀ (e c : Nat), c + 4 * e = x + 16 → S = snA (m 76) y c e → WP G (rmD (d + 1) 0 0) mX6_seen (QC G SH (TA t n i) K) 0 0 26 [(0, .ref 75), (2, .int y), (3, .int (Int32.ofNat c))] [] (SH, TA t n i, m) := by
    intro e
    induction e with
    | zero =>
      intro c hc hr
      refine rg_X6_seen_26 hG 75 y _ ⟨fun _ => ⟨rfl, c_X6_error hG (by omega) (by decide) ⟨_, rfl, k.no Fr.rf (by rw [hr]; rfl) (by decide)⟩⟩, fun q => absurd ?_ q⟩
      rw [show (16 : Int32) = Int32.ofNat 16 from rfl, o_le (by omega) (by omega)]; omega
    | succ e ih =>
      intro c hc hr
      have c0 : 0 ≤ Int32.ofNat c ∧ Int32.ofNat c ≤ 15 := ⟨o_0 _ (by omega), (o_le (b := 15) (by omega) (by decide)).mpr (by omega)⟩
      rw [snA] at hr
      refine rg_X6_seen_26 hG 75 y _ ⟨fun q => ?_, fun _ => ⟨rfl, c_X6_size hG (by omega) c0 ⟨_, rfl, fun h => ?_, fun h => ?_⟩⟩⟩
      · rw [show (16 : Int32) = Int32.ofNat 16 from rfl, o_le (by omega) (by omega)] at q; omega
      · rw [if_pos h] at hr
        rw [o_4]
        exact ih (c + 4) (by omega) hr
      · rw [if_neg h] at hr
        exact c_X6_at1 hG (by omega) c0 ⟨hy.1, lt54.mpr hy.2⟩ ⟨_, rfl, k.ok Fr.rf hr⟩
  exact loop 4 x (by omega) hS.symm
def flA (f : Nat → Int32) (y w : Int32) (c : Nat) (k : Nat) : Int32 := match k with
  | 0 => w
  | e + 1 => flA f y (if y ≤ sz f (Int32.ofNat c) then w else w + (y - sz f (Int32.ofNat c))) (c + 1) e
def flR (f : Nat → Int32) (y : Int32) : Int32 × Int32 := if 0 ≤ y ∧ y ≤ 5 then (0, flA f y 0 1 15) else (1, 0)
set_option maxHeartbeats 4000000 in
theorem sub5 {y s : Int32} (hy : 0 ≤ y ∧ y ≤ 5) (hs : 0 ≤ s ∧ s ≤ 5) : (if (0 : Int32) < y - s then y - s else 0) = if y ≤ s then 0 else y - s := by
  obtain ⟨a, ha, rfl⟩ := oN' (N := 5) hy.1 hy.2 (by decide)
  obtain ⟨b, hb, rfl⟩ := oN' (N := 5) hs.1 hs.2 (by decide)
  have : ∀ a, a < 6 → ∀ b, b < 6 → (if (0 : Int32) < Int32.ofNat a - Int32.ofNat b then Int32.ofNat a - Int32.ofNat b else 0) = if Int32.ofNat a ≤ Int32.ofNat b then 0 else Int32.ofNat a - Int32.ofNat b := by decide +kernel
  exact this a (by omega) b (by omega)
set_option maxHeartbeats 4000000 in
theorem c_X5_fill (hG : fl G = false) (hd : 20 ≤ d) (hb : RB m 35 44 f) (hw : WF f) (k : Ans [] 34 m K (flR f y)) : Cal G mX5_fill d [.ref 0, .int y] SH (TA t n i) m K := by
  obtain ⟨d, rfl⟩ : ∃ e, d = e + 1 := ⟨d - 1, by omega⟩
  refine Cal.of (by decide +kernel) rfl (Nat.le_of_ble_eq_true rfl) (rg_X5_fill_0 hG 0 y ⟨fun c => ⟨rfl, c_X5_refuse hG (by omega) (by decide) ⟨_, rfl, k.no Fr.rf (by rw [flR, if_neg (fun o => absurd c (Int32.not_lt.mpr o.1))]) (by decide)⟩⟩, fun c => ⟨fun c2 => ?_, fun c2 => ⟨rfl, c_X5_refuse hG (by omega) (by decide) ⟨_, rfl, k.no Fr.rf (by rw [flR, if_neg (fun o => c2 o.2)]) (by decide)⟩⟩⟩⟩)
  have hy : 0 ≤ y ∧ y ≤ 5 := ⟨Int32.not_lt.mp c, c2⟩
  rw [flR, if_pos hy] at k
  have loop : ∀ (e c : Nat) (w : Int32), c + e = 16 → flA f y 0 1 15 = flA f y w c e → WP G (rmD (d + 1) 0 0) mX5_fill (QC G SH (TA t n i) K) 0 0 19 [(0, .ref 0), (1, .int y), (2, .int w), (3, .int (Int32.ofNat c))] [] (SH, TA t n i, m) := by
    intro e
    induction e with
    | zero =>
      intro c w hc hr
      refine rg_X5_fill_19 hG 0 y w _ ⟨fun _ => k.ok Fr.rf (by rw [hr]; rfl), fun q => absurd ?_ q⟩
      rw [show (16 : Int32) = Int32.ofNat 16 from rfl, o_le (by omega) (by omega)]; omega
    | succ e ih =>
      intro c w hc hr
      have c0 : 0 ≤ Int32.ofNat c ∧ Int32.ofNat c ≤ 15 := ⟨o_0 _ (by omega), (o_le (b := 15) (by omega) (by decide)).mpr (by omega)⟩
      refine rg_X5_fill_19 hG 0 y w _ ⟨fun q => ?_, fun _ => ⟨rfl, 35, rfl, rfl, c_X0_highOf hG (by omega) B35 hb ⟨_, rfl, ?_⟩⟩⟩
      · rw [show (16 : Int32) = Int32.ofNat 16 from rfl, o_le (by omega) (by omega)] at q; omega
      rw [if_pos c0, sub5 hy (hw.2.1 _ c0.1 c0.2).1, o_1]
      refine ih (c + 1) _ (by omega) ?_
      rw [hr, flA]
      congr 1
      split
      · rw [Int32.add_zero]
      · rfl
  exact loop 15 1 0 rfl rfl
set_option maxHeartbeats 4000000 in
theorem c_X6_fill (hG : fl G = false) (hd : 20 ≤ d) (k : Ans [] 79 m K (flR (m 76) y)) : Cal G mX6_fill d [.ref 75, .int y] SH (TA t n i) m K := by
  obtain ⟨d, rfl⟩ : ∃ e, d = e + 1 := ⟨d - 1, by omega⟩
  refine Cal.of (by decide +kernel) rfl (Nat.le_of_ble_eq_true rfl) (rg_X6_fill_0 hG 75 y (c_X6_in hG (by omega) ⟨_, rfl, fun q => ?_, fun q => ⟨rfl, c_X6_error hG (by omega) (by decide) ⟨_, rfl, k.no Fr.rf (by rw [flR, if_neg (b0 q)]) (by decide)⟩⟩⟩))
  rw [flR, if_pos (b1 q)] at k
  have loop : ∀ (e c : Nat) (w : Int32), c + e = 16 → flA (m 76) y 0 1 15 = flA (m 76) y w c e → WP G (rmD (d + 1) 0 0) mX6_fill (QC G SH (TA t n i) K) 0 0 19 [(0, .ref 75), (1, .int y), (2, .int w), (3, .int (Int32.ofNat c))] [] (SH, TA t n i, m) := by
    intro e
    induction e with
    | zero =>
      intro c w hc hr
      refine rg_X6_fill_19 hG 75 y w _ ⟨fun _ => k.ok Fr.rf (by rw [hr]; rfl), fun q => absurd ?_ q⟩
      rw [show (16 : Int32) = Int32.ofNat 16 from rfl, o_le (by omega) (by omega)]; omega
    | succ e ih =>
      intro c w hc hr
      have c0 : 0 ≤ Int32.ofNat c ∧ Int32.ofNat c ≤ 15 := ⟨o_0 _ (by omega), (o_le (b := 15) (by omega) (by decide)).mpr (by omega)⟩
      refine rg_X6_fill_19 hG 75 y w _ ⟨fun q => ?_, fun _ => ⟨rfl, c_X6_size hG (by omega) c0 ⟨_, rfl, fun h => ?_, fun h => c_X6_size hG (by omega) c0 ⟨_, rfl, ?_⟩⟩⟩⟩
      · rw [show (16 : Int32) = Int32.ofNat 16 from rfl, o_le (by omega) (by omega)] at q; omega
      · rw [o_1, Int32.add_zero]
        exact ih (c + 1) _ (by omega) (by rw [hr, flA, if_pos h])
      · rw [o_1]
        exact ih (c + 1) _ (by omega) (by rw [hr, flA, if_neg h])
  exact loop 15 1 0 rfl rfl
def tdR (e : Nat → Int32) (x : Int32) : Int32 × Int32 := if 1 ≤ x ∧ x ≤ 6 then (0, rd e x) else (1, 0)
set_option maxHeartbeats 4000000 in
theorem c_X5_told (hG : fl G = false) (hd : 20 ≤ d) {e : Nat → Int32} (he : ∀ k, 1 ≤ k → k ≤ 6 → m 34 k = e k) (k : Ans [] 34 m K (tdR e x)) : Cal G mX5_told d [.ref 0, .int x] SH (TA t n i) m K := by
  obtain ⟨d, rfl⟩ : ∃ e, d = e + 1 := ⟨d - 1, by omega⟩
  refine Cal.of (by decide +kernel) rfl (Nat.le_of_ble_eq_true rfl) (rg_X5_told_0 hG 0 x ⟨fun c => ⟨rfl, c_X5_refuse hG (by omega) (by decide) ⟨_, rfl, k.no Fr.rf (by rw [tdR, if_neg (fun o => absurd c (Int32.not_lt.mpr o.1))]) (by decide)⟩⟩, fun c => ⟨fun c2 => ⟨rfl, c_X5_refuse hG (by omega) (by decide) ⟨_, rfl, k.no Fr.rf (by rw [tdR, if_neg (fun o => absurd c2 (Int32.not_lt.mpr o.2))]) (by decide)⟩⟩, fun c2 => ?_⟩⟩)
  have hx : 1 ≤ x ∧ x ≤ 6 := ⟨Int32.not_lt.mp c, Int32.not_lt.mp c2⟩
  have h0 : 0 ≤ x := Int32.le_trans (by decide) hx.1
  refine ⟨rfl, 34, rfl, 7, rfl, ib7 h0 (Int32.lt_of_le_of_lt hx.2 (by decide)), k.ok Fr.rf ?_⟩
  rw [tdR, if_pos hx]
  obtain ⟨j, hj, rfl⟩ := oN' (N := 6) h0 hx.2 (by decide)
  have h1 := (o_le (a := 1) (by decide) (by omega)).mp hx.1
  rw [rd_o (by omega), rd_o (by omega), he j h1 hj]
set_option maxHeartbeats 4000000 in
theorem c_X6_told (hG : fl G = false) (hd : 20 ≤ d) (k : Ans [] 79 m K (tdR (m 79) x)) : Cal G mX6_told d [.ref 75, .int x] SH (TA t n i) m K := by
  obtain ⟨d, rfl⟩ : ∃ e, d = e + 1 := ⟨d - 1, by omega⟩
  refine Cal.of (by decide +kernel) rfl (Nat.le_of_ble_eq_true rfl) (rg_X6_told_0 hG 75 x (c_X6_in hG (by omega) ⟨_, rfl, fun q => ⟨rfl, c_X6_error hG (by omega) (by decide) ⟨_, rfl, k.no Fr.rf (by rw [tdR, if_neg (b0 q)]) (by decide)⟩⟩, fun q => ?_⟩))
  have hx := b1 q
  exact ⟨rfl, 79, rfl, 7, rfl, ib7 (Int32.le_trans (by decide) hx.1) (Int32.lt_of_le_of_lt hx.2 (by decide)), k.ok Fr.rf (by rw [tdR, if_pos hx])⟩
-- what has been won: how many, or their worth
def woA (f : Nat → Int32) (b w : Int32) (s : Nat) (k : Nat) : Int32 := match k with
  | 0 => w
  | e + 1 => woA f b (if its f (Int32.ofNat s) 3 = -1 then (if b = 0 then w + 1 else w + its f (Int32.ofNat s) 2) else w) (s + 1) e
def woV (f : Nat → Int32) (b : Int32) : Int32 := woA f b 0 0 (rd f 0).toNatClampNeg
set_option maxHeartbeats 4000000 in
theorem c_X0_howManyWon (hG : fl G = false) (hd : 3 ≤ d) (hb : RB m 35 44 f) (hw : WF f) (k : K (some (.int (woV f 0))) m) : Cal G mX0_howManyWon d [.ref 35] SH (TA t n i) m K := by
  obtain ⟨d, rfl⟩ : ∃ e, d = e + 1 := ⟨d - 1, by omega⟩
  have h16 := hw.1.1
  refine Cal.of (by decide +kernel) rfl (Nat.le_of_ble_eq_true rfl) (rg_X0_howManyWon_0 hG 35 ?_)
  obtain ⟨N, hN, eN⟩ := oN' (N := 16) h16.1 h16.2 (by decide)
  rw [woV, eN, tn_o (by omega)] at k
  have loop : ∀ (e c : Nat) (w : Int32), c + e = N → woA f 0 0 0 N = woA f 0 w c e → WP G (rmD (d + 1) 0 0) mX0_howManyWon (QC G SH (TA t n i) K) 0 0 4 [(0, .ref 35), (1, .int w), (2, .int (Int32.ofNat c))] [] (SH, TA t n i, m) := by
    intro e
    induction e with
    | zero =>
      intro c w hc hr
      rw [hr] at k
      refine rg_X0_howManyWon_4 hG 35 w _ ⟨rfl, fun _ => k, fun q => absurd ?_ q⟩
      rw [hb.1.1, eN, o_le (by omega) (by omega)]; omega
    | succ e ih =>
      intro c w hc hr
      have hl : Int32.ofNat c < rd f 0 := by rw [eN]; exact (o_lt (by omega) (by omega)).mpr (by omega)
      refine rg_X0_howManyWon_4 hG 35 w _ ⟨rfl, fun q => absurd q (by rw [hb.1.1]; exact Int32.not_le.mpr hl), fun _ => c_X0_cellOf hG (by omega) B35 hb h16.2 ⟨_, rfl, ?_⟩⟩
      rw [if_pos ⟨o_0 _ (by omega), hl⟩, o_1]
      exact ⟨fun h => ih (c + 1) _ (by omega) (by rw [hr, woA, if_neg h]), fun h => ih (c + 1) _ (by omega) (by rw [hr, woA, if_pos h, if_pos rfl])⟩
  exact loop N 0 0 (by omega) rfl
set_option maxHeartbeats 4000000 in
theorem c_X0_worthOfWon (hG : fl G = false) (hd : 3 ≤ d) (hb : RB m 35 44 f) (hw : WF f) (k : K (some (.int (woV f 1))) m) : Cal G mX0_worthOfWon d [.ref 35] SH (TA t n i) m K := by
  obtain ⟨d, rfl⟩ : ∃ e, d = e + 1 := ⟨d - 1, by omega⟩
  have h16 := hw.1.1
  refine Cal.of (by decide +kernel) rfl (Nat.le_of_ble_eq_true rfl) (rg_X0_worthOfWon_0 hG 35 ?_)
  obtain ⟨N, hN, eN⟩ := oN' (N := 16) h16.1 h16.2 (by decide)
  rw [woV, eN, tn_o (by omega)] at k
  have loop : ∀ (e c : Nat) (w : Int32), c + e = N → woA f 1 0 0 N = woA f 1 w c e → WP G (rmD (d + 1) 0 0) mX0_worthOfWon (QC G SH (TA t n i) K) 0 0 4 [(0, .ref 35), (1, .int w), (2, .int (Int32.ofNat c))] [] (SH, TA t n i, m) := by
    intro e
    induction e with
    | zero =>
      intro c w hc hr
      rw [hr] at k
      refine rg_X0_worthOfWon_4 hG 35 w _ ⟨rfl, fun _ => k, fun q => absurd ?_ q⟩
      rw [hb.1.1, eN, o_le (by omega) (by omega)]; omega
    | succ e ih =>
      intro c w hc hr
      have hl : Int32.ofNat c < rd f 0 := by rw [eN]; exact (o_lt (by omega) (by omega)).mpr (by omega)
      have hh : 0 ≤ Int32.ofNat c ∧ Int32.ofNat c < rd f 0 := ⟨o_0 _ (by omega), hl⟩
      refine rg_X0_worthOfWon_4 hG 35 w _ ⟨rfl, fun q => absurd q (by rw [hb.1.1]; exact Int32.not_le.mpr hl), fun _ => c_X0_cellOf hG (by omega) B35 hb h16.2 ⟨_, rfl, ?_⟩⟩
      rw [if_pos hh, o_1]
      refine ⟨fun h => ih (c + 1) _ (by omega) (by rw [hr, woA, if_neg h]), fun h => c_X0_worthOf hG (by omega) B35 hb h16.2 ⟨_, rfl, ?_⟩⟩
      rw [if_pos hh]
      exact ih (c + 1) _ (by omega) (by rw [hr, woA, if_pos h, if_neg (by decide)])
  exact loop N 0 0 (by omega) rfl
set_option maxHeartbeats 4000000 in
theorem c_X6_ofWon (hG : fl G = false) (hd : 3 ≤ d) (hw : WF (m 76)) (k : K (some (.int (woV (m 76) x))) m) : Cal G mX6_ofWon d [.ref 75, .int x] SH (TA t n i) m K := by
  obtain ⟨d, rfl⟩ : ∃ e, d = e + 1 := ⟨d - 1, by omega⟩
  have h16 := hw.1.1
  refine Cal.of (by decide +kernel) rfl (Nat.le_of_ble_eq_true rfl) (rg_X6_ofWon_0 hG 75 x ?_)
  obtain ⟨N, hN, eN⟩ := oN' (N := 16) h16.1 h16.2 (by decide)
  rw [woV, eN, tn_o (by omega)] at k
  have loop : ∀ (e c : Nat) (w : Int32), c + e = N → woA (m 76) x 0 0 N = woA (m 76) x w c e → WP G (rmD (d + 1) 0 0) mX6_ofWon (QC G SH (TA t n i) K) 0 0 4 [(0, .ref 75), (1, .int x), (2, .int w), (3, .int (Int32.ofNat c))] [] (SH, TA t n i, m) := by
    intro e
    induction e with
    | zero =>
      intro c w hc hr
      rw [hr] at k
      refine rg_X6_ofWon_4 hG 75 x w _ ⟨rfl, 76, rfl, 502, rfl, ib502 (by decide) (by decide), fun _ => k, fun q => absurd ?_ q⟩
      rw [eN, o_le (by omega) (by omega)]; omega
    | succ e ih =>
      intro c w hc hr
      have hl : Int32.ofNat c < rd (m 76) 0 := by rw [eN]; exact (o_lt (by omega) (by omega)).mpr (by omega)
      have c16 : 0 ≤ Int32.ofNat c ∧ Int32.ofNat c < 16 := ⟨o_0 _ (by omega), Int32.lt_of_lt_of_le hl h16.2⟩
      refine rg_X6_ofWon_4 hG 75 x w _ ⟨rfl, 76, rfl, 502, rfl, ib502 (by decide) (by decide), fun q => absurd q (Int32.not_le.mpr hl), fun _ => c_X6_its hG (by omega) c16 (by decide) ⟨_, rfl, fun h => ⟨fun h2 => ?_, fun h2 => c_X6_its hG (by omega) c16 (by decide) ⟨_, rfl, ?_⟩⟩, fun h => ?_⟩⟩
      · rw [o_1]
        exact ih (c + 1) _ (by omega) (by rw [hr, woA, if_pos h, if_pos h2])
      · rw [o_1]
        exact ih (c + 1) _ (by omega) (by rw [hr, woA, if_pos h, if_neg h2])
      · rw [o_1, Int32.add_zero]
        exact ih (c + 1) _ (by omega) (by rw [hr, woA, if_neg h])
  exact loop N 0 0 (by omega) rfl
def cnR (f : Nat → Int32) (tr x : Int32) : Int32 × Int32 := if x = 0 then (0, rd f 0) else if x = 1 then (0, rd f 1) else if x = 2 then (0, rd f 2) else if x = 3 then (0, stg f 0) else if x = 4 then (0, rd f 3) else if x = 5 then (0, rd f 4) else if x = 6 then (0, woV f 0) else if x = 7 then (0, woV f 1) else if x = 8 then (0, rd f 5) else if x = 9 then (0, rd f 6) else if x = 10 then (0, tr) else if x = 11 then (0, rd f 7) else (1, 0)
set_option maxHeartbeats 4000000 in
theorem cnR_no {tr : Int32} (o : x.toInt < 0 ∨ 11 < x.toInt) : cnR f tr x = (1, 0) := by
  have nn : ∀ z : Int32, 0 ≤ z → z ≤ 11 → x ≠ z := by
    intro z z0 z1 e
    have a := Int32.le_iff_toInt_le.mp z0
    have b := Int32.le_iff_toInt_le.mp z1
    rw [show (0 : Int32).toInt = 0 from rfl] at a
    rw [show (11 : Int32).toInt = 11 from rfl] at b
    rw [e] at o
    omega
  rw [cnR, if_neg (nn 0 (by decide) (by decide)), if_neg (nn 1 (by decide) (by decide)), if_neg (nn 2 (by decide) (by decide)), if_neg (nn 3 (by decide) (by decide)), if_neg (nn 4 (by decide) (by decide)), if_neg (nn 5 (by decide) (by decide)), if_neg (nn 6 (by decide) (by decide)), if_neg (nn 7 (by decide) (by decide)), if_neg (nn 8 (by decide) (by decide)), if_neg (nn 9 (by decide) (by decide)), if_neg (nn 10 (by decide) (by decide)), if_neg (nn 11 (by decide) (by decide))]
set_option maxHeartbeats 4000000 in
theorem c_X5_count (hG : fl G = false) (hd : 20 ≤ d) (hb : RB m 35 44 f) (hw : WF f) (h13 : m 35 13 = rd f 1 ∧ m 35 14 = rd f 7) (h5 : m 1 1 = rd f 5) (h6 : m 5 1 = rd f 6) {tr : Int32} (htr : m 21 1 = tr) (k : Ans [] 34 m K (cnR f tr x)) : Cal G mX5_count d [.ref 0, .int x] SH (TA t n i) m K := by
  obtain ⟨d, rfl⟩ : ∃ e, d = e + 1 := ⟨d - 1, by omega⟩
  refine Cal.of (by decide +kernel) rfl (Nat.le_of_ble_eq_true rfl) (rg_X5_count_0 hG 0 x ⟨fun o => ⟨rfl, c_X5_refuse hG (by omega) (by decide) ⟨_, rfl, k.no Fr.rf (cnR_no o) (by decide)⟩⟩, fun e => ?_, fun e => ?_, fun e => ?_, fun e => ?_, fun e => ?_, fun e => ?_, fun e => ?_, fun e => ?_, fun e => ?_, fun e => ?_, fun e => ?_, fun e => ?_⟩)
  · subst e; exact ⟨rfl, 35, rfl, rfl, k.ok Fr.rf (by rw [hb.1.1]; rfl)⟩
  · subst e; exact ⟨rfl, 35, rfl, rfl, k.ok Fr.rf (by rw [h13.1]; rfl)⟩
  · subst e; exact ⟨rfl, 35, rfl, rfl, k.ok Fr.rf (by rw [hb.1.2.2.2]; rfl)⟩
  · subst e; exact ⟨rfl, 35, rfl, rfl, c_X0_strength hG (by omega) rfl hb ⟨_, rfl, k.ok Fr.rf rfl⟩⟩
  · subst e; exact ⟨rfl, 35, rfl, rfl, k.ok Fr.rf (by rw [hb.1.2.1]; rfl)⟩
  · subst e; exact ⟨rfl, 35, rfl, rfl, k.ok Fr.rf (by rw [hb.1.2.2.1]; rfl)⟩
  · subst e; exact ⟨rfl, 35, rfl, rfl, c_X0_howManyWon hG (by omega) hb hw ⟨_, rfl, k.ok Fr.rf rfl⟩⟩
  · subst e; exact ⟨rfl, 35, rfl, rfl, c_X0_worthOfWon hG (by omega) hb hw ⟨_, rfl, k.ok Fr.rf rfl⟩⟩
  · subst e; exact ⟨rfl, 1, rfl, rfl, k.ok Fr.rf (by rw [h5]; rfl)⟩
  · subst e; exact ⟨rfl, 5, rfl, rfl, k.ok Fr.rf (by rw [h6]; rfl)⟩
  · subst e; exact ⟨rfl, 20, rfl, rfl, 21, rfl, rfl, k.ok Fr.rf (by rw [htr]; rfl)⟩
  · subst e; exact ⟨rfl, 35, rfl, rfl, k.ok Fr.rf (by rw [h13.2]; rfl)⟩
set_option maxHeartbeats 4000000 in
theorem c_X6_count (hG : fl G = false) (hd : 20 ≤ d) (hw : WF (m 76)) (k : Ans [] 79 m K (cnR (m 76) (m 75 15) x)) : Cal G mX6_count d [.ref 75, .int x] SH (TA t n i) m K := by
  obtain ⟨d, rfl⟩ : ∃ e, d = e + 1 := ⟨d - 1, by omega⟩
  refine Cal.of (by decide +kernel) rfl (Nat.le_of_ble_eq_true rfl) (rg_X6_count_0 hG 75 x ⟨fun o => ⟨rfl, c_X6_error hG (by omega) (by decide) ⟨_, rfl, k.no Fr.rf (cnR_no o) (by decide)⟩⟩, fun e => ?_, fun e => ?_, fun e => ?_, fun e => ?_, fun e => ?_, fun e => ?_, fun e => ?_, fun e => ?_, fun e => ?_, fun e => ?_, fun e => ?_, fun e => ?_⟩)
  · subst e; exact ⟨rfl, 76, rfl, 502, rfl, ib502 (by decide) (by decide), k.ok Fr.rf rfl⟩
  · subst e; exact ⟨rfl, 76, rfl, 502, rfl, ib502 (by decide) (by decide), k.ok Fr.rf rfl⟩
  · subst e; exact ⟨rfl, 76, rfl, 502, rfl, ib502 (by decide) (by decide), k.ok Fr.rf rfl⟩
  · subst e; exact ⟨rfl, c_X6_strengthBehind hG (by omega) ⟨_, rfl, k.ok Fr.rf rfl⟩⟩
  · subst e; exact ⟨rfl, 76, rfl, 502, rfl, ib502 (by decide) (by decide), k.ok Fr.rf rfl⟩
  · subst e; exact ⟨rfl, 76, rfl, 502, rfl, ib502 (by decide) (by decide), k.ok Fr.rf rfl⟩
  · subst e; exact ⟨rfl, c_X6_ofWon hG (by omega) hw ⟨_, rfl, k.ok Fr.rf rfl⟩⟩
  · subst e; exact ⟨rfl, c_X6_ofWon hG (by omega) hw ⟨_, rfl, k.ok Fr.rf rfl⟩⟩
  · subst e; exact ⟨rfl, 76, rfl, 502, rfl, ib502 (by decide) (by decide), k.ok Fr.rf rfl⟩
  · subst e; exact ⟨rfl, 76, rfl, 502, rfl, ib502 (by decide) (by decide), k.ok Fr.rf rfl⟩
  · subst e; exact ⟨rfl, k.ok Fr.rf rfl⟩
  · subst e; exact ⟨rfl, 76, rfl, 502, rfl, ib502 (by decide) (by decide), k.ok Fr.rf rfl⟩
end

