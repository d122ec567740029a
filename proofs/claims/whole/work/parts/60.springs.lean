-- 60.springs
def hbV (s need : Int32) : Int32 := if need ≤ s then 2 else if 2 * s < need then 0 else 1
def stV (s W : Int32) (i : Nat) : Int32 := if s - Int32.ofNat i * W < 0 then 0 else s - Int32.ofNat i * W
-- whether k pairs from the i-th on fit a spring
def fiA (w : Nat → Int32) (W s : Int32) (i : Nat) (k : Nat) : Int32 := match k with
  | 0 => 1
  | e + 1 => if w (2 * i + 1) = hbV (stV s W i) (w (2 * i)) then fiA w W s (i + 1) e else 0
set_option maxHeartbeats 4000000 in
theorem fiA_b {w : Nat → Int32} {W s : Int32} : ∀ (k i : Nat), isB (fiA w W s i k) := by
  intro k
  induction k with
  | zero => intro i; exact Or.inr rfl
  | succ k ih =>
    intro i
    rw [fiA]
    split
    · exact ih _
    · exact Or.inl rfl
set_option maxHeartbeats 4000000 in
theorem stV_h {s W : Int32} {i : Nat} (hs : 0 ≤ s ∧ s ≤ 99) (hW : 0 ≤ W ∧ W ≤ 9) (hi : i ≤ 24) : (if s - Int32.ofNat i * W < 0 then (0 : Int32) else if 99 < s - Int32.ofNat i * W then 99 else s - Int32.ofNat i * W) = stV s W i := by
  obtain ⟨a, ha, rfl⟩ := oN' (N := 99) hs.1 hs.2 (by decide)
  obtain ⟨b, hb, rfl⟩ := oN' (N := 9) hW.1 hW.2 (by decide)
  unfold stV
  rw [o_mul]
  have hm : i * b ≤ 24 * 9 := Nat.mul_le_mul hi hb
  have e : (Int32.ofNat a - Int32.ofNat (i * b)).toInt = (a : Int) - (i * b : Nat) := by
    rw [Int32.toInt_sub, Int32.toInt_ofNat_of_lt (by omega), Int32.toInt_ofNat_of_lt (by omega), Int.bmod_eq_of_le (by omega) (by omega)]
  by_cases h : Int32.ofNat a - Int32.ofNat (i * b) < 0
  · rw [if_pos h, if_pos h]
  · rw [if_neg h, if_neg h, if_neg]
    intro o
    rw [Int32.lt_iff_toInt_lt, e, show (99 : Int32).toInt = 99 from rfl] at o
    omega
section
variable {G : Gm} {d t n i : Nat} {m : Mem} {K : Option Value → Mem → Prop} {f g z u : Nat → Int32} {x y s W : Int32}
set_option maxHeartbeats 4000000 in
theorem c_X5_fits {sh : List Shp} {ta : Nat → Nat → Option Nat} (hG : fl G = false) (hd : 3 ≤ d) {b zz : Nat} (r1 : sh[b]? = some (.inl 2)) (r2 : ta b 0 = some (b + 1)) (r3 : sh[b + 1]? = some (.inr (0, 24))) (em : m b 1 = Int32.ofNat zz) (hzz : zz ≤ 24) (k : K (some (.int (fiA (m (b + 1)) W s 0 (zz / 2)))) m) : Cal G mX5_fits d [.ref b, .int s, .int W] sh ta m K := by
  obtain ⟨d, rfl⟩ : ∃ e, d = e + 1 := ⟨d - 1, by omega⟩
  refine Cal.of (by decide +kernel) rfl (Nat.le_of_ble_eq_true rfl) (rg_X5_fits_0 hG b s W ?_)
  have half : ∀ j, j < 13 → Int32.ofNat (2 * j) / 2 = Int32.ofNat j := by decide +kernel
  have loop : ∀ (e j : Nat), j + e = zz / 2 → fiA (m (b + 1)) W s 0 (zz / 2) = fiA (m (b + 1)) W s j e → WP G (rmD (d + 1) 0 0) mX5_fits (QC G sh ta K) 0 0 2 [(0, .ref b), (1, .int s), (2, .int W), (3, .int (Int32.ofNat (2 * j)))] [] (sh, ta, m) := by
    intro e
    induction e with
    | zero =>
      intro j hj hr
      rw [hr] at k
      refine rg_X5_fits_2 hG b s W _ ⟨r1, fun _ => k, fun o => absurd ?_ o⟩
      rw [em, o_1, o_le (by omega) (by omega)]; omega
    | succ e ih =>
      intro j hj hr
      refine rg_X5_fits_2 hG b s W _ ⟨r1, fun o => ?_, fun _ => ⟨by decide, ?_⟩⟩
      · rw [em, o_1, o_le (by omega) (by omega)] at o; omega
      have hm : m b 1 ≤ Int32.ofNat 24 := by rw [em]; exact (o_le (by omega) (by omega)).mpr hzz
      rw [half j (by omega)]
      refine c_X5_strengthAt hG (by omega) ⟨_, rfl, c_X2_at hG (by omega) r1 r2 r3 hm (by decide) ⟨_, rfl, c_X2_at hG (by omega) r1 r2 r3 hm (by decide) ⟨_, rfl, c_X5_holdBy hG (by omega) ⟨_, rfl, ?_⟩⟩⟩⟩
      have q1 : 0 ≤ Int32.ofNat (2 * j + 1) ∧ Int32.ofNat (2 * j + 1) < m b 1 := ⟨o_0 _ (by omega), by rw [em]; exact (o_lt (by omega) (by omega)).mpr (by omega)⟩
      have q2 : 0 ≤ Int32.ofNat (2 * j) ∧ Int32.ofNat (2 * j) < m b 1 := ⟨o_0 _ (by omega), by rw [em]; exact (o_lt (by omega) (by omega)).mpr (by omega)⟩
      rw [o_1, if_pos q1, if_pos q2, rd_o (by omega), rd_o (by omega)]
      have e2 : Int32.ofNat (2 * j) + 2 = Int32.ofNat (2 * (j + 1)) := by
        rw [show (2 : Int32) = Int32.ofNat 2 from rfl, o_add]
        rfl
      rw [e2]
      refine ⟨fun h => ih (j + 1) (by omega) (by rw [hr, fiA]; exact if_pos h), fun h => ?_⟩
      have : fiA (m (b + 1)) W s 0 (zz / 2) = 0 := by rw [hr, fiA]; exact if_neg h
      rw [this] at k
      exact k
  exact loop (zz / 2) 0 (by omega) rfl
set_option maxHeartbeats 4000000 in
theorem c_X6_fits (hG : fl G = false) (hd : 3 ≤ d) {xx zz : Nat} (h4 : xx < 4) (ez : m 86 xx = Int32.ofNat zz) (hzz : zz ≤ 24) (hs : 0 ≤ s ∧ s ≤ 99) (hW : 0 ≤ rd (m 76) 4 ∧ rd (m 76) 4 ≤ 9) (k : K (some (.int (fiA (fun j => m 87 (24 * xx + j)) (rd (m 76) 4) s 0 (zz / 2)))) m) : Cal G mX6_fits d [.ref 75, .int (Int32.ofNat xx), .int s] SH (TA t n i) m K := by
  obtain ⟨d, rfl⟩ : ∃ e, d = e + 1 := ⟨d - 1, by omega⟩
  refine Cal.of (by decide +kernel) rfl (Nat.le_of_ble_eq_true rfl) (rg_X6_fits_0 hG 75 _ s ?_)
  generalize hV : (fun j => m 87 (24 * xx + j)) = V at *
  have hu : ∀ j, m 87 (24 * xx + j) = V j := fun j => by rw [← hV]
  have e2 : ∀ j : Nat, (2 : Int32) * Int32.ofNat j = Int32.ofNat (2 * j) := fun j => by rw [show (2 : Int32) = Int32.ofNat 2 from rfl, o_mul]
  have loop : ∀ (e j : Nat), j + e = zz / 2 → ∀ a, (a = 0 ∧ fiA V (rd (m 76) 4) s 0 (zz / 2) = 0 ∨ a = 1 ∧ fiA V (rd (m 76) 4) s 0 (zz / 2) = fiA V (rd (m 76) 4) s j e) → WP G (rmD (d + 1) 0 0) mX6_fits (QC G SH (TA t n i) K) 0 0 5 [(0, .ref 75), (1, .int (Int32.ofNat xx)), (2, .int s), (3, .int a), (4, .int (Int32.ofNat j))] [] (SH, TA t n i, m) := by
    intro e
    induction e with
    | zero =>
      intro j hj a ha
      have : isB a ∧ fiA V (rd (m 76) 4) s 0 (zz / 2) = a := by
        rcases ha with ⟨rfl, h⟩ | ⟨rfl, h⟩
        · exact ⟨Or.inl rfl, h⟩
        · exact ⟨Or.inr rfl, h⟩
      rw [this.2] at k
      refine rg_X6_fits_5 hG 75 _ s _ _ ⟨rfl, 86, rfl, 4, rfl, ib_o h4 (by decide), fun _ => ⟨this.1, k⟩, fun o => absurd ?_ o⟩
      rw [rd_o (by omega), ez, e2, o_1, o_le (by omega) (by omega)]; omega
    | succ e ih =>
      intro j hj a ha
      refine rg_X6_fits_5 hG 75 _ s _ _ ⟨rfl, 86, rfl, 4, rfl, ib_o h4 (by decide), fun o => ?_, fun _ => ⟨87, rfl, 96, rfl, ?_⟩⟩
      · exfalso
        rw [rd_o (by omega), ez, e2, o_1, o_le (by omega) (by omega)] at o
        omega
      rw [e2, e24, rd_o (by omega), hu]
      refine ⟨ib_o (by omega) (by decide), 76, rfl, 502, rfl, ib502 (by decide) (by decide), c_X6_held hG (by omega) ⟨_, rfl, ?_⟩⟩
      rw [o_1 j, o_1 (24 * xx + 2 * j), rd_o (by omega), show 24 * xx + 2 * j + 1 = 24 * xx + (2 * j + 1) by omega, hu]
      rw [stV_h hs hW (by omega)]
      have one : ∀ (c : Int32), hbV (stV s (rd (m 76) 4) j) (V (2 * j)) = c → ((a = 0 → WP G (rmD (d + 1) 0 0) mX6_fits (QC G SH (TA t n i) K) 0 0 5 [(0, .ref 75), (1, .int (Int32.ofNat xx)), (2, .int s), (3, .int 0), (4, .int (Int32.ofNat (j + 1)))] [] (SH, TA t n i, m)) ∧ (¬ a = 0 → InB (Int32.ofNat (24 * xx + (2 * j + 1))) 96 ∧ ((¬ V (2 * j + 1) = c → WP G (rmD (d + 1) 0 0) mX6_fits (QC G SH (TA t n i) K) 0 0 5 [(0, .ref 75), (1, .int (Int32.ofNat xx)), (2, .int s), (3, .int 0), (4, .int (Int32.ofNat (j + 1)))] [] (SH, TA t n i, m)) ∧ (V (2 * j + 1) = c → WP G (rmD (d + 1) 0 0) mX6_fits (QC G SH (TA t n i) K) 0 0 5 [(0, .ref 75), (1, .int (Int32.ofNat xx)), (2, .int s), (3, .int 1), (4, .int (Int32.ofNat (j + 1)))] [] (SH, TA t n i, m))))) := by
        intro c hc
        refine ⟨fun a0 => ih (j + 1) (by omega) 0 (Or.inl ⟨rfl, ?_⟩), fun a0 => ⟨ib_o (by omega) (by decide), fun h => ih (j + 1) (by omega) 0 (Or.inl ⟨rfl, ?_⟩), fun h => ih (j + 1) (by omega) 1 (Or.inr ⟨rfl, ?_⟩)⟩⟩
        · rcases ha with ⟨-, h⟩ | ⟨h, -⟩
          · exact h
          · rw [a0] at h; exact absurd h (by decide)
        · rcases ha with ⟨h1, -⟩ | ⟨-, h1⟩
          · exact absurd h1 a0
          · rw [h1, fiA, hc, if_neg h]
        · rcases ha with ⟨h1, -⟩ | ⟨-, h1⟩
          · exact absurd h1 a0
          · rw [h1, fiA, hc, if_pos h]
      refine ⟨fun h1 => ⟨fun h2 => one 0 ?_, fun h2 => one 1 ?_⟩, fun h1 => one 2 ?_⟩
      · rw [hbV, if_neg (Int32.not_le.mpr h1), if_pos h2]
      · rw [hbV, if_neg (Int32.not_le.mpr h1), if_neg h2]
      · rw [hbV, if_pos (Int32.not_lt.mp h1)]
  exact loop (zz / 2) 0 (by omega) 1 (Or.inr ⟨rfl, rfl⟩)
-- how many springs below k fit, and the least
def sgA (F : Int32 → Int32) (w l : Int32) (k : Nat) : Int32 × Int32 := match k with
  | 0 => (w, l)
  | e + 1 => if F (Int32.ofNat e) = 0 then sgA F w l e else sgA F (w + 1) (Int32.ofNat e) e
def sgP (z u : Nat → Int32) (f : Nat → Int32) (x : Int32) : Int32 × Int32 := sgA (fun s => fiA (fun j => u (24 * x.toNatClampNeg + j)) (rd f 4) s 0 ((rd z x).toNatClampNeg / 2)) 0 (-1) 100
def sgR (g z u : Nat → Int32) (f : Nat → Int32) (x y : Int32) : Int32 × Int32 := if 0 ≤ y ∧ y ≤ 1 then if lkS g x = 0 then if y = 0 then (0, (sgP z u f x).1) else if (sgP z u f x).2 = -1 then (2, 0) else (0, (sgP z u f x).2) else (lkS g x, 0) else (1, 0)
set_option maxHeartbeats 4000000 in
theorem c_X5_springs (hG : fl G = false) (hd : 20 ≤ d) (hs : ShC m g z u) (hz : ShZ z) (hb : RB m 35 44 f) (k : Ans [] 34 m K (sgR g z u f x y)) : Cal G mX5_springs d [.ref 0, .int x, .int y] SH (TA t n i) m K := by
  obtain ⟨d, rfl⟩ : ∃ e, d = e + 1 := ⟨d - 1, by omega⟩
  have hl := lkS_eq (x := x) hs
  refine Cal.of (by decide +kernel) rfl (Nat.le_of_ble_eq_true rfl) (rg_X5_springs_0 hG 0 x y ⟨fun c => ⟨rfl, c_X5_refuse hG (by omega) (by decide) ⟨_, rfl, k.no Fr.rf (by rw [sgR, if_neg (fun o => absurd c (Int32.not_lt.mpr o.1))]) (by decide)⟩⟩, fun c => ⟨fun c2 => ?_, fun c2 => ⟨rfl, c_X5_refuse hG (by omega) (by decide) ⟨_, rfl, k.no Fr.rf (by rw [sgR, if_neg (fun o => c2 o.2)]) (by decide)⟩⟩⟩⟩)
  rw [sgR, if_pos ⟨Int32.not_lt.mp c, c2⟩] at k
  refine ⟨rfl, c_X5_lackOf hG (by omega) ⟨_, rfl, fun q2 => ?_, fun q2 => ?_⟩⟩
  · rw [hl] at q2
    obtain ⟨xx, h4, rfl, -⟩ := lkS_0 q2
    obtain ⟨zz, hzz, ez⟩ := hz xx h4
    obtain ⟨r1, r2, r3, r4⟩ := rowS (t := t) (n := n) (i := i) xx h4
    have em : m (24 + 2 * xx) 1 = Int32.ofNat zz := by rw [(hs xx h4).2.1, ez]
    have hu : ∀ j, j < zz → m (24 + 2 * xx + 1) j = u (24 * xx + j) := fun j hj => (hs xx h4).2.2 j (by rw [ez]; exact (o_lt (by omega) (by omega)).mpr hj) (by omega)
    have eF : ∀ s, fiA (m (24 + 2 * xx + 1)) (rd f 4) s 0 (zz / 2) = fiA (fun j => u (24 * xx + j)) (rd f 4) s 0 (zz / 2) := by
      intro s
      have key : ∀ (e j : Nat), j + e = zz / 2 → fiA (m (24 + 2 * xx + 1)) (rd f 4) s j e = fiA (fun j => u (24 * xx + j)) (rd f 4) s j e := by
        intro e
        induction e with
        | zero => intro j _; rfl
        | succ e ih =>
          intro j hj
          rw [fiA, fiA, hu (2 * j + 1) (by omega), hu (2 * j) (by omega), ih (j + 1) (by omega)]
      exact key (zz / 2) 0 (by omega)
    rw [if_pos q2] at k
    unfold sgP at k
    rw [tn_o (by omega), rd_o (by omega), ez, tn_o (by omega)] at k
    generalize hFe : (fun s => fiA (fun j => u (24 * xx + j)) (rd f 4) s 0 (zz / 2)) = F at *
    have eF : ∀ s, fiA (m (24 + 2 * xx + 1)) (rd f 4) s 0 (zz / 2) = F s := fun s => by rw [eF s, ← hFe]
    have e99 : (99 : Int32) = Int32.ofNat 100 - 1 := by decide
    rw [e99]
    have loop : ∀ (e : Nat), e ≤ 100 → ∀ (w l : Int32), (l = -1 ∨ 0 ≤ l) → sgA F 0 (-1) 100 = sgA F w l e → WP G (rmD (d + 1) 0 0) mX5_springs (QC G SH (TA t n i) K) 0 0 39 [(0, .ref 0), (1, .int (Int32.ofNat xx)), (2, .int y), (4, .int w), (5, .int l), (6, .int (Int32.ofNat e - 1))] [] (SH, TA t n i, m) := by
      intro e
      induction e with
      | zero =>
        intro _ w l h0 hr
        have hr : sgA F 0 (-1) 100 = (w, l) := hr
        rw [hr] at k
        refine rg_X5_springs_39 hG 0 _ _ _ _ _ ⟨fun _ => ⟨fun h => ⟨fun h2 => k.ok Fr.rf (by rw [if_neg h, if_neg (fun o => by rw [show l = -1 from o] at h2; exact absurd h2 (by decide))]), fun h2 => ⟨rfl, c_X5_refuse hG (by omega) (by decide) ⟨_, rfl, k.no Fr.rf (by rw [if_neg h, if_pos (h0.resolve_right h2)]) (by decide)⟩⟩⟩, fun h => k.ok Fr.rf (by rw [if_pos h])⟩, fun o => absurd (by decide) o⟩
      | succ e ih =>
        intro he w l h0 hr
        rw [o_s]
        refine rg_X5_springs_39 hG 0 _ _ _ _ _ ⟨fun o => absurd o (Int32.not_lt.mpr (o_0 e (by omega))), fun _ => ⟨rfl, 23, rfl, 4, rfl, ib_o h4 (by decide), 24 + 2 * xx, by rw [tn_o (by omega)]; exact r4, 35, rfl, rfl, c_X5_fits hG (by omega) r1 r2 r3 em hzz ⟨_, rfl, ?_⟩⟩⟩
        rw [hb.1.2.2.1, eF, ← Int32.sub_eq_add_neg]
        exact ⟨fun h => ih (by omega) w l h0 (by rw [hr, sgA, if_pos h]), fun h => ih (by omega) _ _ (Or.inr (o_0 e (by omega))) (by rw [hr, sgA, if_neg h])⟩
    exact loop 100 (Nat.le_refl _) 0 (-1) (Or.inl rfl) rfl
  · rw [hl] at q2 ⊢
    exact c_X5_refuse hG (by omega) (lkS_n q2) ⟨_, rfl, k.no Fr.rf (by rw [if_neg q2]) q2⟩
set_option maxHeartbeats 4000000 in
theorem c_X6_springs (hG : fl G = false) (hd : 20 ≤ d) (hz : ShZ (m 86)) (hw : WF (m 76)) (k : Ans [] 79 m K (sgR (m 85) (m 86) (m 87) (m 76) x y)) : Cal G mX6_springs d [.ref 75, .int x, .int y] SH (TA t n i) m K := by
  obtain ⟨d, rfl⟩ : ∃ e, d = e + 1 := ⟨d - 1, by omega⟩
  refine Cal.of (by decide +kernel) rfl (Nat.le_of_ble_eq_true rfl) (rg_X6_springs_0 hG 75 x y (c_X6_in hG (by omega) ⟨_, rfl, fun q => ⟨rfl, c_X6_error hG (by omega) (by decide) ⟨_, rfl, k.no Fr.rf (by rw [sgR, if_neg (b0 q)]) (by decide)⟩⟩, fun q => ?_⟩))
  rw [sgR, if_pos (b1 q)] at k
  refine ⟨rfl, c_X6_lacks hG (by omega) ⟨_, rfl, fun q2 => ?_, fun q2 => ?_⟩⟩
  · have q2 := lkS_p.mp q2
    obtain ⟨xx, h4, rfl, -⟩ := lkS_0 q2
    obtain ⟨zz, hzz, ez⟩ := hz xx h4
    rw [if_pos q2] at k
    unfold sgP at k
    rw [tn_o (by omega), rd_o (by omega), ez, tn_o (by omega)] at k
    generalize hFe : (fun s => fiA (fun j => m 87 (24 * xx + j)) (rd (m 76) 4) s 0 (zz / 2)) = F at *
    have eF : ∀ s, fiA (fun j => m 87 (24 * xx + j)) (rd (m 76) 4) s 0 (zz / 2) = F s := fun s => by rw [← hFe]
    have e99 : (99 : Int32) = Int32.ofNat 100 - 1 := by decide
    rw [e99]
    have loop : ∀ (e : Nat), e ≤ 100 → ∀ (w l : Int32), sgA F 0 (-1) 100 = sgA F w l e → WP G (rmD (d + 1) 0 0) mX6_springs (QC G SH (TA t n i) K) 0 0 39 [(0, .ref 75), (1, .int (Int32.ofNat xx)), (2, .int y), (4, .int w), (5, .int l), (6, .int (Int32.ofNat e - 1))] [] (SH, TA t n i, m) := by
      intro e
      induction e with
      | zero =>
        intro _ w l hr
        have hr : sgA F 0 (-1) 100 = (w, l) := hr
        rw [hr] at k
        exact rg_X6_springs_39 hG 75 _ _ _ _ _ ⟨fun _ => ⟨fun h => ⟨fun h2 => k.ok Fr.rf (by rw [if_neg h, if_neg h2]), fun h2 => ⟨rfl, c_X6_error hG (by omega) (by decide) ⟨_, rfl, k.no Fr.rf (by rw [if_neg h, if_pos h2]) (by decide)⟩⟩⟩, fun h => k.ok Fr.rf (by rw [if_pos h])⟩, fun o => absurd (by decide) o⟩
      | succ e ih =>
        intro he w l hr
        rw [o_s]
        refine rg_X6_springs_39 hG 75 _ _ _ _ _ ⟨fun o => absurd o (Int32.not_lt.mpr (o_0 e (by omega))), fun _ => ⟨rfl, c_X6_fits hG (by omega) h4 ez hzz ⟨o_0 e (by omega), (o_le (b := 99) (by omega) (by decide)).mpr (by omega)⟩ hw.2.2.1.2.2.2.1 ⟨_, rfl, ?_⟩⟩⟩
        rw [eF, ← Int32.sub_eq_add_neg, Int32.add_zero]
        exact ⟨fun h => ⟨fun _ => ih (by omega) w l (by rw [hr, sgA, if_pos h]), fun o => absurd h o⟩, fun h => ⟨fun o => absurd o h, fun _ => ih (by omega) _ _ (by rw [hr, sgA, if_neg h])⟩⟩
    exact loop 100 (Nat.le_refl _) 0 (-1) rfl
  · have q2 : lkS (m 85) x ≠ 0 := fun e => q2 (lkS_p.mpr e)
    have hn := lkS_n q2
    exact c_X6_error hG (by omega) ⟨Int32.le_trans (by decide) hn.1, hn.2⟩ ⟨_, rfl, k.no Fr.rf (by rw [if_neg q2]) q2⟩
end

