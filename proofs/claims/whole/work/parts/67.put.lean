-- 67.put
def lbV (v b : Int32) : Int32 := if b = 8 then v.toInt8.toInt32 else if b = 16 then v.toInt16.toInt32 else v
def ptR (g z : Nat → Int32) (x y : Int32) : Int32 × Int32 := if lkS g x = 0 then if 0 ≤ y ∧ y < rd z x then (0, 1) else (1, 0) else (lkS g x, 0)
def ptU (g u : Nat → Int32) (x y v : Int32) : Nat → Int32 := wr u (24 * x + y) (lbV v (rd g x))
set_option maxHeartbeats 4000000 in
theorem L4in {xx : Nat} (h : xx < 4) : ∀ a ∈ [32, 24 + 2 * xx, 24 + 2 * xx + 1], a ∈ jSC := by
  intro a ha
  simp only [List.mem_cons, List.mem_nil_iff, or_false] at ha
  rcases (show xx = 0 ∨ xx = 1 ∨ xx = 2 ∨ xx = 3 by omega) with rfl | rfl | rfl | rfl <;> rcases ha with rfl | rfl | rfl <;> decide
section
variable {G : Gm} {d t n i : Nat} {m : Mem} {K : Option Value → Mem → Prop} {f g z u : Nat → Int32} {x y b c v : Int32}
set_option maxHeartbeats 4000000 in
theorem c_X5_lowestBits {sh : List Shp} {ta : Nat → Nat → Option Nat} (hG : fl G = false) (hd : 1 ≤ d) (k : K (some (.int (lbV v b))) m) : Cal G mX5_lowestBits d [.int v, .int b] sh ta m K := by
  obtain ⟨d, rfl⟩ : ∃ e, d = e + 1 := ⟨d - 1, by omega⟩
  unfold lbV at k
  refine Cal.of (by decide +kernel) rfl (Nat.le_of_ble_eq_true rfl) (rg_X5_lowestBits_0 hG v b ⟨fun c => ⟨fun c2 => ?_, fun c2 => ?_⟩, fun c => ?_⟩)
  · rw [if_neg c, if_neg c2] at k; exact k
  · rw [if_neg c, if_pos c2] at k; exact k
  · rw [if_pos c] at k; exact k
set_option maxHeartbeats 4000000 in
theorem c_X5_put (hG : fl G = false) (hd : 20 ≤ d) (hs : ShC m g z u) (hz : ShZ z) (k : AnB jSC 34 m K (ptR g z x y) (fun m' => ShC m' g z (ptU g u x y v))) : Cal G mX5_put d [.ref 0, .int x, .int y, .int v] SH (TA t n i) m K := by
  obtain ⟨d, rfl⟩ : ∃ e, d = e + 1 := ⟨d - 1, by omega⟩
  have hl := lkS_eq (x := x) hs
  refine Cal.of (by decide +kernel) rfl (Nat.le_of_ble_eq_true rfl) (rg_X5_put_0 hG 0 x y v ⟨rfl, c_X5_lackOf hG (by omega) ⟨_, rfl, fun q2 => ?_, fun q2 => ?_⟩⟩)
  · rw [hl] at q2
    rw [ptR, if_pos q2] at k
    obtain ⟨xx, h4, rfl, -⟩ := lkS_0 q2
    obtain ⟨zz, hzz, ez⟩ := hz xx h4
    obtain ⟨r1, r2, r3, r4⟩ := rowS (t := t) (n := n) (i := i) xx h4
    have em : m (24 + 2 * xx) 1 = Int32.ofNat zz := by rw [(hs xx h4).2.1, ez]
    rw [rd_o (by omega), ez] at k
    refine ⟨23, rfl, 4, rfl, ib_o h4 (by decide), 24 + 2 * xx, by rw [tn_o (by omega)]; exact r4, r1, c_X2_holds hG (by omega) r1 ⟨_, rfl, fun q => ?_, fun q => ?_⟩⟩
    · have q := b1 q
      rw [em] at q
      rw [if_pos q] at k
      refine ⟨32, rfl, 4, rfl, ib_o h4 (by decide), c_X5_lowestBits hG (by omega) ⟨_, rfl, c_X2_change hG (by omega) r1 r2 r3 (by rw [em]; exact (o_le (by omega) (by omega)).mpr hzz) (by decide) ⟨rfl, ?_⟩⟩⟩
      rw [em, if_pos q]
      obtain ⟨yy, hy, rfl⟩ := oN q.1 q.2 (by omega)
      have eb : rd (m 32) (Int32.ofNat xx) = rd g (Int32.ofNat xx) := by rw [rd_o (by omega), rd_o (by omega), (hs xx h4).1]
      refine k.ok ((Fr.ua (L := [32, 24 + 2 * xx, 24 + 2 * xx + 1]) (by simp)).mo (L4in h4)) ?_ rfl
      have eU : ptU g u (Int32.ofNat xx) (Int32.ofNat yy) v = fun j => if j = 24 * xx + yy then lbV v (rd g (Int32.ofNat xx)) else u j := by
        unfold ptU
        rw [e24, wr_o (by omega)]
      rw [eU]
      refine hs.up h4 (Fr.ua (by simp)) (fun y' hy' hne => ⟨rfl, rfl, by rw [upa_ne (by omega)], fun j hj => if_neg (by omega)⟩) ⟨?_, ?_, fun j j0 j1 => ?_⟩
      · rw [upa_ne (by omega)]; exact (hs xx h4).1
      · rw [upa_ne (by omega)]; exact (hs xx h4).2.1
      · rw [upa_eq, wr_o (by omega), eb]
        show (if j = yy then _ else m (24 + 2 * xx + 1) j) = if 24 * xx + j = 24 * xx + yy then _ else u (24 * xx + j)
        by_cases e : j = yy
        · rw [if_pos e, if_pos (by omega)]
        · rw [if_neg e, if_neg (by omega), (hs xx h4).2.2 j j0 j1]
    · rw [em] at q
      exact c_X5_refuse hG (by omega) (by decide) ⟨_, rfl, k.no (by rw [if_neg (b0 q)]) (by decide)⟩
  · rw [hl] at q2 ⊢
    exact c_X5_refuse hG (by omega) (lkS_n q2) ⟨_, rfl, k.no (by rw [ptR, if_neg q2]) q2⟩
set_option maxHeartbeats 4000000 in
theorem c_X6_put (hG : fl G = false) (hd : 20 ≤ d) (hz : ShZ (m 86)) (hb : ∀ x, x < 4 → bOK (m 85 x)) (k : AnB [85, 86, 87, 88] 79 m K (ptR (m 85) (m 86) x y) (fun m' => m' 85 = m 85 ∧ m' 86 = m 86 ∧ m' 87 = ptU (m 85) (m 87) x y v)) : Cal G mX6_put d [.ref 75, .int x, .int y, .int v] SH (TA t n i) m K := by
  obtain ⟨d, rfl⟩ : ∃ e, d = e + 1 := ⟨d - 1, by omega⟩
  refine Cal.of (by decide +kernel) rfl (Nat.le_of_ble_eq_true rfl) (rg_X6_put_0 hG 75 x y v (c_X6_isSheet hG (by omega) ⟨_, rfl, fun q => ?_, fun q => ⟨rfl, c_X6_error hG (by omega) (by decide) ⟨_, rfl, k.no (by rw [ptR, lkS, if_neg (b0 q), if_neg (by decide)]) (by decide)⟩⟩⟩))
  have hx := b1 q
  obtain ⟨xx, h4, rfl⟩ := oN' (N := 3) hx.1 hx.2 (by decide)
  have h4 : xx < 4 := by omega
  obtain ⟨zz, hzz, ez⟩ := hz xx h4
  have ib := ib_o h4 (by decide : 4 < 2147483648)
  refine ⟨rfl, 85, rfl, 4, rfl, ib, fun q2 => ⟨86, rfl, 4, rfl, ib, ?_⟩, fun q2 => c_X6_error hG (by omega) (by decide) ⟨_, rfl, k.no (by rw [ptR, lkS, if_pos hx, if_pos q2, if_neg (by decide)]) (by decide)⟩⟩
  rw [ptR, lkS, if_pos hx, if_neg q2, if_pos rfl, rd_o (by omega), ez] at k
  rw [rd_o (by omega), ez]
  refine c_X6_in hG (by omega) ⟨_, rfl, fun q3 => ⟨ib, 87, rfl, 96, rfl, ?_, ?_⟩, fun q3 => c_X6_error hG (by omega) (by decide) ⟨_, rfl, k.no (by rw [if_neg (fun o => b0 q3 ⟨o.1, (le_pred (by omega)).mpr o.2⟩)]) (by decide)⟩⟩
  · have q3 := b1 q3
    obtain ⟨yy, hy, rfl⟩ := oN q3.1 ((le_pred (by omega)).mp q3.2) (by omega)
    rw [e24]; exact ib_o (by omega) (by decide)
  · rintro _ rfl
    have q3 := b1 q3
    have q3 : 0 ≤ y ∧ y < Int32.ofNat zz := ⟨q3.1, (le_pred (by omega)).mp q3.2⟩
    rw [if_pos q3] at k
    have ev : (v <<< ((32 - rd (m 85) (Int32.ofNat xx)) &&& 31)) >>> ((32 - rd (m 85) (Int32.ofNat xx)) &&& 31) = lbV v (rd (m 85) (Int32.ofNat xx)) := by
      have := hb xx h4
      rw [rd_o (by omega)] at q2 ⊢
      unfold lbV
      rcases this with h | h | h | h
      · exact absurd h q2
      · rw [h, if_pos rfl]; exact sh_8 v
      · rw [h, if_neg (by decide), if_pos rfl]; exact sh_16 v
      · rw [h, if_neg (by decide), if_neg (by decide)]; exact sh_0 v
    rw [ev]
    exact k.ok (Fr.ua (by decide)) ⟨by rw [upa_ne (by decide)], by rw [upa_ne (by decide)], by rw [upa_eq]; rfl⟩ rfl
def mvR (g z : Nat → Int32) (x i o j n : Int32) : Int32 × Int32 := if 0 ≤ x ∧ x ≤ 3 then if 0 ≤ o ∧ o ≤ 3 then if rd g x = 0 then (2, 0) else if rd g o = 0 then (2, 0) else if rd g x = rd g o then if 0 ≤ i ∧ 0 ≤ n ∧ n ≤ rd z x ∧ i ≤ rd z x - n then if 0 ≤ j ∧ 0 ≤ n ∧ n ≤ rd z o ∧ j ≤ rd z o - n then (0, n) else (1, 0) else (1, 0) else (5, 0) else (1, 0) else (1, 0)
def mvU (u : Nat → Int32) (x i o j n : Int32) : Nat → Int32 := cpN u u (24 * o.toNatClampNeg + j.toNatClampNeg) (24 * x.toNatClampNeg + i.toNatClampNeg) n.toNatClampNeg
-- a run that a row of z numbers holds
set_option maxHeartbeats 4000000 in
theorem run_o {i n : Int32} {z : Nat} (hz : z ≤ 24) (h : 0 ≤ i ∧ 0 ≤ n ∧ n ≤ Int32.ofNat z ∧ i ≤ Int32.ofNat z - n) : ∃ a c : Nat, i = Int32.ofNat a ∧ n = Int32.ofNat c ∧ a + c ≤ z := by
  obtain ⟨c, hc, rfl⟩ := oN' h.2.1 h.2.2.1 (by omega)
  have e : Int32.ofNat z - Int32.ofNat c = Int32.ofNat (z - c) := by
    apply Int32.toInt_inj.mp
    rw [Int32.toInt_sub, Int32.toInt_ofNat_of_lt (by omega), Int32.toInt_ofNat_of_lt (by omega), Int32.toInt_ofNat_of_lt (by omega), Int.bmod_eq_of_le (by omega) (by omega)]
    omega
  have h4 := h.2.2.2
  rw [e] at h4
  obtain ⟨a, ha, rfl⟩ := oN' h.1 h4 (by omega)
  exact ⟨a, c, rfl, rfl, by omega⟩
set_option maxHeartbeats 4000000 in
theorem run_m {i n : Int32} {z : Nat} (hz : z ≤ 24) : (0 ≤ i ∧ 0 ≤ n ∧ n ≤ Int32.ofNat z ∧ i ≤ Int32.ofNat z - n) ↔ (0 ≤ n ∧ 0 ≤ i ∧ i ≤ Int32.ofNat z - n) := by
  refine ⟨fun h => ⟨h.2.1, h.1, h.2.2.2⟩, fun h => ⟨h.2.1, h.1, ?_, h.2.2⟩⟩
  have a := Int32.le_iff_toInt_le.mp h.1
  have b := Int32.le_iff_toInt_le.mp h.2.1
  have c := Int32.le_iff_toInt_le.mp h.2.2
  have lt := Int32.toInt_lt n
  rw [show (0 : Int32).toInt = 0 from rfl] at a b
  rw [Int32.toInt_sub, Int32.toInt_ofNat_of_lt (by omega), Int.bmod_eq_of_le (by omega) (by omega)] at c
  rw [Int32.le_iff_toInt_le, Int32.toInt_ofNat_of_lt (by omega)]
  omega
set_option maxHeartbeats 4000000 in
theorem c_X5_move (hG : fl G = false) (hd : 20 ≤ d) {i' o j l : Int32} (hs : ShC m g z u) (hz : ShZ z) (k : AnB jSC 34 m K (mvR g z x i' o j l) (fun m' => ShC m' g z (mvU u x i' o j l))) : Cal G mX5_move d [.ref 0, .int x, .int i', .int o, .int j, .int l] SH (TA t n i) m K := by
  obtain ⟨d, rfl⟩ : ∃ e, d = e + 1 := ⟨d - 1, by omega⟩
  refine Cal.of (by decide +kernel) rfl (Nat.le_of_ble_eq_true rfl) (rg_X5_move_0 hG 0 x i' o j l (c_X5_isSheet hG (by omega) ⟨_, rfl, fun q => ⟨rfl, c_X5_refuse hG (by omega) (by decide) ⟨_, rfl, k.no (by rw [mvR, if_neg (b0 q)]) (by decide)⟩⟩, fun q => c_X5_isSheet hG (by omega) ⟨_, rfl, fun q2 => ?_, fun q2 => ⟨rfl, c_X5_refuse hG (by omega) (by decide) ⟨_, rfl, k.no (by rw [mvR, if_pos (b1 q), if_neg (b0 q2)]) (by decide)⟩⟩⟩⟩))
  have hx := b1 q
  have ho := b1 q2
  rw [mvR, if_pos hx, if_pos ho] at k
  obtain ⟨xx, h4, rfl⟩ := oN' (N := 3) hx.1 hx.2 (by decide)
  have h4 : xx < 4 := by omega
  obtain ⟨oo, g4, rfl⟩ := oN' (N := 3) ho.1 ho.2 (by decide)
  have g4 : oo < 4 := by omega
  obtain ⟨zz, hzz, ez⟩ := hz xx h4
  obtain ⟨ww, hww, ew⟩ := hz oo g4
  obtain ⟨r1, r2, r3, r4⟩ := rowS (t := t) (n := n) (i := i) xx h4
  obtain ⟨s1, s2, s3, s4⟩ := rowS (t := t) (n := n) (i := i) oo g4
  have ib := ib_o h4 (by decide : 4 < 2147483648)
  have jb := ib_o g4 (by decide : 4 < 2147483648)
  have ex : rd (m 32) (Int32.ofNat xx) = rd g (Int32.ofNat xx) := by rw [rd_o (by omega), rd_o (by omega), (hs xx h4).1]
  have eo : rd (m 32) (Int32.ofNat oo) = rd g (Int32.ofNat oo) := by rw [rd_o (by omega), rd_o (by omega), (hs oo g4).1]
  have em : m (24 + 2 * xx) 1 = Int32.ofNat zz := by rw [(hs xx h4).2.1, ez]
  have en : m (24 + 2 * oo) 1 = Int32.ofNat ww := by rw [(hs oo g4).2.1, ew]
  have zx : rd z (Int32.ofNat xx) = Int32.ofNat zz := by rw [rd_o (by omega), ez]
  have zo : rd z (Int32.ofNat oo) = Int32.ofNat ww := by rw [rd_o (by omega), ew]
  rw [zx, zo] at k
  refine ⟨rfl, 32, rfl, 4, rfl, ib, ?_⟩
  rw [ex, eo]
  refine ⟨fun h => c_X5_refuse hG (by omega) (by decide) ⟨_, rfl, k.no (by rw [if_pos h]) (by decide)⟩, fun h => ⟨jb, fun h2 => ⟨ib, jb, fun h3 => ?_, fun h3 => c_X5_refuse hG (by omega) (by decide) ⟨_, rfl, k.no (by rw [if_neg h, if_neg h2, if_neg h3]) (by decide)⟩⟩, fun h2 => c_X5_refuse hG (by omega) (by decide) ⟨_, rfl, k.no (by rw [if_neg h, if_pos h2]) (by decide)⟩⟩⟩
  rw [if_neg h, if_neg h2, if_pos h3] at k
  refine ⟨23, rfl, 4, rfl, ib, 24 + 2 * xx, by rw [tn_o (by omega)]; exact r4, r1, c_X2_holdsRun hG (by omega) r1 ⟨_, rfl, fun c1 => ?_, fun c1 => ⟨jb, 24 + 2 * oo, by rw [tn_o (by omega)]; exact s4, s1, c_X2_holdsRun hG (by omega) s1 ⟨_, rfl, fun c2 => ?_, fun c2 => ?_⟩⟩⟩⟩
  · rw [em] at c1
    exact c_X5_refuse hG (by omega) (by decide) ⟨_, rfl, k.no (by rw [if_neg (b0 c1)]) (by decide)⟩
  · have c1 := b1 c1
    have c2 := b1 c2
    rw [em] at c1
    rw [en] at c2
    rw [if_pos c1, if_pos c2] at k
    obtain ⟨a, c, rfl, rfl, hac⟩ := run_o hzz c1
    obtain ⟨b, c', rfl, ec, hbc⟩ := run_o hww c2
    have cc' : c' = c := by
      have h9 := c2.2.2.1
      have : c' < 2147483648 := by omega
      exact ((o_eq (by omega) this).mp ec).symm
    subst cc'
    refine c_X2_copyRun hG (by omega) s1 s2 s3 r1 r2 r3 (by decide) (by decide) (by rw [em]; exact (o_le (by omega) (by omega)).mpr hzz) (by rw [en]; exact (o_le (by omega) (by omega)).mpr hww) (by rw [em, en]; exact ⟨c2.1, c1.1, c1.2.1, c2.2.2.1, c2.2.2.2, c1.2.2.1, c1.2.2.2⟩) ⟨rfl, ?_⟩
    rw [tn_o (by omega), tn_o (by omega), tn_o (by omega)]
    have hF : Fr [32, 24 + 2 * oo, 24 + 2 * oo + 1] m (cp2 m (24 + 2 * oo + 1) b (24 + 2 * xx + 1) a c') := by
      intro A hA
      funext B
      unfold cp2
      rw [if_neg (fun q => hA (by rw [q.1]; simp))]
    refine k.ok (hF.mo (L4in g4)) ?_ rfl
    have eU : mvU u (Int32.ofNat xx) (Int32.ofNat a) (Int32.ofNat oo) (Int32.ofNat b) (Int32.ofNat c') = cpN u u (24 * oo + b) (24 * xx + a) c' := by
      unfold mvU
      rw [tn_o (by omega), tn_o (by omega), tn_o (by omega), tn_o (by omega), tn_o (by omega)]
    rw [eU]
    have ne1 : ∀ A B, A ≠ 24 + 2 * oo + 1 → cp2 m (24 + 2 * oo + 1) b (24 + 2 * xx + 1) a c' A B = m A B := by
      intro A B hA
      unfold cp2
      rw [if_neg (fun q => hA q.1)]
    refine hs.up g4 hF (fun y' hy' hne => ⟨rfl, rfl, ne1 _ _ (by omega), fun j hj => ?_⟩) ⟨?_, ?_, fun j j0 j1 => ?_⟩
    · rw [cpN, if_neg (by omega)]
    · rw [ne1 _ _ (by omega)]; exact (hs oo g4).1
    · rw [ne1 _ _ (by omega)]; exact (hs oo g4).2.1
    · show (if 24 + 2 * oo + 1 = 24 + 2 * oo + 1 ∧ b ≤ j ∧ j < b + c' then m (24 + 2 * xx + 1) (a + (j - b)) else m (24 + 2 * oo + 1) j) = _
      by_cases e : b ≤ j ∧ j < b + c'
      · rw [if_pos ⟨rfl, e⟩, cpN, if_pos (by omega), (hs xx h4).2.2 (a + (j - b)) (by rw [ez]; exact (o_lt (by omega) (by omega)).mpr (by omega)) (by omega)]
        congr 1
        omega
      · rw [if_neg (fun q => e q.2), cpN, if_neg (by omega), (hs oo g4).2.2 j j0 j1]
  · rw [en] at c2
    have c1 := b1 c1
    rw [em] at c1
    exact c_X5_refuse hG (by omega) (by decide) ⟨_, rfl, k.no (by rw [if_pos c1, if_neg (b0 c2)]) (by decide)⟩
set_option maxHeartbeats 4000000 in
theorem c_X6_move (hG : fl G = false) (hd : 20 ≤ d) {i' o j l : Int32} (hz : ShZ (m 86)) (k : AnB [85, 86, 87, 88] 79 m K (mvR (m 85) (m 86) x i' o j l) (fun m' => m' 85 = m 85 ∧ m' 86 = m 86 ∧ m' 87 = mvU (m 87) x i' o j l)) : Cal G mX6_move d [.ref 75, .int x, .int i', .int o, .int j, .int l] SH (TA t n i) m K := by
  obtain ⟨d, rfl⟩ : ∃ e, d = e + 1 := ⟨d - 1, by omega⟩
  refine Cal.of (by decide +kernel) rfl (Nat.le_of_ble_eq_true rfl) (rg_X6_move_0 hG 75 x i' o j l (c_X6_isSheet hG (by omega) ⟨_, rfl, fun q => ⟨rfl, c_X6_error hG (by omega) (by decide) ⟨_, rfl, k.no (by rw [mvR, if_neg (b0 q)]) (by decide)⟩⟩, fun q => c_X6_isSheet hG (by omega) ⟨_, rfl, fun q2 => ?_, fun q2 => ⟨rfl, c_X6_error hG (by omega) (by decide) ⟨_, rfl, k.no (by rw [mvR, if_pos (b1 q), if_neg (b0 q2)]) (by decide)⟩⟩⟩⟩))
  have hx := b1 q
  have ho := b1 q2
  rw [mvR, if_pos hx, if_pos ho] at k
  obtain ⟨xx, h4, rfl⟩ := oN' (N := 3) hx.1 hx.2 (by decide)
  have h4 : xx < 4 := by omega
  obtain ⟨oo, g4, rfl⟩ := oN' (N := 3) ho.1 ho.2 (by decide)
  have g4 : oo < 4 := by omega
  obtain ⟨zz, hzz, ez⟩ := hz xx h4
  obtain ⟨ww, hww, ew⟩ := hz oo g4
  have ib := ib_o h4 (by decide : 4 < 2147483648)
  have jb := ib_o g4 (by decide : 4 < 2147483648)
  have zx : rd (m 86) (Int32.ofNat xx) = Int32.ofNat zz := by rw [rd_o (by omega), ez]
  have zo : rd (m 86) (Int32.ofNat oo) = Int32.ofNat ww := by rw [rd_o (by omega), ew]
  rw [zx, zo] at k
  refine ⟨rfl, 85, rfl, 4, rfl, ib, ?_⟩
  refine ⟨fun h => c_X6_error hG (by omega) (by decide) ⟨_, rfl, k.no (by rw [if_pos h]) (by decide)⟩, fun h => ⟨jb, fun h2 => ⟨ib, jb, fun h3 => ?_, fun h3 => c_X6_error hG (by omega) (by decide) ⟨_, rfl, k.no (by rw [if_neg h, if_neg h2, if_neg h3]) (by decide)⟩⟩, fun h2 => c_X6_error hG (by omega) (by decide) ⟨_, rfl, k.no (by rw [if_neg h, if_pos h2]) (by decide)⟩⟩⟩
  rw [if_neg h, if_neg h2, if_pos h3] at k
  have no : ¬ ((0 ≤ i' ∧ 0 ≤ l ∧ l ≤ Int32.ofNat zz ∧ i' ≤ Int32.ofNat zz - l) ∧ (0 ≤ j ∧ 0 ≤ l ∧ l ≤ Int32.ofNat ww ∧ j ≤ Int32.ofNat ww - l)) → ∀ {e : Nat}, 1 ≤ e → Cal G mX6_error e [.ref 75, .int 1] SH (TA t n i) m (fun v1 m2 => ∃ r3, v1 = some (.int r3) ∧ K (some (.int r3)) m2) := by
    intro hn e he
    refine c_X6_error hG he (by decide) ⟨_, rfl, k.no ?_ (by decide)⟩
    split
    · split
      · rename_i a b; exact absurd ⟨a, b⟩ hn
      · rfl
    · rfl
  refine ⟨fun c => no (fun q => absurd c (Int32.not_lt.mpr q.1.2.1)) (by omega), fun c1 => ⟨fun c => no (fun q => absurd c (Int32.not_lt.mpr q.1.1)) (by omega), fun c2 => ⟨fun c => no (fun q => absurd c (Int32.not_lt.mpr q.2.1)) (by omega), fun c3 => ⟨86, rfl, 4, rfl, ib, ?_⟩⟩⟩⟩
  rw [zx, zo]
  refine ⟨fun c => no (fun q => absurd c (Int32.not_lt.mpr q.1.2.2.2)) (by omega), fun c4 => ⟨jb, fun c5 => ?_, fun c => no (fun q => c q.2.2.2.2) (by omega)⟩⟩
  have A : 0 ≤ i' ∧ 0 ≤ l ∧ l ≤ Int32.ofNat zz ∧ i' ≤ Int32.ofNat zz - l := (run_m hzz).mpr ⟨Int32.not_lt.mp c1, Int32.not_lt.mp c2, Int32.not_lt.mp c4⟩
  have B : 0 ≤ j ∧ 0 ≤ l ∧ l ≤ Int32.ofNat ww ∧ j ≤ Int32.ofNat ww - l := (run_m hww).mpr ⟨Int32.not_lt.mp c1, Int32.not_lt.mp c3, c5⟩
  rw [if_pos A, if_pos B] at k
  obtain ⟨a, c, rfl, rfl, hac⟩ := run_o hzz A
  obtain ⟨b, c', rfl, ec, hbc⟩ := run_o hww B
  have cc' : c' = c := ((o_eq (by omega) (by omega)).mp ec).symm
  subst cc'
  have eU : mvU (m 87) (Int32.ofNat xx) (Int32.ofNat a) (Int32.ofNat oo) (Int32.ofNat b) (Int32.ofNat c') = cpN (m 87) (m 87) (24 * oo + b) (24 * xx + a) c' := by
    unfold mvU
    rw [tn_o (by omega), tn_o (by omega), tn_o (by omega), tn_o (by omega), tn_o (by omega)]
  rw [eU] at k
  have l2 : ∀ (e j : Nat), j + e = c' → WP G (rmD (d + 1) 0 0) mX6_move (QC G SH (TA t n i) K) 0 0 152 [(0, .ref 75), (3, .int (Int32.ofNat oo)), (4, .int (Int32.ofNat b)), (5, .int (Int32.ofNat c')), (6, .int (Int32.ofNat j))] [] (SH, TA t n i, set1 (set1 m 88 (cpN (m 88) (m 87) 0 (24 * xx + a) c')) 87 (cpN (m 87) (cpN (m 88) (m 87) 0 (24 * xx + a) c') (24 * oo + b) 0 j)) := by
    intro e
    induction e with
    | zero =>
      intro j hj
      have : j = c' := by omega
      subst this
      refine rg_X6_move_152 hG 75 _ _ _ _ ⟨fun _ => k.ok ((Fr.s1 (by decide)).tr (Fr.s1 (by decide))) ⟨by rw [set1_ne (by decide), set1_ne (by decide)], by rw [set1_ne (by decide), set1_ne (by decide)], ?_⟩ rfl, fun o => absurd (Int32.le_refl _) o⟩
      rw [set1_eq]
      funext q
      unfold cpN
      by_cases h : 24 * oo + b ≤ q ∧ q < 24 * oo + b + j
      · rw [if_pos h, if_pos h, if_pos (by omega)]
        congr 1
        omega
      · rw [if_neg h, if_neg h]
    | succ e ih =>
      intro j hj
      refine rg_X6_move_152 hG 75 _ _ _ _ ⟨fun o => ?_, fun _ => ⟨rfl, 87, rfl, 88, rfl, 24, rfl, ib_o (by omega) (by decide), 96, rfl, ?_⟩⟩
      · rw [o_le (by omega) (by omega)] at o; omega
      rw [e24, o_add]
      refine ⟨ib_o (by omega) (by decide), ?_⟩
      rintro _ rfl
      have e2 := cpN_s (g := m 87) (h := cpN (m 88) (m 87) 0 (24 * xx + a) c') (dp := 24 * oo + b) (sp := 0) (k := j) (by omega)
      rw [upa_set, set1_eq, set1_set, set1_ne (by decide), set1_eq, rd_o (by omega), o_1]
      rw [Nat.zero_add] at e2
      rw [e2]
      exact ih (j + 1) (by omega)
  have l1 : ∀ (e j' : Nat), j' + e = c' → WP G (rmD (d + 1) 0 0) mX6_move (QC G SH (TA t n i) K) 0 0 115 [(0, .ref 75), (1, .int (Int32.ofNat xx)), (2, .int (Int32.ofNat a)), (3, .int (Int32.ofNat oo)), (4, .int (Int32.ofNat b)), (5, .int (Int32.ofNat c')), (6, .int (Int32.ofNat j'))] [] (SH, TA t n i, set1 m 88 (cpN (m 88) (m 87) 0 (24 * xx + a) j')) := by
    intro e
    induction e with
    | zero =>
      intro j hj
      have : j = c' := by omega
      subst this
      refine rg_X6_move_115 hG 75 _ _ _ _ _ _ ⟨fun _ => ?_, fun o => absurd (Int32.le_refl _) o⟩
      have := l2 j 0 (by omega)
      rw [cpN_0] at this
      have e : set1 (set1 m 88 (cpN (m 88) (m 87) 0 (24 * xx + a) j)) 87 (m 87) = set1 m 88 (cpN (m 88) (m 87) 0 (24 * xx + a) j) := by
        have := set1_self (m := set1 m 88 (cpN (m 88) (m 87) 0 (24 * xx + a) j)) (k := 87)
        rwa [show set1 m 88 (cpN (m 88) (m 87) 0 (24 * xx + a) j) 87 = m 87 from set1_ne (by decide)] at this
      rw [e] at this
      exact this
    | succ e ih =>
      intro j hj
      refine rg_X6_move_115 hG 75 _ _ _ _ _ _ ⟨fun o => ?_, fun _ => ⟨rfl, 88, rfl, 87, rfl, 96, rfl, ?_⟩⟩
      · rw [o_le (by omega) (by omega)] at o; omega
      rw [e24, o_add]
      refine ⟨ib_o (by omega) (by decide), 24, rfl, ib_o (by omega) (by decide), ?_⟩
      rintro _ rfl
      have e2 := cpN_s (g := m 88) (h := m 87) (dp := 0) (sp := 24 * xx + a) (k := j) (by omega)
      rw [Nat.zero_add] at e2
      rw [upa_set, set1_eq, set1_set, set1_ne (by decide), rd_o (by omega), e2, o_1]
      exact ih (j + 1) (by omega)
  have := l1 c' 0 (by omega)
  rw [cpN_0, set1_self] at this
  exact this
end

