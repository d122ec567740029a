-- 57.lay
def lyR (f : Nat → Int32) (x y : Int32) : Int32 × Int32 := if 0 ≤ x ∧ x ≤ 69 then if 1 ≤ y ∧ y ≤ 15 then if rd f 0 < 16 then if sz f y < 5 then (0, rd f 0) else (4, 0) else (4, 0) else (1, 0) else (1, 0)
-- a new thing that lies nowhere yet
def nwA (f : Nat → Int32) (x : Int32) : Nat → Int32 := wr (wr (wr (wr (wr f (8 + 4 * rd f 0 + 0) (x / 10)) (8 + 4 * rd f 0 + 1) (x - x / 10 * 10)) (8 + 4 * rd f 0 + 2) 10) (8 + 4 * rd f 0 + 3) (-2)) 0 (rd f 0 + 1)
def lyA (f : Nat → Int32) (x y : Int32) : Nat → Int32 := layA (nwA f x) (rd f 0) y
set_option maxHeartbeats 4000000 in
theorem km_ok {x : Int32} (h0 : 0 ≤ x) (h1 : x ≤ 69) : (0 ≤ x / 10 ∧ x / 10 ≤ 6) ∧ 0 ≤ x - x / 10 * 10 ∧ x - x / 10 * 10 ≤ 9 := by
  have key : ∀ k, k < 70 → (0 ≤ Int32.ofNat k / 10 ∧ Int32.ofNat k / 10 ≤ 6) ∧ 0 ≤ Int32.ofNat k - Int32.ofNat k / 10 * 10 ∧ Int32.ofNat k - Int32.ofNat k / 10 * 10 ≤ 9 := by decide +kernel
  obtain ⟨k, hk, rfl⟩ := oN' (N := 69) h0 h1 (by decide)
  exact key k (by omega)
set_option maxHeartbeats 4000000 in
theorem nwA_o {f : Nat → Int32} {x : Int32} {k : Nat} (hk : k < 16) (e : rd f 0 = Int32.ofNat k) : nwA f x = fun j => if j = 0 then Int32.ofNat (k + 1) else if j = 8 + 4 * k + 3 then -2 else if j = 8 + 4 * k + 2 then 10 else if j = 8 + 4 * k + 1 then x - x / 10 * 10 else if j = 8 + 4 * k then x / 10 else f j := by
  unfold nwA
  rw [e, show (8 : Int32) = Int32.ofNat 8 from rfl, show (4 : Int32) = Int32.ofNat 4 from rfl, show (0 : Int32) = Int32.ofNat 0 from rfl, show (1 : Int32) = Int32.ofNat 1 from rfl, show (2 : Int32) = Int32.ofNat 2 from rfl, show (3 : Int32) = Int32.ofNat 3 from rfl, o_mul, o_add, o_add, o_add, o_add, o_add, o_add, wr_o (by omega), wr_o (by omega), wr_o (by omega), wr_o (by omega), wr_o (by omega)]
  rfl
-- what is read of it
set_option maxHeartbeats 4000000 in
theorem nwA_ok {f : Nat → Int32} {x : Int32} (h : 0 ≤ rd f 0 ∧ rd f 0 < 16) : (rd (nwA f x) 0 = rd f 0 + 1 ∧ ∀ j, 0 < j → j < 8 → rd (nwA f x) j = rd f j) ∧ (∀ i : Nat, 168 ≤ i → nwA f x i = f i) ∧ (its (nwA f x) (rd f 0) 0 = x / 10 ∧ its (nwA f x) (rd f 0) 1 = x - x / 10 * 10 ∧ its (nwA f x) (rd f 0) 2 = 10 ∧ its (nwA f x) (rd f 0) 3 = -2) ∧ (∀ s w, 0 ≤ s → s < 16 → s ≠ rd f 0 → 0 ≤ w → w < 4 → its (nwA f x) s w = its f s w) ∧ ∀ c, 0 ≤ c → c ≤ 15 → sz (nwA f x) c = sz f c ∧ ∀ y, 0 ≤ y → y < 5 → pl (nwA f x) c y = pl f c y := by
  obtain ⟨k, hk, e⟩ := oN (N := 16) h.1 h.2 (by decide)
  rw [nwA_o hk e, e]
  refine ⟨⟨?_, fun j j0 j1 => ?_⟩, fun i hi => ?_, ⟨?_, ?_, ?_, ?_⟩, fun s w s0 s1 sn w0 w1 => ?_, fun c c0 c1 => ⟨?_, fun y y0 y1 => ?_⟩⟩
  · rw [o_1]
    rfl
  · obtain ⟨j, kj, rfl⟩ := oN (N := 8) (Int32.le_of_lt j0) j1 (by decide)
    have j00 : j ≠ 0 := fun z => by rw [z] at j0; exact absurd j0 (by decide)
    rw [rd_o (by omega), rd_o (by omega)]
    show (if j = 0 then _ else _) = _
    rw [if_neg j00, if_neg (by omega), if_neg (by omega), if_neg (by omega), if_neg (by omega)]
  · show (if i = 0 then _ else _) = _
    rw [if_neg (by omega), if_neg (by omega), if_neg (by omega), if_neg (by omega), if_neg (by omega)]
  · rw [show (0 : Int32) = Int32.ofNat 0 from rfl, its_o (by omega) (by omega)]
    show (if 8 + 4 * k + 0 = 0 then _ else _) = _
    rw [if_neg (by omega), if_neg (by omega), if_neg (by omega), if_neg (by omega), if_pos (by omega)]
  · rw [show its _ (Int32.ofNat k) 1 = _ from its_o (w := 1) (by omega) (by omega)]
    show (if 8 + 4 * k + 1 = 0 then _ else _) = _
    rw [if_neg (by omega), if_neg (by omega), if_neg (by omega), if_pos (by omega)]
  · rw [show its _ (Int32.ofNat k) 2 = _ from its_o (w := 2) (by omega) (by omega)]
    show (if 8 + 4 * k + 2 = 0 then _ else _) = _
    rw [if_neg (by omega), if_neg (by omega), if_pos (by omega)]
  · rw [show its _ (Int32.ofNat k) 3 = _ from its_o (w := 3) (by omega) (by omega)]
    show (if 8 + 4 * k + 3 = 0 then _ else _) = _
    rw [if_neg (by omega), if_pos (by omega)]
  · obtain ⟨s, ks, rfl⟩ := oN (N := 16) s0 s1 (by decide)
    obtain ⟨w, kw, rfl⟩ := oN (N := 4) w0 w1 (by decide)
    have sk : s ≠ k := fun z => sn (by rw [z])
    rw [its_o (by omega) (by omega), its_o (by omega) (by omega)]
    show (if 8 + 4 * s + w = 0 then _ else _) = _
    rw [if_neg (by omega), if_neg (by omega), if_neg (by omega), if_neg (by omega), if_neg (by omega)]
  · obtain ⟨c, kc, rfl⟩ := oN' (N := 15) c0 c1 (by decide)
    rw [sz_o (by omega), sz_o (by omega)]
    show (if 72 + 6 * c = 0 then _ else _) = _
    rw [if_neg (by omega), if_neg (by omega), if_neg (by omega), if_neg (by omega), if_neg (by omega)]
  · obtain ⟨c, kc, rfl⟩ := oN' (N := 15) c0 c1 (by decide)
    obtain ⟨y, ky, rfl⟩ := oN (N := 5) y0 y1 (by decide)
    rw [pl_o (by omega) (by omega), pl_o (by omega) (by omega)]
    show (if 72 + 6 * c + 1 + y = 0 then _ else _) = _
    rw [if_neg (by omega), if_neg (by omega), if_neg (by omega), if_neg (by omega), if_neg (by omega)]
set_option maxHeartbeats 4000000 in
theorem inc16 {n : Int32} (h : 0 ≤ n ∧ n < 16) : (0 ≤ n + 1 ∧ n + 1 ≤ 16) ∧ n < n + 1 ∧ ∀ s, s < n + 1 → s ≠ n → s < n := by
  have a := Int32.le_iff_toInt_le.mp h.1
  have b := Int32.lt_iff_toInt_lt.mp h.2
  rw [show (0 : Int32).toInt = 0 from rfl] at a
  rw [show (16 : Int32).toInt = 16 from rfl] at b
  have e : (n + 1).toInt = n.toInt + 1 := ti1 h.1 (Int32.le_trans (Int32.le_of_lt h.2) (by decide))
  refine ⟨⟨?_, ?_⟩, ?_, fun s hs hn => ?_⟩
  · rw [Int32.le_iff_toInt_le, e, show (0 : Int32).toInt = 0 from rfl]; omega
  · rw [Int32.le_iff_toInt_le, e, show (16 : Int32).toInt = 16 from rfl]; omega
  · rw [Int32.lt_iff_toInt_lt, e]; omega
  · rw [Int32.lt_iff_toInt_lt, e] at hs
    rw [Int32.lt_iff_toInt_lt]
    have : s.toInt ≠ n.toInt := fun z => hn (Int32.toInt_inj.mp z)
    omega
set_option maxHeartbeats 4000000 in
theorem nwA_wf {f : Nat → Int32} {x : Int32} (w : WF f) (h : rd f 0 < 16) (hx : 0 ≤ x ∧ x ≤ 69) : WF (nwA f x) := by
  have h0 : 0 ≤ rd f 0 ∧ rd f 0 < 16 := ⟨w.1.1.1, h⟩
  obtain ⟨⟨e1, e2⟩, e3, ⟨e4, e5, e6, e7⟩, e8, e9⟩ := nwA_ok (x := x) h0
  obtain ⟨i1, i2, i3⟩ := inc16 h0
  have km := km_ok hx.1 hx.2
  generalize nwA f x = g at *
  have n3 : ∀ s, 0 ≤ s → s < rd f 0 → its g s 3 = its f s 3 := fun s s0 s1 => e8 s 3 s0 (Int32.lt_trans s1 h) (fun z => by rw [z] at s1; exact absurd s1 Int32.lt_irrefl) (by decide) (by decide)
  refine ⟨⟨by rw [e1]; exact i1, fun s s0 s1 => ?_⟩, fun c c0 c1 => ?_, ?_, w.2.2.2.1.hi e3 (Or.inl rfl), w.2.2.2.2.hi e3 (Or.inr rfl)⟩
  · rw [e1] at s1
    by_cases hs : s = rd f 0
    · rw [hs, e4, e5, e6, e7]
      exact ⟨km.1, km.2, by decide, by decide, fun z => absurd z (by decide)⟩
    · have s2 := i3 s s1 hs
      have s16 := Int32.lt_trans s2 h
      obtain ⟨a1, a2, a3, a4, a5⟩ := w.1.2 s s0 s2
      rw [e8 s 0 s0 s16 hs (by decide) (by decide), e8 s 1 s0 s16 hs (by decide) (by decide), e8 s 2 s0 s16 hs (by decide) (by decide), n3 s s0 s2]
      refine ⟨a1, a2, a3, a4, fun z => ?_⟩
      obtain ⟨y, b1, b2, b3⟩ := a5 z
      have s5 := (w.2.1 _ z a4.2.1).1.2
      exact ⟨y, b1, by rw [(e9 _ z a4.2.1).1]; exact b2, by rw [(e9 _ z a4.2.1).2 y b1 (Int32.lt_of_lt_of_le b2 s5)]; exact b3⟩
  · obtain ⟨a1, a2⟩ := w.2.1 c c0 c1
    rw [(e9 c c0 c1).1]
    refine ⟨a1, fun y y0 y1 => ?_⟩
    obtain ⟨b1, b2, b3⟩ := a2 y y0 y1
    rw [(e9 c c0 c1).2 y y0 (Int32.lt_of_lt_of_le y1 a1.2), e1, n3 _ b1.1 b1.2]
    refine ⟨⟨b1.1, Int32.lt_trans b1.2 i2⟩, b2, fun y2 g0 g1 => ?_⟩
    rw [(e9 c c0 c1).2 y2 g0 (Int32.lt_of_lt_of_le g1 a1.2)]
    exact b3 y2 g0 g1
  · have q := w.2.2.1
    unfold WN at q ⊢
    rw [e2 1 (by decide) (by decide), e2 2 (by decide) (by decide), e2 3 (by decide) (by decide), e2 4 (by decide) (by decide), e2 5 (by decide) (by decide), e2 6 (by decide) (by decide)]
    exact q
set_option maxHeartbeats 4000000 in
theorem lyA_ok {f : Nat → Int32} {x y : Int32} (w : WF f) (h : rd f 0 < 16) (hx : 0 ≤ x ∧ x ≤ 69) (hy : 1 ≤ y ∧ y ≤ 15) (hs : sz f y < 5) : WF (lyA f x y) ∧ Lay (nwA f x) (rd f 0) y (lyA f x y) ∧ (∀ i : Nat, 168 ≤ i → lyA f x y i = f i) ∧ ∀ j, 0 < j → j < 8 → rd (lyA f x y) j = rd f j := by
  have h0 : 0 ≤ rd f 0 ∧ rd f 0 < 16 := ⟨w.1.1.1, h⟩
  have c0 : 0 ≤ y ∧ y ≤ 15 := ⟨Int32.le_trans (by decide) hy.1, hy.2⟩
  have e := nwA_ok (x := x) h0
  have wn := nwA_wf w h hx
  have hs2 : sz (nwA f x) y < 5 := by rw [(e.2.2.2.2 y c0.1 c0.2).1]; exact hs
  have L := layA_ok (f := nwA f x) (t := rd f 0) h0 c0 ⟨(wn.2.1 y c0.1 c0.2).1.1, hs2⟩
  refine ⟨Lay.wf wn L ⟨h0.1, by rw [e.1.1]; exact (inc16 h0).2.1⟩ (by rw [e.2.2.1.2.2.2]; decide) hy hs2, L, fun i hi => ?_, fun j j0 j1 => ?_⟩
  · have := L.2.1 i hi
    rw [e.2.1 i hi] at this
    exact this
  · have := L.1 j (Int32.le_of_lt j0) j1
    rw [e.1.2 j j0 j1] at this
    exact this
section
variable {G : Gm} {d t n i : Nat} {m : Mem} {K : Option Value → Mem → Prop} {f : Nat → Int32} {x y z : Int32}
set_option maxHeartbeats 4000000 in
theorem c_X5_lay (hG : fl G = false) (hd : 20 ≤ d) (hb : RB m 35 44 f) (hw : WF f) (h13 : m 35 13 = rd f 1 ∧ m 35 14 = rd f 7) (k : AnB jC 34 m K (lyR f x y) (PC (lyA f x y))) : Cal G mX5_lay d [.ref 0, .int x, .int y] SH (TA t n i) m K := by
  obtain ⟨d, rfl⟩ : ∃ e, d = e + 1 := ⟨d - 1, by omega⟩
  have ltx : ¬ 70 ≤ x ↔ x ≤ 69 := by
    rw [Int32.le_iff_toInt_le, Int32.le_iff_toInt_le, show (70 : Int32).toInt = 70 from rfl, show (69 : Int32).toInt = 69 from rfl]
    omega
  refine Cal.of (by decide +kernel) rfl (Nat.le_of_ble_eq_true rfl) (rg_X5_lay_0 hG 0 x y ⟨fun c => ⟨rfl, c_X5_refuse hG (by omega) (by decide) ⟨_, rfl, k.no (by rw [lyR, if_neg (fun o => absurd c (Int32.not_lt.mpr o.1))]) (by decide)⟩⟩, fun c => ⟨fun c2 => ⟨rfl, c_X5_refuse hG (by omega) (by decide) ⟨_, rfl, k.no (by rw [lyR, if_neg (fun o => absurd c2 (ltx.mpr o.2))]) (by decide)⟩⟩, fun c2 => ?_⟩⟩)
  have hx : 0 ≤ x ∧ x ≤ 69 := ⟨Int32.not_lt.mp c, ltx.mp c2⟩
  rw [lyR, if_pos hx] at k
  refine c_X5_isPile hG (by omega) ⟨_, rfl, fun q => ?_, fun q => ⟨rfl, c_X5_refuse hG (by omega) (by decide) ⟨_, rfl, k.no (by rw [if_neg (b0 q)]) (by decide)⟩⟩⟩
  have hy := b1 q
  have c0 : 0 ≤ y ∧ y ≤ 15 := ⟨Int32.le_trans (by decide) hy.1, hy.2⟩
  rw [if_pos hy] at k
  refine ⟨rfl, 35, rfl, rfl, fun c3 => c_X5_refuse hG (by omega) (by decide) ⟨_, rfl, k.no (by rw [if_neg (fun o => by rw [hb.1.1] at c3; exact absurd c3 (Int32.not_le.mpr o))]) (by decide)⟩, fun c3 => ?_⟩
  rw [hb.1.1] at c3
  have h16 := Int32.not_le.mp c3
  rw [if_pos h16] at k
  refine c_X0_highOf hG (by omega) B35 hb ⟨_, rfl, ?_⟩
  rw [if_pos c0]
  refine ⟨fun c4 => ⟨by decide, by decide, ?_⟩, fun c4 => c_X5_refuse hG (by omega) (by decide) ⟨_, rfl, k.no (by rw [if_neg c4]) (by decide)⟩⟩
  rw [if_pos c4] at k
  have h0 : 0 ≤ rd f 0 ∧ rd f 0 < 16 := ⟨hw.1.1.1, h16⟩
  have wn := nwA_wf hw h16 hx
  have ly := lyA_ok hw h16 hx hy c4
  obtain ⟨⟨e1, e2⟩, e3, ⟨e4, e5, e6, e7⟩, e8, e9⟩ := nwA_ok (x := x) h0
  have ib : InB (rd f 0) 16 := ib16 h0.1 h0.2
  obtain ⟨i1, i2, i3⟩ := inc16 h0
  obtain ⟨d, rfl⟩ : ∃ e, d = e + 1 := ⟨d - 1, by omega⟩
  refine Cal.of (by decide +kernel) rfl (Nat.le_of_ble_eq_true rfl) (rg_X0_add_0 hG 35 (x / 10) (x - x / 10 * 10) y ?_)
  rw [hb.1.1]
  refine ⟨rfl, fun c => absurd c (Int32.not_lt.mpr h0.1), fun _ => ⟨fun _ => ⟨44, rfl, 16, rfl, ib, ?_⟩, fun c => absurd h16 c⟩⟩
  rintro _ rfl
  refine ⟨45, rfl, 16, rfl, ib, ?_⟩
  rintro _ rfl
  refine ⟨46, rfl, 16, rfl, ib, ?_⟩
  rintro _ rfl
  refine ⟨47, rfl, 16, rfl, ib, ?_⟩
  rintro _ rfl _ rfl
  have u35 : ∀ j, upa (upa (upa (upa m 44 (rd f 0) (x / 10)) 45 (rd f 0) (x - x / 10 * 10)) 46 (rd f 0) 10) 47 (rd f 0) (-2) 35 j = m 35 j := fun j => by rw [upa_ne (by decide), upa_ne (by decide), upa_ne (by decide), upa_ne (by decide)]
  rw [u35, hb.1.1]
  have hF : Fr [35, 44, 45, 46, 47] m (up2 (upa (upa (upa (upa m 44 (rd f 0) (x / 10)) 45 (rd f 0) (x - x / 10 * 10)) 46 (rd f 0) 10) 47 (rd f 0) (-2)) 35 9 (rd f 0 + 1)) := (((((Fr.ua (by decide)).tr (Fr.ua (by decide))).tr (Fr.ua (by decide))).tr (Fr.ua (by decide))).tr (Fr.u2 (by decide)))
  have m44 : up2 (upa (upa (upa (upa m 44 (rd f 0) (x / 10)) 45 (rd f 0) (x - x / 10 * 10)) 46 (rd f 0) 10) 47 (rd f 0) (-2)) 35 9 (rd f 0 + 1) 44 = wr (m 44) (rd f 0) (x / 10) := by rw [up2_ne (by decide), upa_ne (by decide), upa_ne (by decide), upa_ne (by decide), upa_eq]
  have m45 : up2 (upa (upa (upa (upa m 44 (rd f 0) (x / 10)) 45 (rd f 0) (x - x / 10 * 10)) 46 (rd f 0) 10) 47 (rd f 0) (-2)) 35 9 (rd f 0 + 1) 45 = wr (m 45) (rd f 0) (x - x / 10 * 10) := by rw [up2_ne (by decide), upa_ne (by decide), upa_ne (by decide), upa_eq, upa_ne (by decide)]
  have m46 : up2 (upa (upa (upa (upa m 44 (rd f 0) (x / 10)) 45 (rd f 0) (x - x / 10 * 10)) 46 (rd f 0) 10) 47 (rd f 0) (-2)) 35 9 (rd f 0 + 1) 46 = wr (m 46) (rd f 0) 10 := by rw [up2_ne (by decide), upa_ne (by decide), upa_eq, upa_ne (by decide), upa_ne (by decide)]
  have m47 : up2 (upa (upa (upa (upa m 44 (rd f 0) (x / 10)) 45 (rd f 0) (x - x / 10 * 10)) 46 (rd f 0) 10) 47 (rd f 0) (-2)) 35 9 (rd f 0 + 1) 47 = wr (m 47) (rd f 0) (-2) := by rw [up2_ne (by decide), upa_eq, upa_ne (by decide), upa_ne (by decide), upa_ne (by decide)]
  have m35 : ∀ j, up2 (upa (upa (upa (upa m 44 (rd f 0) (x / 10)) 45 (rd f 0) (x - x / 10 * 10)) 46 (rd f 0) 10) 47 (rd f 0) (-2)) 35 9 (rd f 0 + 1) 35 j = if j = 9 then rd f 0 + 1 else m 35 j := fun j => by rw [up2_eq, u35]
  generalize up2 (upa (upa (upa (upa m 44 (rd f 0) (x / 10)) 45 (rd f 0) (x - x / 10 * 10)) 46 (rd f 0) 10) 47 (rd f 0) (-2)) 35 9 (rd f 0 + 1) = m1 at *
  have rb1 : RB m1 35 44 (nwA f x) := by
    obtain ⟨q1, q2, q3⟩ := hb
    refine ⟨⟨?_, ?_, ?_, ?_⟩, fun s s0 s1 => ?_, fun c c0 c1 => ?_⟩
    · rw [m35, if_pos rfl, e1]
    · rw [m35, if_neg (by decide), e2 3 (by decide) (by decide)]; exact q1.2.1
    · rw [m35, if_neg (by decide), e2 4 (by decide) (by decide)]; exact q1.2.2.1
    · rw [m35, if_neg (by decide), e2 2 (by decide) (by decide)]; exact q1.2.2.2
    · rw [e1] at s1
      show rd (m1 44) s = _ ∧ rd (m1 45) s = _ ∧ rd (m1 46) s = _ ∧ rd (m1 47) s = _
      rw [m44, m45, m46, m47, rd_wr h0.1 s0, rd_wr h0.1 s0, rd_wr h0.1 s0, rd_wr h0.1 s0]
      by_cases hs : s = rd f 0
      · rw [hs, if_pos rfl, if_pos rfl, if_pos rfl, if_pos rfl, e4, e5, e6, e7]
        exact ⟨rfl, rfl, rfl, rfl⟩
      · have s2 := i3 s s1 hs
        have s16 := Int32.lt_trans s2 h16
        have hs' : ¬ rd f 0 = s := fun z => hs z.symm
        rw [if_neg hs', if_neg hs', if_neg hs', if_neg hs', e8 s 0 s0 s16 hs (by decide) (by decide), e8 s 1 s0 s16 hs (by decide) (by decide), e8 s 2 s0 s16 hs (by decide) (by decide), e8 s 3 s0 s16 hs (by decide) (by decide)]
        exact q2 s s0 s2
    · have h5 := (hw.2.1 c c0 c1).1.2
      obtain ⟨g1, g2⟩ := q3 c c0 c1
      show rd (m1 50) c = _ ∧ ∀ h, _ → _ → rd (m1 49) _ = _ ∧ rd (m1 48) _ = _
      rw [hF 50 (by decide), hF 49 (by decide), hF 48 (by decide), (e9 c c0 c1).1]
      refine ⟨g1, fun h h0 h1 => ?_⟩
      rw [(e9 c c0 c1).2 h h0 (Int32.lt_of_lt_of_le h1 h5)]
      exact g2 h h0 h1
  refine c_X0_lower hG (by omega) B35 rb1 wn.1 wn.2.1 ⟨h0.1, by rw [e1]; exact i2⟩ (by rw [e7]; decide) c0 (by rw [(e9 y c0.1 c0.2).1]; exact c4) ly.2.1 (fun m' hf hr => ⟨rfl, ⟨_, rfl, ?_⟩⟩)
  refine k.ok ((hF.mo (by decide)).tr (hf.mo (by decide))) ⟨hr, ?_, ?_⟩ rfl
  · rw [hf 35 (by decide), m35, if_neg (by decide), ly.2.2.2 1 (by decide) (by decide)]; exact h13.1
  · rw [hf 35 (by decide), m35, if_neg (by decide), ly.2.2.2 7 (by decide) (by decide)]; exact h13.2
set_option maxHeartbeats 4000000 in
theorem layA_o {g : Nat → Int32} {t c s : Nat} (ht : t < 16) (hc : c ≤ 15) (hs : s ≤ 5) (e : sz g (Int32.ofNat c) = Int32.ofNat s) : layA g (Int32.ofNat t) (Int32.ofNat c) = fun j => if j = 8 + 4 * t + 3 then Int32.ofNat c else if j = 72 + 6 * c then Int32.ofNat (s + 1) else if j = 72 + 6 * c + 1 + s then Int32.ofNat t else g j := by
  have i1 : (72 : Int32) + 6 * Int32.ofNat c + 1 + Int32.ofNat s = Int32.ofNat (72 + 6 * c + 1 + s) := by
    rw [show (72 : Int32) = Int32.ofNat 72 from rfl, show (6 : Int32) = Int32.ofNat 6 from rfl, show (1 : Int32) = Int32.ofNat 1 from rfl, o_mul, o_add, o_add, o_add]
  have i2 : (72 : Int32) + 6 * Int32.ofNat c = Int32.ofNat (72 + 6 * c) := by
    rw [show (72 : Int32) = Int32.ofNat 72 from rfl, show (6 : Int32) = Int32.ofNat 6 from rfl, o_mul, o_add]
  have i3 : (8 : Int32) + 4 * Int32.ofNat t + 3 = Int32.ofNat (8 + 4 * t + 3) := by
    rw [show (8 : Int32) = Int32.ofNat 8 from rfl, show (4 : Int32) = Int32.ofNat 4 from rfl, show (3 : Int32) = Int32.ofNat 3 from rfl, o_mul, o_add, o_add]
  unfold layA
  rw [e, i1, i2, i3, o_1, wr_o (by omega), wr_o (by omega), wr_o (by omega)]
set_option maxHeartbeats 4000000 in
theorem lyA_eq (h : 0 ≤ rd f 0 ∧ rd f 0 < 16) (hy : 0 ≤ y ∧ y ≤ 15) (hs : 0 ≤ sz f y ∧ sz f y ≤ 5) : wr (layA (wr (wr (wr f (8 + 4 * rd f 0 + 0) (x / 10)) (8 + 4 * rd f 0 + 1) (x - x / 10 * 10)) (8 + 4 * rd f 0 + 2) 10) (rd f 0) y) 0 (rd (layA (wr (wr (wr f (8 + 4 * rd f 0 + 0) (x / 10)) (8 + 4 * rd f 0 + 1) (x - x / 10 * 10)) (8 + 4 * rd f 0 + 2) 10) (rd f 0) y) 0 + 1) = lyA f x y := by
  have e9 := (nwA_ok (x := x) h).2.2.2.2 y hy.1 hy.2
  unfold lyA
  obtain ⟨k, hk, e⟩ := oN (N := 16) h.1 h.2 (by decide)
  obtain ⟨c, hc, rfl⟩ := oN' (N := 15) hy.1 hy.2 (by decide)
  obtain ⟨s, ks, es⟩ := oN' (N := 5) hs.1 hs.2 (by decide)
  have f1 : wr (wr (wr f (8 + 4 * rd f 0 + 0) (x / 10)) (8 + 4 * rd f 0 + 1) (x - x / 10 * 10)) (8 + 4 * rd f 0 + 2) 10 = fun j => if j = 8 + 4 * k + 2 then 10 else if j = 8 + 4 * k + 1 then x - x / 10 * 10 else if j = 8 + 4 * k then x / 10 else f j := by
    rw [e, show (8 : Int32) = Int32.ofNat 8 from rfl, show (4 : Int32) = Int32.ofNat 4 from rfl, show (0 : Int32) = Int32.ofNat 0 from rfl, show (1 : Int32) = Int32.ofNat 1 from rfl, show (2 : Int32) = Int32.ofNat 2 from rfl, o_mul, o_add, o_add, o_add, o_add, wr_o (by omega), wr_o (by omega), wr_o (by omega)]
    rfl
  have e0 : rd f 0 = f 0 := rfl
  rw [f1]
  generalize hg : (fun j => if j = 8 + 4 * k + 2 then (10 : Int32) else if j = 8 + 4 * k + 1 then x - x / 10 * 10 else if j = 8 + 4 * k then x / 10 else f j) = g
  have gs : sz g (Int32.ofNat c) = Int32.ofNat s := by
    rw [← es, sz_o (by omega), sz_o (by omega), ← hg]
    show (if _ then _ else _) = _
    rw [if_neg (by omega), if_neg (by omega), if_neg (by omega)]
  have g0 : g 0 = Int32.ofNat k := by
    rw [← e, e0, ← hg]
    show (if _ then _ else _) = _
    rw [if_neg (by omega), if_neg (by omega), if_neg (by omega)]
  rw [es] at e9
  rw [e, layA_o hk hc ks gs, layA_o hk hc ks e9.1, nwA_o hk e]
  have r0 : ∀ F : Nat → Int32, rd F 0 = F 0 := fun _ => rfl
  have w0 : ∀ (F : Nat → Int32) (v : Int32), wr F 0 v = fun j => if j = 0 then v else F j := fun _ _ => rfl
  rw [r0, w0]
  funext j
  show (if j = 0 then (if 0 = 8 + 4 * k + 3 then _ else if 0 = 72 + 6 * c then _ else if 0 = 72 + 6 * c + 1 + s then _ else g 0) + 1 else if j = 8 + 4 * k + 3 then _ else if j = 72 + 6 * c then _ else if j = 72 + 6 * c + 1 + s then _ else g j) = if j = 8 + 4 * k + 3 then _ else if j = 72 + 6 * c then _ else if j = 72 + 6 * c + 1 + s then _ else if j = 0 then _ else if j = 8 + 4 * k + 3 then _ else _
  rw [if_neg (c := 0 = 8 + 4 * k + 3) (by omega), if_neg (c := 0 = 72 + 6 * c) (by omega), if_neg (c := 0 = 72 + 6 * c + 1 + s) (by omega), g0, o_1]
  by_cases h0 : j = 0
  · rw [if_pos h0, if_neg (by omega), if_neg (by omega), if_neg (by omega), if_pos h0]
  · rw [if_neg h0, if_neg h0]
    by_cases h3 : j = 8 + 4 * k + 3
    · rw [if_pos h3, if_pos h3]
    · rw [if_neg h3, if_neg h3, if_neg h3, ← hg]
set_option maxHeartbeats 4000000 in
theorem c_X6_lay (hG : fl G = false) (hd : 20 ≤ d) (hw : WF (m 76)) (k : AnB jM 79 m K (lyR (m 76) x y) (PM (lyA (m 76) x y))) : Cal G mX6_lay d [.ref 75, .int x, .int y] SH (TA t n i) m K := by
  obtain ⟨d, rfl⟩ : ∃ e, d = e + 1 := ⟨d - 1, by omega⟩
  have h16 := hw.1.1
  refine Cal.of (by decide +kernel) rfl (Nat.le_of_ble_eq_true rfl) (rg_X6_lay_0 hG 75 x y (c_X6_in hG (by omega) ⟨_, rfl, fun q => ⟨rfl, c_X6_error hG (by omega) (by decide) ⟨_, rfl, k.no (by rw [lyR, if_neg (b0 q)]) (by decide)⟩⟩, fun q => ?_⟩))
  have hx := b1 q
  rw [lyR, if_pos hx] at k
  refine c_X6_isOpen hG (by omega) ⟨_, rfl, fun q2 => ?_, fun q2 => ⟨rfl, c_X6_error hG (by omega) (by decide) ⟨_, rfl, k.no (by rw [if_neg (b0 q2)]) (by decide)⟩⟩⟩
  have hy := b1 q2
  have c0 : 0 ≤ y ∧ y ≤ 15 := ⟨Int32.le_trans (by decide) hy.1, hy.2⟩
  have s5 := (hw.2.1 y c0.1 c0.2).1
  rw [if_pos hy] at k
  refine ⟨rfl, 76, rfl, 502, rfl, ib502 (by decide) (by decide), fun c => c_X6_error hG (by omega) (by decide) ⟨_, rfl, k.no (by rw [if_neg (fun o => by rw [c] at o; exact absurd o (by decide))]) (by decide)⟩, fun c => ?_⟩
  have hlt : rd (m 76) 0 < 16 := Int32.lt_of_le_of_ne h16.2 c
  rw [if_pos hlt] at k
  refine c_X6_size hG (by omega) c0 ⟨_, rfl, fun c2 => ?_, fun c2 => c_X6_error hG (by omega) (by decide) ⟨_, rfl, k.no (by rw [if_neg (fun o => (lt5 s5).mp o c2)]) (by decide)⟩⟩
  have c2 := (lt5 s5).mpr c2
  rw [if_pos c2] at k
  have h0 : 0 ≤ rd (m 76) 0 ∧ rd (m 76) 0 < 16 := ⟨h16.1, hlt⟩
  have ix : ∀ w : Nat, w < 4 → InB (8 + 4 * rd (m 76) 0 + Int32.ofNat w) 502 := by
    intro w hw
    obtain ⟨k, hk, e⟩ := oN (N := 16) h0.1 h0.2 (by decide)
    rw [e, show (8 : Int32) = Int32.ofNat 8 from rfl, show (4 : Int32) = Int32.ofNat 4 from rfl, o_mul, o_add, o_add]
    exact ib_o (by omega) (by decide)
  refine ⟨ib502 (by decide) (by decide), by decide, ix 0 (by decide), ?_⟩
  rintro _ rfl
  refine ⟨by decide, ix 1 (by decide), ?_⟩
  rintro _ rfl
  refine ⟨ix 2 (by decide), ?_⟩
  rintro _ rfl
  rw [upa_set, upa_set, upa_set, set1_eq, set1_set, set1_eq, set1_set]
  have gs : sz (wr (wr (wr (m 76) (8 + 4 * rd (m 76) 0 + 0) (x / 10)) (8 + 4 * rd (m 76) 0 + 1) (x - x / 10 * 10)) (8 + 4 * rd (m 76) 0 + 2) 10) y = sz (m 76) y := by
    obtain ⟨k, hk, e⟩ := oN (N := 16) h0.1 h0.2 (by decide)
    obtain ⟨c, hc, rfl⟩ := oN' (N := 15) c0.1 c0.2 (by decide)
    rw [e, show (8 : Int32) = Int32.ofNat 8 from rfl, show (4 : Int32) = Int32.ofNat 4 from rfl, show (0 : Int32) = Int32.ofNat 0 from rfl, show (1 : Int32) = Int32.ofNat 1 from rfl, show (2 : Int32) = Int32.ofNat 2 from rfl, o_mul, o_add, o_add, o_add, o_add, wr_o (by omega), wr_o (by omega), wr_o (by omega), sz_o (by omega), sz_o (by omega)]
    show (if _ then _ else _) = _
    rw [if_neg (by omega)]
    show (if _ then _ else _) = _
    rw [if_neg (by omega)]
    show (if _ then _ else _) = _
    rw [if_neg (by omega)]
  refine c_X6_lays hG (by omega) h0 c0 (by rw [set1_eq, gs]; exact ⟨s5.1, c2⟩) ⟨rfl, ib502 (by decide) (by decide), ib502 (by decide) (by decide), ?_⟩
  rintro _ rfl
  rw [upa_set, set1_eq, set1_set, set1_eq, set1_set, lyA_eq h0 c0 s5]
  exact k.ok (Fr.s1 (by decide)) set1_eq rfl
end

