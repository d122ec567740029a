-- 30.pulls
def fin (f : Nat → Int32) : Nat → Int32 := wr (wr f 1 (hld (rd f 1 + 1) 0 99999)) 2 (hld (rd f 2 + 1) 0 9999)
def midA (f : Nat → Int32) (c : Int32) : Nat → Int32 := if doe f c = 2 then takA f (upm f c) (-1) else if doe f c = 1 then layA (takA f (upm f c) (-2)) (upm f c) (nea c) else f
def pulA (f : Nat → Int32) (c : Int32) : Nat → Int32 := fin (midA f c)
set_option maxHeartbeats 4000000 in
theorem doe_r (f : Nat → Int32) (c : Int32) : doe f c = 0 ∨ doe f c = 1 ∨ doe f c = 2 ∨ doe f c = 3 := by
  unfold doe
  repeat' split
  all_goals simp
set_option maxHeartbeats 4000000 in
theorem doe_u {f : Nat → Int32} {c : Int32} (h : doe f c = 1 ∨ doe f c = 2) : upm f c ≠ -1 := by
  intro e
  rw [doe, if_pos e] at h
  exact absurd h (by decide)
set_option maxHeartbeats 4000000 in
theorem doe_1 {f : Nat → Int32} {c : Int32} (h : doe f c = 1) : nea c ≠ 0 ∧ sz f (nea c) ≠ 5 := by
  unfold doe at h
  split at h
  · exact absurd h (by decide)
  split at h
  · exact absurd h (by decide)
  split at h
  · exact absurd h (by decide)
  split at h
  · exact absurd h (by decide)
  rename_i e
  split at h
  · exact absurd h (by decide)
  rename_i e2
  exact ⟨e, e2⟩
-- a pull, but for the numbers: its parts
set_option maxHeartbeats 4000000 in
theorem mid_ok {f : Nat → Int32} {c : Int32} (w1 : WT f) (w2 : WC f) (hc : 1 ≤ c ∧ c ≤ 15) : WTn (midA f c) (rd f 0) ∧ WCn (midA f c) (rd f 0) ∧ (∀ j, 0 ≤ j → j < 8 → rd (midA f c) j = rd f j) ∧ (∀ i : Nat, 168 ≤ i → midA f c i = f i) ∧ (∀ s, 0 ≤ s → s < 16 → its (midA f c) s 0 = its f s 0 ∧ its (midA f c) s 1 = its f s 1 ∧ its (midA f c) s 2 = its f s 2) := by
  have c0 : 0 ≤ c ∧ c ≤ 15 := ⟨by lia, hc.2⟩
  have e16 := w1.1.2
  unfold midA
  by_cases d2 : doe f c = 2
  · rw [if_pos d2]
    obtain ⟨a1, a2, a3, a4⟩ := upm_ok w2 c0 (doe_u (Or.inr d2))
    have hT := takA_ok (to := -1) w1 w2 a1 (by rw [a2]; exact c0.1)
    have hg := hgt_ok w1 w2 a1 (by rw [a2]; exact c0.1)
    refine ⟨hT.wt w1 w2 a1 (Or.inl rfl) (fun _ => ⟨hg.1, hg.2.1, hg.2.2.1⟩), hT.wc w1 w2 a1 ⟨hg.1, hg.2.1, hg.2.2.1⟩, hT.1, hT.2.1, fun s s0 s1 => ?_⟩
    refine ⟨?_, ?_, ?_⟩
    · rw [hT.2.2.1 s 0 s0 s1 (by decide) (by decide), if_neg (fun z => absurd z.2 (by decide))]
    · rw [hT.2.2.1 s 1 s0 s1 (by decide) (by decide), if_neg (fun z => absurd z.2 (by decide))]
    · rw [hT.2.2.1 s 2 s0 s1 (by decide) (by decide), if_neg (fun z => absurd z.2 (by decide))]
  rw [if_neg d2]
  by_cases d1 : doe f c = 1
  · rw [if_pos d1]
    obtain ⟨a1, a2, a3, a4⟩ := upm_ok w2 c0 (doe_u (Or.inl d1))
    have hT := takA_ok (to := -2) w1 w2 a1 (by rw [a2]; exact c0.1)
    have hg := hgt_ok w1 w2 a1 (by rw [a2]; exact c0.1)
    have hn := nea_ok hc.1 hc.2
    have hd := doe_1 d1
    have t1 := hT.wt w1 w2 a1 (Or.inr rfl) (fun _ => ⟨hg.1, hg.2.1, hg.2.2.1⟩)
    have t2 := hT.wc w1 w2 a1 ⟨hg.1, hg.2.1, hg.2.2.1⟩
    have hu16 : upm f c < 16 := by clear t1 t2 w1 w2 hT; lia
    have n1 : 1 ≤ nea c ∧ nea c ≤ 15 := by clear t1 t2 w1 w2 hT; lia
    have hcell : its (takA f (upm f c) (-2)) (upm f c) 3 = -2 := by
      rw [hT.2.2.1 _ 3 a1.1 hu16 (by decide) (by decide), if_pos ⟨rfl, rfl⟩]
    have hs := (hT.2.2.2 (nea c) hn.1 n1.2).1
    rw [a2, if_neg (by clear t1 t2 w1 w2 hT; lia)] at hs
    have hb := (w2 (nea c) hn.1 n1.2).1
    have hs5 : sz (takA f (upm f c) (-2)) (nea c) < 5 := by rw [hs]; clear t1 t2 w1 w2 hT; lia
    have hL := layA_ok (f := takA f (upm f c) (-2)) (t := upm f c) (c := nea c) ⟨a1.1, hu16⟩ ⟨hn.1, n1.2⟩ ⟨by rw [hs]; exact hb.1, hs5⟩
    refine ⟨hL.wt t1 t2 a1 n1 hs5, hL.wc t1 t2 a1 (by rw [hcell]; decide) n1 hs5, fun j j0 j1 => (hL.1 j j0 j1).trans (hT.1 j j0 j1), fun i hi => (hL.2.1 i hi).trans (hT.2.1 i hi), fun s s0 s1 => ⟨?_, ?_, ?_⟩⟩
    · rw [hL.2.2.1 s 0 s0 s1 (by decide) (by decide), if_neg (fun z => absurd z.2 (by decide)), hT.2.2.1 s 0 s0 s1 (by decide) (by decide), if_neg (fun z => absurd z.2 (by decide))]
    · rw [hL.2.2.1 s 1 s0 s1 (by decide) (by decide), if_neg (fun z => absurd z.2 (by decide)), hT.2.2.1 s 1 s0 s1 (by decide) (by decide), if_neg (fun z => absurd z.2 (by decide))]
    · rw [hL.2.2.1 s 2 s0 s1 (by decide) (by decide), if_neg (fun z => absurd z.2 (by decide)), hT.2.2.1 s 2 s0 s1 (by decide) (by decide), if_neg (fun z => absurd z.2 (by decide))]
  · rw [if_neg d1]
    exact ⟨w1, w2, fun _ _ _ => rfl, fun _ _ => rfl, fun _ _ _ => ⟨rfl, rfl, rfl⟩⟩
-- the numbers at the end of a pull
set_option maxHeartbeats 4000000 in
theorem fin_rd {f : Nat → Int32} {j : Int32} (h : 0 ≤ j) : rd (fin f) j = if j = 1 then hld (rd f 1 + 1) 0 99999 else if j = 2 then hld (rd f 2 + 1) 0 9999 else rd f j := by
  unfold fin
  rw [rd_wr (by decide) h, rd_wr (by decide) h]
  by_cases h1 : j = 1
  · subst h1
    rw [if_neg (by decide), if_pos rfl, if_pos rfl]
  · by_cases h2 : j = 2
    · subst h2
      rw [if_pos rfl, if_neg (by decide), if_pos rfl]
    · rw [if_neg (fun e => h2 e.symm), if_neg (fun e => h1 e.symm), if_neg h1, if_neg h2]
set_option maxHeartbeats 4000000 in
theorem fin_its {f : Nat → Int32} {s w : Int32} (h : 0 ≤ s ∧ s < 16) (hw : 0 ≤ w ∧ w < 4) : its (fin f) s w = its f s w := by
  unfold its
  rw [fin_rd (by lia), if_neg (by lia), if_neg (by lia)]
set_option maxHeartbeats 4000000 in
theorem fin_sz {f : Nat → Int32} {c : Int32} (h : 0 ≤ c ∧ c ≤ 15) : sz (fin f) c = sz f c := by
  unfold sz
  rw [fin_rd (by lia), if_neg (by lia), if_neg (by lia)]
set_option maxHeartbeats 4000000 in
theorem fin_pl {f : Nat → Int32} {c y : Int32} (h : 0 ≤ c ∧ c ≤ 15) (hy : 0 ≤ y ∧ y < 5) : pl (fin f) c y = pl f c y := by
  unfold pl
  rw [fin_rd (by lia), if_neg (by lia), if_neg (by lia)]
set_option maxHeartbeats 4000000 in
theorem fin_hi {f : Nat → Int32} {i : Nat} (h : 168 ≤ i) : fin f i = f i := by
  unfold fin
  rw [wr_hi (by show (2 : Nat) < i; omega), wr_hi (by show (1 : Nat) < i; omega)]
-- two rows of numbers that lie alike
def Eqv (f g : Nat → Int32) : Prop := (∀ s w, 0 ≤ s → s < 16 → 0 ≤ w → w < 4 → its g s w = its f s w) ∧ ∀ c, 0 ≤ c → c ≤ 15 → sz g c = sz f c ∧ ∀ y, 0 ≤ y → y < 5 → pl g c y = pl f c y
set_option maxHeartbeats 4000000 in
theorem fin_eqv (f : Nat → Int32) : Eqv f (fin f) := ⟨fun s w s0 s1 w0 w1 => fin_its ⟨s0, s1⟩ ⟨w0, w1⟩, fun c c0 c1 => ⟨fin_sz ⟨c0, c1⟩, fun y y0 y1 => fin_pl ⟨c0, c1⟩ ⟨y0, y1⟩⟩⟩
set_option maxHeartbeats 4000000 in
theorem Eqv.wt {f g : Nat → Int32} {n : Int32} (h : Eqv f g) (w : WTn f n) (w2 : WCn f n) : WTn g n := by
  refine ⟨w.1, fun t t0 t1 => ?_⟩
  have hn := w.1.2
  have t16 : t < 16 := by clear w w2; lia
  rw [h.1 t 0 t0 t16 (by decide) (by decide), h.1 t 1 t0 t16 (by decide) (by decide), h.1 t 2 t0 t16 (by decide) (by decide), h.1 t 3 t0 t16 (by decide) (by decide)]
  obtain ⟨a1, a2, a3, a4, a5⟩ := w.2 t t0 t1
  refine ⟨a1, a2, a3, a4, fun e => ?_⟩
  obtain ⟨y, y0, y1, y2⟩ := a5 e
  obtain ⟨k1, k2⟩ := h.2 _ e a4.2.1
  have b := (w2 _ e a4.2.1).1.2
  exact ⟨y, y0, by rw [k1]; exact y1, by rw [k2 y y0 (by clear w w2 a5 k2; lia)]; exact y2⟩
set_option maxHeartbeats 4000000 in
theorem Eqv.wc {f g : Nat → Int32} {n : Int32} (h : Eqv f g) (hn : n ≤ 16) (w2 : WCn f n) : WCn g n := by
  intro c c0 c1
  obtain ⟨k1, k2⟩ := h.2 c c0 c1
  obtain ⟨b1, b2⟩ := w2 c c0 c1
  rw [k1]
  have hp : ∀ y, 0 ≤ y → y < sz f c → pl g c y = pl f c y := fun y y0 y1 => k2 y y0 (by clear w2 k2 b2; lia)
  refine ⟨b1, fun y y0 y1 => ?_⟩
  obtain ⟨d1, d2, d3⟩ := b2 y y0 y1
  rw [hp y y0 y1]
  refine ⟨d1, by rw [h.1 _ 3 d1.1 (by clear w2 k2 b2 d3; lia) (by decide) (by decide)]; exact d2, fun z z0 z1 z2 => ?_⟩
  rw [hp z z0 z1] at z2
  exact d3 z z0 z1 z2
set_option maxHeartbeats 4000000 in
theorem tx_hi {f g : Nat → Int32} (h : ∀ i : Nat, 168 ≤ i → g i = f i) {u : Int32} (hu : u = 0 ∨ u = 1) : tN g u = tN f u ∧ (∀ k, k < 60 → tW g u k = tW f u k ∧ tV g u k = tV f u k) := by
  have ge : ∀ j : Int32, 168 ≤ j → 168 ≤ j.toNatClampNeg := by
    intro j hj
    have := Int32.le_iff_toInt_le.mp hj
    rw [show (168 : Int32).toInt = 168 from rfl] at this
    show 168 ≤ j.toInt.toNat
    omega
  refine ⟨h _ (ge _ (by rcases hu with rfl | rfl <;> decide)), fun k hk => ?_⟩
  have h1 := o_0 k (by omega)
  have h2 : Int32.ofNat k < 60 := (o_lt (b := 60) (by omega) (by decide)).mpr hk
  unfold tW tV
  generalize Int32.ofNat k = z at *
  rcases hu with rfl | rfl
  · exact ⟨h _ (ge _ (by simp only [tT]; lia)), h _ (ge _ (by simp only [tT]; lia))⟩
  · exact ⟨h _ (ge _ (by simp only [tT]; lia)), h _ (ge _ (by simp only [tT]; lia))⟩
set_option maxHeartbeats 4000000 in
theorem dps_c {w w' : Nat → Int32} : ∀ k, (∀ j, j < k → w j = w' j) → dps w k = dps w' k
  | 0, _ => rfl
  | k + 1, h => by
    simp only [dps]
    rw [h k (by omega), dps_c k (fun j hj => h j (by omega))]
set_option maxHeartbeats 4000000 in
theorem evs_c {w w' v v' : Nat → Int32} {nm : Int32 → Int32} : ∀ k, (∀ j, j < k → w j = w' j ∧ v j = v' j) → evs w v nm k = evs w' v' nm k
  | 0, _ => rfl
  | k + 1, h => by
    simp only [evs]
    rw [(h k (by omega)).1, (h k (by omega)).2, evs_c k (fun j hj => h j (by omega))]
set_option maxHeartbeats 4000000 in
theorem WX.hi {f g : Nat → Int32} (h : ∀ i : Nat, 168 ≤ i → g i = f i) {u : Int32} (hu : u = 0 ∨ u = 1) (w : WX f u) : WX g u := by
  obtain ⟨N, hN, h1, h2, h3⟩ := w
  obtain ⟨k1, k2⟩ := tx_hi h hu
  refine ⟨N, by rw [k1]; exact hN, h1, fun k hk => ?_, fun z => ?_⟩
  · have := h2 k hk
    unfold stOK at this ⊢
    rw [(k2 k (by omega)).1, (k2 k (by omega)).2, dps_c k (fun j hj => (k2 j (by omega)).1)]
    exact this
  · rw [dps_c N (fun j hj => (k2 j (by omega)).1)]; exact h3 z
set_option maxHeartbeats 4000000 in
theorem tE_hi {f g : Nat → Int32} (h : ∀ i : Nat, 168 ≤ i → g i = f i) {u : Int32} (hu : u = 0 ∨ u = 1) (w : WX f u) (nm : Int32 → Int32) : tE g u nm = tE f u nm := by
  obtain ⟨N, hN, h1, h2, h3⟩ := w
  obtain ⟨k1, k2⟩ := tx_hi h hu
  unfold tE
  rw [k1, hN, tn_o (by omega), evs_c N (fun j hj => k2 j (by omega))]
set_option maxHeartbeats 4000000 in
theorem RT.hi {f g : Nat → Int32} {m : Mem} {t1 t2 : Nat} (h : ∀ i : Nat, 168 ≤ i → g i = f i) (w1 : WX f 0) (w2 : WX f 1) (r : RT m t1 t2 f) : RT m t1 t2 g := by
  have key : ∀ {u : Int32} {t : Nat}, (u = 0 ∨ u = 1) → WX f u → TR m t u (tW f u) (tV f u) (tN f u).toNatClampNeg → TR m t u (tW g u) (tV g u) (tN g u).toNatClampNeg := by
    intro u t hu w r
    obtain ⟨N, hN, h1, h2, h3⟩ := w
    obtain ⟨k1, k2⟩ := tx_hi h hu
    rw [k1, hN, tn_o (by omega)]
    rw [hN, tn_o (by omega)] at r
    refine ⟨r.1, fun k hk => ?_⟩
    rw [(k2 k (by omega)).1, (k2 k (by omega)).2]
    exact r.2 k hk
  exact ⟨key (Or.inl rfl) w1 r.1, key (Or.inr rfl) w2 r.2⟩
set_option maxHeartbeats 4000000 in
theorem pul_ok {f : Nat → Int32} {c : Int32} (w : WF f) (hc : 1 ≤ c ∧ c ≤ 15) : WF (pulA f c) ∧ rd (pulA f c) 0 = rd f 0 ∧ (∀ i : Nat, 168 ≤ i → pulA f c i = f i) ∧ (∀ j, 0 ≤ j → j < 8 → j ≠ 1 → j ≠ 2 → rd (pulA f c) j = rd f j) ∧ rd (pulA f c) 1 = hld (rd f 1 + 1) 0 99999 ∧ rd (pulA f c) 2 = hld (rd f 2 + 1) 0 9999 ∧ (∀ s, 0 ≤ s → s < 16 → its (pulA f c) s 0 = its f s 0 ∧ its (pulA f c) s 1 = its f s 1 ∧ its (pulA f c) s 2 = its f s 2) := by
  obtain ⟨w1, w2, w3, w4, w5⟩ := w
  obtain ⟨a1, a2, a3, a4, a5⟩ := mid_ok w1 w2 hc
  have e0 : rd (pulA f c) 0 = rd f 0 := by
    unfold pulA
    rw [fin_rd (by decide), if_neg (by decide), if_neg (by decide), a3 0 (by decide) (by decide)]
  have hi : ∀ i : Nat, 168 ≤ i → pulA f c i = f i := fun i h => by unfold pulA; rw [fin_hi h, a4 i h]
  have er : ∀ j, 0 ≤ j → j < 8 → j ≠ 1 → j ≠ 2 → rd (pulA f c) j = rd f j := by
    intro j j0 j1 j2 j3
    unfold pulA
    rw [fin_rd j0, if_neg j2, if_neg j3, a3 j j0 j1]
  have e1 : rd (pulA f c) 1 = hld (rd f 1 + 1) 0 99999 := by
    unfold pulA
    rw [fin_rd (by decide), if_pos rfl, a3 1 (by decide) (by decide)]
  have e2 : rd (pulA f c) 2 = hld (rd f 2 + 1) 0 9999 := by
    unfold pulA
    rw [fin_rd (by decide), if_neg (by decide), if_pos rfl, a3 2 (by decide) (by decide)]
  refine ⟨⟨?_, ?_, ?_, w4.hi hi (Or.inl rfl), w5.hi hi (Or.inr rfl)⟩, e0, hi, er, e1, e2, fun s s0 s1 => ?_⟩
  · show WTn (pulA f c) (rd (pulA f c) 0)
    rw [e0]
    exact (fin_eqv _).wt a1 a2
  · show WCn (pulA f c) (rd (pulA f c) 0)
    rw [e0]
    exact (fin_eqv _).wc w1.1.2 a2
  · unfold WN at w3 ⊢
    rw [e1, e2, er 3 (by decide) (by decide) (by decide) (by decide), er 4 (by decide) (by decide) (by decide) (by decide), er 5 (by decide) (by decide) (by decide) (by decide), er 6 (by decide) (by decide) (by decide) (by decide)]
    refine ⟨?_, ?_, w3.2.2⟩
    · unfold hld; clear w1 w2 w4 w5 a1 a2 a3 a4 a5 er hi; grind
    · unfold hld; clear w1 w2 w4 w5 a1 a2 a3 a4 a5 er hi; grind
  · unfold pulA
    rw [fin_its ⟨s0, s1⟩ (by decide), fin_its ⟨s0, s1⟩ (by decide), fin_its ⟨s0, s1⟩ (by decide)]
    exact a5 s s0 s1
set_option maxHeartbeats 4000000 in
theorem ti1 {h : Int32} (h0 : 0 ≤ h) (h4 : h ≤ 100000) : (h + 1).toInt = h.toInt + 1 := by
  have a1 := Int32.le_iff_toInt_le.mp h0
  have a2 := Int32.le_iff_toInt_le.mp h4
  rw [show (0 : Int32).toInt = 0 from rfl] at a1
  rw [show (100000 : Int32).toInt = 100000 from rfl] at a2
  rw [Int32.toInt_add, show (1 : Int32).toInt = 1 from rfl, Int.bmod_eq_of_le (by omega) (by omega)]
section
variable {G : Gm} {d t n i : Nat} {m : Mem} {K : Option Value → Mem → Prop}
set_option maxHeartbeats 4000000 in
theorem c_X6_lays (hG : fl G = false) (hd : 2 ≤ d) {x y : Int32} (h1 : 0 ≤ x ∧ x < 16) (h2 : 0 ≤ y ∧ y ≤ 15) (h3 : 0 ≤ sz (m 76) y ∧ sz (m 76) y < 5) (k : K none (set1 m 76 (layA (m 76) x y))) : Cal G mX6_lays d [.ref 75, .int x, .int y] SH (TA t n i) m K := by
  have e1 : rd (wr (m 76) (72 + 6 * y + 1 + sz (m 76) y) x) (72 + 6 * y) = sz (m 76) y := by
    rw [rd_wr (by lia) (by lia), if_neg (by lia)]; rfl
  obtain ⟨d, rfl⟩ : ∃ e, d = e + 1 := ⟨d - 1, by omega⟩
  refine Cal.of (by decide +kernel) rfl (Nat.le_of_ble_eq_true rfl) (rg_X6_lays_0 hG 75 x y ?_)
  refine ⟨rfl, _, rfl, c_X6_size hG (by omega) h2 ⟨_, rfl, _, rfl, ib502 (by clear k; lia) (by clear k; lia), ?_⟩⟩
  rintro _ rfl
  refine ⟨ib502 (by clear k; lia) (by clear k; lia), ib502 (by clear k; lia) (by clear k; lia), ?_⟩
  rintro _ rfl
  refine ⟨ib502 (by clear k; lia) (by clear k; lia), ?_⟩
  rintro _ rfl
  rw [upa_eq, e1]
  have : upa (upa (upa m 76 (72 + 6 * y + 1 + sz (m 76) y) x) 76 (72 + 6 * y) (sz (m 76) y + 1)) 76 (8 + 4 * x + 3) y = set1 m 76 (layA (m 76) x y) := by
    simp only [upa_set, set1_eq, set1_set]
    rfl
  rw [this]
  exact k
set_option maxHeartbeats 4000000 in
theorem c_X6_takesOut (hG : fl G = false) (hd : 3 ≤ d) {x y : Int32} (h1 : WT (m 76)) (h2 : WC (m 76)) (h3 : 0 ≤ x ∧ x < rd (m 76) 0) (h4 : 0 ≤ its (m 76) x 3) (k : K none (set1 m 76 (takA (m 76) x y))) : Cal G mX6_takesOut d [.ref 75, .int x, .int y] SH (TA t n i) m K := by
  have e1 := hgt_ok h1 h2 h3 h4
  have e2 := (h1.2 x h3.1 h3.2).2.2.2.1.2.1
  have e3 := h1.1.2
  have x16 : x < 16 := by clear k h1 h2; lia
  have hloop : ∀ (k : Nat) (m' : Mem) (h : Int32), 0 ≤ h → (sz (m' 76) (its (m 76) x 3)).toInt = h.toInt + k + 1 → sz (m' 76) (its (m 76) x 3) ≤ 5 → K none (set1 m' 76 (wr (wr (shA (m' 76) (its (m 76) x 3) h k) (72 + 6 * its (m 76) x 3) (sz (m' 76) (its (m 76) x 3) - 1)) (8 + 4 * x + 3) y)) → WP G (rmD d 0 0) mX6_takesOut (QC G SH (TA t n i) K) 0 0 14 [(0, .ref 75), (1, .int x), (2, .int y), (3, .int (its (m 76) x 3)), (4, .int h)] [] (SH, TA t n i, m') := by
    obtain ⟨d, rfl⟩ : ∃ e, d = e + 1 := ⟨d - 1, by omega⟩
    clear k h1 h2 e1
    generalize its (m 76) x 3 = c at *
    intro k
    induction k with
    | zero =>
      intro m' h h0 hz hz5 kk
      have hh : sz (m' 76) c ≤ h + 1 ∧ h ≤ 4 := by
        have a1 := Int32.le_iff_toInt_le.mp hz5
        have a2 := Int32.le_iff_toInt_le.mp h0
        rw [show (5 : Int32).toInt = 5 from rfl] at a1
        rw [show (0 : Int32).toInt = 0 from rfl] at a2
        have h4 : h ≤ 4 := Int32.le_iff_toInt_le.mpr (by rw [show (4 : Int32).toInt = 4 from rfl]; omega)
        refine ⟨Int32.le_iff_toInt_le.mpr ?_, h4⟩
        rw [ti1 h0 (Int32.le_trans h4 (by decide))]
        omega
      refine rg_X6_takesOut_14 hG 75 x y c h ⟨rfl, c_X6_size hG (by omega) ⟨h4, e2⟩ ⟨_, rfl, fun _ => ⟨_, rfl, _, rfl, ib502 (by clear kk hz; lia) (by clear kk hz; lia), ib502 (by clear kk hz; lia) (by clear kk hz; lia), ?_⟩, fun z => absurd hh.1 z⟩⟩
      rintro _ rfl
      refine ⟨ib502 (by clear kk hz; lia) (by clear kk hz; lia), ?_⟩
      rintro _ rfl
      have : upa (upa m' 76 (72 + 6 * c) (rd (m' 76) (72 + 6 * c) - 1)) 76 (8 + 4 * x + 3) y = set1 m' 76 (wr (wr (shA (m' 76) c h 0) (72 + 6 * c) (sz (m' 76) c - 1)) (8 + 4 * x + 3) y) := by
        simp only [upa_set, set1_eq, set1_set]
        rfl
      rw [this]
      exact kk
    | succ k ih =>
      intro m' h h0 hz hz5 kk
      have hh : (h + 1).toInt = h.toInt + 1 ∧ h + 1 < sz (m' 76) c ∧ h ≤ 3 := by
        have a1 := Int32.le_iff_toInt_le.mp hz5
        have a2 := Int32.le_iff_toInt_le.mp h0
        rw [show (5 : Int32).toInt = 5 from rfl] at a1
        rw [show (0 : Int32).toInt = 0 from rfl] at a2
        have h3 : h ≤ 3 := Int32.le_iff_toInt_le.mpr (by rw [show (3 : Int32).toInt = 3 from rfl]; omega)
        have e := ti1 h0 (Int32.le_trans h3 (by decide))
        refine ⟨e, Int32.lt_iff_toInt_lt.mpr (by rw [e]; omega), h3⟩
      have hb : 0 ≤ h + 1 ∧ h + 1 < 5 := by clear kk hz ih; lia
      refine rg_X6_takesOut_14 hG 75 x y c h ⟨rfl, c_X6_size hG (by omega) ⟨h4, e2⟩ ⟨_, rfl, fun z => absurd hh.2.1 (Int32.not_lt.mpr z), fun _ => ⟨_, rfl, c_X6_at1 hG (by omega) ⟨h4, e2⟩ hb ⟨_, rfl, _, rfl, ib502 (by clear ih kk hz; lia) (by clear ih kk hz; lia), ?_⟩⟩⟩⟩
      rintro _ rfl
      have hs : sz (upa m' 76 (72 + 6 * c + 1 + h) (pl (m' 76) c (h + 1)) 76) c = sz (m' 76) c := by
        rw [upa_eq]
        show rd _ _ = _
        rw [rd_wr (by clear ih kk hz; lia) (by clear ih kk hz; lia), if_neg (by clear ih kk hz; lia)]
        rfl
      refine ih _ (h + 1) hb.1 (by rw [hs, hz, hh.1]; omega) (by rw [hs]; exact hz5) ?_
      rw [hs, upa_set, set1_set, set1_eq]
      exact kk
  have hk : (sz (m 76) (its (m 76) x 3)).toInt = (hgt (m 76) x).toInt + ((sz (m 76) (its (m 76) x 3) - 1 - hgt (m 76) x).toNatClampNeg : Nat) + 1 := by
    clear k h1 h2 hloop
    generalize sz (m 76) (its (m 76) x 3) = z at *
    generalize hgt (m 76) x = h at *
    have a1 := Int32.le_iff_toInt_le.mp e1.1
    have a2 := Int32.lt_iff_toInt_lt.mp e1.2.1
    have a3 := Int32.le_iff_toInt_le.mp e1.2.2.2
    rw [show (5 : Int32).toInt = 5 from rfl] at a3
    rw [show (0 : Int32).toInt = 0 from rfl] at a1
    have e : (z - 1 - h).toInt = z.toInt - 1 - h.toInt := by
      rw [Int32.toInt_sub, Int32.toInt_sub, show (1 : Int32).toInt = 1 from rfl, Int.bmod_eq_of_le (n := z.toInt - 1) (by omega) (by omega), Int.bmod_eq_of_le (by omega) (by omega)]
    have : ((z - 1 - h).toNatClampNeg : Int) = (z - 1 - h).toInt := by
      show ((z - 1 - h).toInt.toNat : Int) = _
      omega
    omega
  obtain ⟨d, rfl⟩ : ∃ e, d = e + 1 := ⟨d - 1, by omega⟩
  refine Cal.of (by decide +kernel) rfl (Nat.le_of_ble_eq_true rfl) (rg_X6_takesOut_0 hG 75 x y ?_)
  refine ⟨rfl, c_X6_its hG (by omega) ⟨h3.1, x16⟩ (by decide) ⟨_, rfl, c_X6_heightOf hG (by omega) h1 h2 h3 h4 ⟨_, rfl, ?_⟩⟩⟩
  exact hloop (sz (m 76) (its (m 76) x 3) - 1 - hgt (m 76) x).toNatClampNeg m _ e1.1 hk e1.2.2.2 k
set_option maxHeartbeats 4000000 in
theorem c_X6_pulls1 (hG : fl G = false) (hd : 7 ≤ d) {c : Int32} (h1 : WF (m 76)) (h2 : 1 ≤ c ∧ c ≤ 15) (k : ∀ m', Fr [76, 81, 82] m m' → m' 76 = pulA (m 76) c → K (some (.int (if doe (m 76) c = 2 then upm (m 76) c else -1))) m') : Cal G mX6_pulls1 d [.ref 75, .int c] SH (TA t n i) m K := by
  obtain ⟨w1, w2, w3, w4, w5⟩ := id h1
  have c0 : 0 ≤ c ∧ c ≤ 15 := ⟨by lia, h2.2⟩
  have hsz := (w2 c c0.1 c0.2).1
  have tail : ∀ (g : Nat → Int32) (m2 : Mem), Fr [76, 81, 82] m m2 → m2 76 = g → fin g = pulA (m 76) c → ∀ r, r = (if doe (m 76) c = 2 then upm (m 76) c else -1) → K (some (.int r)) (upa (upa m2 76 1 (hld (rd (m2 76) 1 + 1) 0 99999)) 76 2 (hld (rd (upa m2 76 1 (hld (rd (m2 76) 1 + 1) 0 99999) 76) 2 + 1) 0 9999)) := by
    intro g m2 hf hg hp r hr
    rw [hr]
    refine k _ (hf.tr ((Fr.ua (by decide)).tr (Fr.ua (by decide)))) ?_
    rw [upa_eq, upa_eq, rd_wr (by decide) (by decide), if_neg (by decide), hg]
    exact hp
  obtain ⟨d, rfl⟩ : ∃ e, d = e + 1 := ⟨d - 1, by omega⟩
  refine Cal.of (by decide +kernel) rfl (Nat.le_of_ble_eq_true rfl) (rg_X6_pulls1_0 hG 75 c ?_)
  refine ⟨rfl, c_X6_does hG (by omega) h1 c0 (fun m2 hf2 => ⟨_, rfl, ?_⟩)⟩
  have h76 : m2 76 = m 76 := hf2 76 (by decide)
  refine c_X6_uppermost hG (by omega) c0 (by rw [h76]; exact hsz) ⟨_, rfl, ?_⟩
  rw [h76]
  have hf3 : Fr [76, 81, 82] m m2 := hf2.mo (by simp)
  refine ⟨fun d2 => ⟨fun d1 => ?_, fun d1 => ?_⟩, fun d2 => ?_⟩
  · refine ⟨_, rfl, _, rfl, ib502 (by decide) (by decide), c_X6_held hG (by omega) ⟨_, rfl, ib502 (by decide) (by decide), ?_⟩⟩
    rintro _ rfl
    refine ⟨ib502 (by decide) (by decide), c_X6_held hG (by omega) ⟨_, rfl, ib502 (by decide) (by decide), ?_⟩⟩
    rintro _ rfl
    refine ⟨fun _ => ?_, fun z => absurd z d2⟩
    exact tail _ m2 hf3 h76 (by rw [pulA, midA, if_neg d2, if_neg d1]) _ (by rw [if_neg d2])
  · obtain ⟨a1, a2, a3, a4⟩ := upm_ok w2 c0 (doe_u (Or.inl d1))
    have hn := nea_ok h2.1 h2.2
    have hT := takA_ok (to := -2) w1 w2 a1 (by rw [a2]; exact c0.1)
    have hd := doe_1 d1
    have n1 : 1 ≤ nea c ∧ nea c ≤ 15 := by clear k tail w1 w2 hT; lia
    have hs := (hT.2.2.2 (nea c) hn.1 n1.2).1
    rw [a2, if_neg (by clear k tail w1 w2 hT; lia)] at hs
    have hb := (w2 (nea c) hn.1 n1.2).1
    refine c_X6_takesOut hG (by omega) (by rw [h76]; exact w1) (by rw [h76]; exact w2) (by rw [h76]; exact a1) (by rw [h76, a2]; exact c0.1) ⟨rfl, c_X6_nearer hG (by omega) ⟨_, rfl, ?_⟩⟩
    rw [h76]
    refine c_X6_lays hG (by omega) ⟨a1.1, by clear k tail w2 hT; have := w1.1.2; clear w1; lia⟩ ⟨hn.1, n1.2⟩ (by rw [set1_eq, hs]; clear k tail w1 w2 hT; lia) ⟨rfl, ?_⟩
    rw [set1_set, set1_eq]
    refine ⟨_, rfl, _, rfl, ib502 (by decide) (by decide), c_X6_held hG (by omega) ⟨_, rfl, ib502 (by decide) (by decide), ?_⟩⟩
    rintro _ rfl
    refine ⟨ib502 (by decide) (by decide), c_X6_held hG (by omega) ⟨_, rfl, ib502 (by decide) (by decide), ?_⟩⟩
    rintro _ rfl
    refine ⟨fun _ => ?_, fun z => absurd z d2⟩
    exact tail _ _ (hf3.tr (Fr.s1 (by decide))) set1_eq (by rw [pulA, midA, if_neg d2, if_pos d1]) _ (by rw [if_neg d2])
  · obtain ⟨a1, a2, a3, a4⟩ := upm_ok w2 c0 (doe_u (Or.inr d2))
    refine c_X6_takesOut hG (by omega) (by rw [h76]; exact w1) (by rw [h76]; exact w2) (by rw [h76]; exact a1) (by rw [h76, a2]; exact c0.1) ⟨rfl, ?_⟩
    rw [h76]
    have d1 : ¬ doe (m 76) c = 1 := by rw [d2]; decide
    refine ⟨fun _ => ?_, fun z => absurd z d1⟩
    refine ⟨_, rfl, _, rfl, ib502 (by decide) (by decide), c_X6_held hG (by omega) ⟨_, rfl, ib502 (by decide) (by decide), ?_⟩⟩
    rintro _ rfl
    refine ⟨ib502 (by decide) (by decide), c_X6_held hG (by omega) ⟨_, rfl, ib502 (by decide) (by decide), ?_⟩⟩
    rintro _ rfl
    refine ⟨fun z => absurd d2 z, fun _ => ?_⟩
    exact tail _ _ (hf3.tr (Fr.s1 (by decide))) set1_eq (by rw [pulA, midA, if_pos d2]) _ (by rw [if_pos d2])
end

