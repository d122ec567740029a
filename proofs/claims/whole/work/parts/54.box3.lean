-- 54.box3
set_option maxHeartbeats 4000000 in
theorem WN.same {f g : Nat → Int32} (h : ∀ j, 0 ≤ j → j < 8 → rd g j = rd f j) (w : WN f) : WN g := by
  unfold WN at w ⊢
  rw [h 1 (by decide) (by decide), h 2 (by decide) (by decide), h 3 (by decide) (by decide), h 4 (by decide) (by decide), h 5 (by decide) (by decide), h 6 (by decide) (by decide)]
  exact w
set_option maxHeartbeats 4000000 in
theorem Lay.wf {f g : Nat → Int32} {t c : Int32} (w : WF f) (hL : Lay f t c g) (ht : 0 ≤ t ∧ t < rd f 0) (h3 : its f t 3 < 0) (hc : 1 ≤ c ∧ c ≤ 15) (hs : sz f c < 5) : WF g := by
  have e0 : rd g 0 = rd f 0 := hL.1 0 (by decide) (by decide)
  have a := hL.wt (n := rd f 0) w.1 w.2.1 ht hc hs
  have b := hL.wc (n := rd f 0) w.1 w.2.1 ht h3 hc hs
  refine ⟨?_, ?_, WN.same hL.1 w.2.2.1, w.2.2.2.1.hi hL.2.1 (Or.inl rfl), w.2.2.2.2.hi hL.2.1 (Or.inr rfl)⟩
  · rw [← e0] at a; exact a
  · rw [← e0] at b; exact b
set_option maxHeartbeats 4000000 in
theorem Tak.wf {f g : Nat → Int32} {t to : Int32} (w : WF f) (hL : Tak f t to g) (ht : 0 ≤ t ∧ t < rd f 0) (h3 : 0 ≤ its f t 3) (hto : to = -1 ∨ to = -2) : WF g := by
  have e0 : rd g 0 = rd f 0 := hL.1 0 (by decide) (by decide)
  have hh := hgt_ok w.1 w.2.1 ht h3
  have a := hL.wt (n := rd f 0) w.1 w.2.1 ht hto (fun _ => ⟨hh.1, hh.2.1, hh.2.2.1⟩)
  have b := hL.wc (n := rd f 0) w.1 w.2.1 ht ⟨hh.1, hh.2.1, hh.2.2.1⟩
  refine ⟨?_, ?_, WN.same hL.1 w.2.2.1, w.2.2.2.1.hi hL.2.1 (Or.inl rfl), w.2.2.2.2.hi hL.2.1 (Or.inr rfl)⟩
  · rw [← e0] at a; exact a
  · rw [← e0] at b; exact b
section
variable {G : Gm} {d t n i : Nat} {m : Mem} {K : Option Value → Mem → Prop} {f : Nat → Int32} {x y z : Int32}
def ouR (f : Nat → Int32) (x : Int32) : Int32 × Int32 := if 0 ≤ x ∧ x < rd f 0 then if 0 ≤ its f x 3 then (0, its f x 3) else (3, 0) else (1, 0)
set_option maxHeartbeats 4000000 in
theorem c_X5_out (hG : fl G = false) (hd : 20 ≤ d) (hb : RB m 35 44 f) (hw : WF f) (h13 : m 35 13 = rd f 1 ∧ m 35 14 = rd f 7) (k : AnB jC 34 m K (ouR f x) (PC (takA f x (-2)))) : Cal G mX5_out d [.ref 0, .int x] SH (TA t n i) m K := by
  obtain ⟨d, rfl⟩ : ∃ e, d = e + 1 := ⟨d - 1, by omega⟩
  have h16 := hw.1.1.2
  refine Cal.of (by decide +kernel) rfl (Nat.le_of_ble_eq_true rfl) (rg_X5_out_0 hG 0 x ⟨rfl, 35, rfl, rfl, c_X0_hasR hG (by omega) hb h16 ⟨_, rfl, fun q => ?_, fun q => ?_⟩⟩)
  · have q := b1 q
    refine c_X0_cellOf hG (by omega) B35 hb h16 ⟨_, rfl, ?_⟩
    rw [if_pos q]
    rw [ouR, if_pos q] at k
    refine ⟨fun c => ?_, fun c => c_X5_refuse hG (by omega) (by decide) ⟨_, rfl, k.no (by rw [if_neg c]) (by decide)⟩⟩
    have hT := takA_ok (to := -2) hw.1 hw.2.1 q c
    refine c_X0_take hG (by omega) B35 hb hw.1 hw.2.1 q c hT (fun m' hf hr => ⟨rfl, k.ok (hf.mo (by decide)) ⟨hr, ?_, ?_⟩ (by rw [if_pos c])⟩)
    · rw [hf 35 (by decide), hT.1 1 (by decide) (by decide)]; exact h13.1
    · rw [hf 35 (by decide), hT.1 7 (by decide) (by decide)]; exact h13.2
  · exact c_X5_refuse hG (by omega) (by decide) ⟨_, rfl, k.no (by rw [ouR, if_neg (b0 q)]) (by decide)⟩
set_option maxHeartbeats 4000000 in
theorem c_X6_out (hG : fl G = false) (hd : 20 ≤ d) (hw : WF (m 76)) (k : AnB jM 79 m K (ouR (m 76) x) (PM (takA (m 76) x (-2)))) : Cal G mX6_out d [.ref 75, .int x] SH (TA t n i) m K := by
  obtain ⟨d, rfl⟩ : ∃ e, d = e + 1 := ⟨d - 1, by omega⟩
  have h16 := hw.1.1
  refine Cal.of (by decide +kernel) rfl (Nat.le_of_ble_eq_true rfl) (rg_X6_out_0 hG 75 x ⟨rfl, c_X6_isThing hG (by omega) h16.1 h16.2 ⟨_, rfl, fun q => ?_, fun q => ?_⟩⟩)
  · have q := b1 q
    rw [ouR, if_pos q] at k
    refine c_X6_its hG (by omega) ⟨q.1, Int32.lt_of_lt_of_le q.2 h16.2⟩ (by decide) ⟨_, rfl, fun c => ?_, fun c => c_X6_error hG (by omega) (by decide) ⟨_, rfl, k.no (by rw [if_neg c]) (by decide)⟩⟩
    exact c_X6_takesOut hG (by omega) hw.1 hw.2.1 q c ⟨rfl, k.ok (Fr.s1 (by decide)) set1_eq (by rw [if_pos c])⟩
  · exact c_X6_error hG (by omega) (by decide) ⟨_, rfl, k.no (by rw [ouR, if_neg (b0 q)]) (by decide)⟩
def baR (f : Nat → Int32) (x y : Int32) : Int32 × Int32 := if 0 ≤ x ∧ x < rd f 0 then if 1 ≤ y ∧ y ≤ 15 then if its f x 3 < 0 then if sz f y < 5 then (0, sz (layA f x y) y) else (4, 0) else (3, 0) else (1, 0) else (1, 0)
set_option maxHeartbeats 4000000 in
theorem c_X5_back (hG : fl G = false) (hd : 20 ≤ d) (hb : RB m 35 44 f) (hw : WF f) (h13 : m 35 13 = rd f 1 ∧ m 35 14 = rd f 7) (k : AnB jC 34 m K (baR f x y) (PC (layA f x y))) : Cal G mX5_back d [.ref 0, .int x, .int y] SH (TA t n i) m K := by
  obtain ⟨d, rfl⟩ : ∃ e, d = e + 1 := ⟨d - 1, by omega⟩
  have h16 := hw.1.1.2
  refine Cal.of (by decide +kernel) rfl (Nat.le_of_ble_eq_true rfl) (rg_X5_back_0 hG 0 x y ⟨rfl, 35, rfl, rfl, c_X0_hasR hG (by omega) hb h16 ⟨_, rfl, fun q => ?_, fun q => ?_⟩⟩)
  · exact c_X5_refuse hG (by omega) (by decide) ⟨_, rfl, k.no (by rw [baR, if_neg (b0 q)]) (by decide)⟩
  · have q := b1 q
    rw [baR, if_pos q] at k
    refine c_X5_isPile hG (by omega) ⟨_, rfl, fun q2 => ?_, fun q2 => c_X5_refuse hG (by omega) (by decide) ⟨_, rfl, k.no (by rw [if_neg (b0 q2)]) (by decide)⟩⟩
    have q2 := b1 q2
    have c0 : 0 ≤ y ∧ y ≤ 15 := ⟨Int32.le_trans (by decide) q2.1, q2.2⟩
    rw [if_pos q2] at k
    refine c_X0_cellOf hG (by omega) B35 hb h16 ⟨_, rfl, ?_⟩
    rw [if_pos q]
    refine ⟨fun c => ?_, fun c => c_X5_refuse hG (by omega) (by decide) ⟨_, rfl, k.no (by rw [if_neg c]) (by decide)⟩⟩
    rw [if_pos c] at k
    refine c_X0_highOf hG (by omega) B35 hb ⟨_, rfl, ?_⟩
    rw [if_pos c0]
    refine ⟨fun c2 => ?_, fun c2 => c_X5_refuse hG (by omega) (by decide) ⟨_, rfl, k.no (by rw [if_neg c2]) (by decide)⟩⟩
    have hL := layA_ok (f := f) ⟨q.1, Int32.lt_of_lt_of_le q.2 h16⟩ c0 ⟨(hw.2.1 y c0.1 c0.2).1.1, c2⟩
    refine c_X0_lower hG (by omega) B35 hb hw.1 hw.2.1 q c c0 c2 hL (fun m' hf hr => ⟨rfl, c_X0_highOf hG (by omega) B35 hr ⟨_, rfl, ?_⟩⟩)
    rw [if_pos c0]
    refine k.ok (hf.mo (by decide)) ⟨hr, ?_, ?_⟩ (by rw [if_pos c2])
    · rw [hf 35 (by decide), hL.1 1 (by decide) (by decide)]; exact h13.1
    · rw [hf 35 (by decide), hL.1 7 (by decide) (by decide)]; exact h13.2
set_option maxHeartbeats 4000000 in
theorem lt5 {s : Int32} (h : 0 ≤ s ∧ s ≤ 5) : s < 5 ↔ ¬ s = 5 := by
  constructor
  · intro a e; rw [e] at a; exact absurd a (by decide)
  · intro a; exact Int32.lt_of_le_of_ne h.2 a
set_option maxHeartbeats 4000000 in
theorem c_X6_back (hG : fl G = false) (hd : 20 ≤ d) (hw : WF (m 76)) (k : AnB jM 79 m K (baR (m 76) x y) (PM (layA (m 76) x y))) : Cal G mX6_back d [.ref 75, .int x, .int y] SH (TA t n i) m K := by
  obtain ⟨d, rfl⟩ : ∃ e, d = e + 1 := ⟨d - 1, by omega⟩
  have h16 := hw.1.1
  refine Cal.of (by decide +kernel) rfl (Nat.le_of_ble_eq_true rfl) (rg_X6_back_0 hG 75 x y ⟨rfl, c_X6_isThing hG (by omega) h16.1 h16.2 ⟨_, rfl, fun q => ?_, fun q => ?_⟩⟩)
  · exact c_X6_error hG (by omega) (by decide) ⟨_, rfl, k.no (by rw [baR, if_neg (b0 q)]) (by decide)⟩
  · have q := b1 q
    rw [baR, if_pos q] at k
    refine c_X6_isOpen hG (by omega) ⟨_, rfl, fun q2 => ?_, fun q2 => c_X6_error hG (by omega) (by decide) ⟨_, rfl, k.no (by rw [if_neg (b0 q2)]) (by decide)⟩⟩
    have q2 := b1 q2
    have c0 : 0 ≤ y ∧ y ≤ 15 := ⟨Int32.le_trans (by decide) q2.1, q2.2⟩
    have x16 : 0 ≤ x ∧ x < 16 := ⟨q.1, Int32.lt_of_lt_of_le q.2 h16.2⟩
    have s5 := (hw.2.1 y c0.1 c0.2).1
    rw [if_pos q2] at k
    refine c_X6_its hG (by omega) x16 (by decide) ⟨_, rfl, fun c => ?_, fun c => c_X6_error hG (by omega) (by decide) ⟨_, rfl, k.no (by rw [if_neg c]) (by decide)⟩⟩
    rw [if_pos c] at k
    refine c_X6_size hG (by omega) c0 ⟨_, rfl, fun c2 => ?_, fun c2 => c_X6_error hG (by omega) (by decide) ⟨_, rfl, k.no (by rw [if_neg (fun o => (lt5 s5).mp o c2)]) (by decide)⟩⟩
    have c2 := (lt5 s5).mpr c2
    rw [if_pos c2] at k
    refine c_X6_lays hG (by omega) x16 c0 ⟨s5.1, c2⟩ ⟨rfl, c_X6_size hG (by omega) c0 ⟨_, rfl, ?_⟩⟩
    rw [set1_eq]
    exact k.ok (Fr.s1 (by decide)) set1_eq rfl
def pgR (f : Nat → Int32) (x : Int32) : Int32 × Int32 := if 1 ≤ x ∧ x ≤ 15 then (0, if doe f x = 2 then upm f x else -1) else (1, 0)
set_option maxHeartbeats 4000000 in
theorem c_X5_pull (hG : fl G = false) (hd : 20 ≤ d) (hb : RB m 35 44 f) (ht : RT m 36 40 f) (hw : WF f) (h13 : m 35 13 = rd f 1 ∧ m 35 14 = rd f 7) (k : AnB jC 34 m K (pgR f x) (PC (pulA f x))) : Cal G mX5_pull d [.ref 0, .int x] SH (TA t n i) m K := by
  obtain ⟨d, rfl⟩ : ∃ e, d = e + 1 := ⟨d - 1, by omega⟩
  refine Cal.of (by decide +kernel) rfl (Nat.le_of_ble_eq_true rfl) (rg_X5_pull_0 hG 0 x (c_X5_isPile hG (by omega) ⟨_, rfl, fun q => ?_, fun q => ⟨rfl, c_X5_refuse hG (by omega) (by decide) ⟨_, rfl, k.no (by rw [pgR, if_neg (b0 q)]) (by decide)⟩⟩⟩))
  have q := b1 q
  rw [pgR, if_pos q] at k
  have hp := pul_ok hw q
  refine ⟨rfl, 35, rfl, rfl, c_X0_grip hG (by omega) B35 hb ht hw q (fun m' hf hr e13 e14 e15 => ⟨_, rfl, ?_⟩)⟩
  have kk : ∀ v, v = (if doe f x = 2 then upm f x else -1) → K (some (.int v)) m' := fun v e => k.ok (hf.mo (by decide)) ⟨hr, by rw [e13, h13.1, hp.2.2.2.2.1, (pen hw.2.2.1.1.1 hw.2.2.1.1.2).1], by rw [e14, h13.2, hp.2.2.2.1 7 (by decide) (by decide) (by decide) (by decide)]⟩ (by rw [e])
  exact ⟨fun c => kk _ (by rw [if_neg c]), fun c => kk _ (by rw [if_pos c, e15])⟩
set_option maxHeartbeats 4000000 in
theorem c_X6_pull (hG : fl G = false) (hd : 20 ≤ d) (hw : WF (m 76)) (k : AnB jM 79 m K (pgR (m 76) x) (PM (pulA (m 76) x))) : Cal G mX6_pull d [.ref 75, .int x] SH (TA t n i) m K := by
  obtain ⟨d, rfl⟩ : ∃ e, d = e + 1 := ⟨d - 1, by omega⟩
  refine Cal.of (by decide +kernel) rfl (Nat.le_of_ble_eq_true rfl) (rg_X6_pull_0 hG 75 x (c_X6_isOpen hG (by omega) ⟨_, rfl, fun q => ⟨rfl, c_X6_error hG (by omega) (by decide) ⟨_, rfl, k.no (by rw [pgR, if_neg (b0 q)]) (by decide)⟩⟩, fun q => ?_⟩))
  have q := b1 q
  rw [pgR, if_pos q] at k
  exact ⟨rfl, c_X6_pulls1 hG (by omega) hw q (fun m' hf e => ⟨_, rfl, k.ok (hf.mo (by decide)) e rfl⟩)⟩
def dwA (f : Nat → Int32) : Nat → Int32 := wr f 7 (rd f 7 * 1103515245 + 12345)
def dwN (f : Nat → Int32) : Int32 := ((rd f 7).toUInt32 >>> ((8 : Int32).toUInt32 &&& Int32.toUInt32 31)).toInt32
def dwC (f : Nat → Int32) : Int32 := 1 + (dwN f - dwN f / 15 * 15)
set_option maxHeartbeats 4000000 in
theorem dwC_ok (f : Nat → Int32) : 1 ≤ dwC f ∧ dwC f ≤ 15 := by
  have h0 : 0 ≤ dwN f ∧ dwN f < 16777216 := by
    unfold dwN
    generalize rd f 7 = v
    have : ∀ u : UInt32, 0 ≤ (u >>> ((8 : Int32).toUInt32 &&& Int32.toUInt32 31)).toInt32 ∧ (u >>> ((8 : Int32).toUInt32 &&& Int32.toUInt32 31)).toInt32 < 16777216 := by
      intro u
      rw [show ((8 : Int32).toUInt32 &&& Int32.toUInt32 31) = 8 by decide]
      have hn : (u >>> 8).toNat < 16777216 := by
        have hu := u.toNat_lt
        rw [UInt32.toNat_shiftRight, show (8 : UInt32).toNat % 32 = 8 from rfl, Nat.shiftRight_eq_div_pow]
        omega
      have hi : ((u >>> 8).toInt32).toInt = ((u >>> 8).toNat : Int) := by
        show (u >>> 8).toBitVec.toInt = ((u >>> 8).toBitVec.toNat : Int)
        refine BitVec.toInt_eq_toNat_of_lt ?_
        show 2 * (u >>> 8).toNat < 2 ^ 32
        omega
      rw [Int32.le_iff_toInt_le, Int32.lt_iff_toInt_lt, hi, show (0 : Int32).toInt = 0 from rfl, show (16777216 : Int32).toInt = 16777216 from rfl]
      omega
    exact this _
  unfold dwC
  generalize dwN f = v at *
  have a := Int32.le_iff_toInt_le.mp h0.1
  have b := Int32.lt_iff_toInt_lt.mp h0.2
  rw [show (0 : Int32).toInt = 0 from rfl] at a
  rw [show (16777216 : Int32).toInt = 16777216 from rfl] at b
  have e1 : (v / 15).toInt = v.toInt / 15 := by
    rw [Int32.toInt_div, show (15 : Int32).toInt = 15 from rfl, Int.tdiv_eq_ediv_of_nonneg a, Int.bmod_eq_of_le (by omega) (by omega)]
  have e2 : (v / 15 * 15).toInt = v.toInt / 15 * 15 := by
    rw [Int32.toInt_mul, e1, show (15 : Int32).toInt = 15 from rfl, Int.bmod_eq_of_le (by omega) (by omega)]
  have e3 : (v - v / 15 * 15).toInt = v.toInt - v.toInt / 15 * 15 := by
    rw [Int32.toInt_sub, e2, Int.bmod_eq_of_le (by omega) (by omega)]
  have e4 : (1 + (v - v / 15 * 15)).toInt = 1 + (v.toInt - v.toInt / 15 * 15) := by
    rw [Int32.toInt_add, e3, show (1 : Int32).toInt = 1 from rfl, Int.bmod_eq_of_le (by omega) (by omega)]
  constructor
  · rw [Int32.le_iff_toInt_le, e4, show (1 : Int32).toInt = 1 from rfl]; omega
  · rw [Int32.le_iff_toInt_le, e4, show (15 : Int32).toInt = 15 from rfl]; omega
end

