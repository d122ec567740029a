-- 32.boxF
-- the relation speaks of a row only where it lies alike
def EqB (f g : Nat → Int32) : Prop := rd g 0 = rd f 0 ∧ rd g 2 = rd f 2 ∧ rd g 3 = rd f 3 ∧ rd g 4 = rd f 4 ∧ (∀ s w, 0 ≤ s → s < rd f 0 → 0 ≤ w → w < 4 → its g s w = its f s w) ∧ ∀ c, 0 ≤ c → c ≤ 15 → sz g c = sz f c ∧ ∀ y, 0 ≤ y → y < sz f c → pl g c y = pl f c y
set_option maxHeartbeats 4000000 in
theorem RB.eqv {m : Mem} {b a : Nat} {f g : Nat → Int32} (h : RB m b a f) (e : EqB f g) : RB m b a g := by
  obtain ⟨e0, e2, e3, e4, e5, e6⟩ := e
  obtain ⟨⟨r1, r2, r3, r4⟩, r5, r6⟩ := h
  refine ⟨⟨by rw [e0]; exact r1, by rw [e3]; exact r2, by rw [e4]; exact r3, by rw [e2]; exact r4⟩, fun s s0 s1 => ?_, fun c c0 c1 => ?_⟩
  · rw [e0] at s1
    rw [e5 s 0 s0 s1 (by decide) (by decide), e5 s 1 s0 s1 (by decide) (by decide), e5 s 2 s0 s1 (by decide) (by decide), e5 s 3 s0 s1 (by decide) (by decide)]
    exact r5 s s0 s1
  · obtain ⟨k1, k2⟩ := e6 c c0 c1
    rw [k1]
    refine ⟨(r6 c c0 c1).1, fun y y0 y1 => ?_⟩
    rw [k2 y y0 y1]
    exact (r6 c c0 c1).2 y y0 y1
set_option maxHeartbeats 4000000 in
theorem RB.pulls {m m' : Mem} {b a : Nat} {f g : Nat → Int32} {v : Int32} (h : RB m b a f) (hb : b < a) (e : Fr [b] m m') (e9 : m' b 9 = m b 9) (e10 : m' b 10 = m b 10) (e11 : m' b 11 = m b 11) (e12 : m' b 12 = v) (g0 : rd g 0 = rd f 0) (g2 : rd g 2 = v) (g3 : rd g 3 = rd f 3) (g4 : rd g 4 = rd f 4) (hE : Eqv f g) (n16 : rd f 0 ≤ 16) (w2 : WC f) : RB m' b a g := by
  obtain ⟨⟨r1, r2, r3, r4⟩, r5, r6⟩ := h
  have z : ∀ i, m' (a + i) = m (a + i) := fun i => e _ (by simp; omega)
  have z0 := z 0
  rw [Nat.add_zero] at z0
  unfold RB
  rw [z0, z 1, z 2, z 3, z 4, z 5, z 6, e9, e10, e11, e12, g0, g2, g3, g4]
  refine ⟨⟨r1, r2, r3, rfl⟩, fun s s0 s1 => ?_, fun c c0 c1 => ?_⟩
  · have s16 : s < 16 := by clear r5 r6 hE w2; lia
    rw [hE.1 s 0 s0 s16 (by decide) (by decide), hE.1 s 1 s0 s16 (by decide) (by decide), hE.1 s 2 s0 s16 (by decide) (by decide), hE.1 s 3 s0 s16 (by decide) (by decide)]
    exact r5 s s0 s1
  · obtain ⟨k1, k2⟩ := hE.2 c c0 c1
    have b5 := (w2 c c0 c1).1.2
    rw [k1]
    refine ⟨(r6 c c0 c1).1, fun y y0 y1 => ?_⟩
    rw [k2 y y0 (by clear r5 r6 hE w2 k2; lia)]
    exact (r6 c c0 c1).2 y y0 y1
set_option maxHeartbeats 4000000 in
theorem min_hld {x hi : Int32} (h0 : 0 ≤ x) (h1 : x ≤ 99999) (hh : 0 ≤ hi) (h2 : hi ≤ 99999) : (if x + 1 < hi then x + 1 else hi) = hld (x + 1) 0 hi := by
  unfold hld
  rw [if_neg (c := x + 1 < 0) (by lia)]
  by_cases h : hi < x + 1
  · rw [if_pos h, if_neg (by lia)]
  · rw [if_neg h]
    by_cases g : x + 1 < hi
    · rw [if_pos g]
    · rw [if_neg g]; lia
section
variable {G : Gm} {d : Nat} {sh : List Shp} {ta : Nat → Nat → Option Nat} {m : Mem} {K : Option Value → Mem → Prop}
set_option maxHeartbeats 4000000 in
theorem c_X0_grip (hG : fl G = false) (hd : 7 ≤ d) {b a t1 t2 : Nat} {f : Nat → Int32} {c : Int32} (h1 : BXo sh ta b a t1 t2) (h2 : RB m b a f) (h3 : RT m t1 t2 f) (h4 : WF f) (h5 : 1 ≤ c ∧ c ≤ 15) (k : ∀ m', Fr [b, t1, t1 + 3, a + 3, a + 4, a + 5, a + 6] m m' → RB m' b a (pulA f c) → m' b 13 = (if m b 13 + 1 < 99999 then m b 13 + 1 else 99999) → m' b 14 = m b 14 → m' b 15 = upm f c → K (some (.int (doe f c))) m') : Cal G mX0_grip d [.ref b, .int c] sh ta m K := by
  obtain ⟨w1, w2, w3, w4, w5⟩ := id h4
  obtain ⟨x1, -, -, -, -, -, -, x8, x9, x10, x11⟩ := id h1
  have c0 : 0 ≤ c ∧ c ≤ 15 := ⟨by clear k; lia, h5.2⟩
  have hp := pul_ok h4 h5
  have hm := mid_ok w1 w2 h5
  have n16 := w1.1.2
  -- the end: numbers
  have tail : ∀ (m2 : Mem), Fr [b, t1, t1 + 3, a + 3, a + 4, a + 5, a + 6] m m2 → RB m2 b a (midA f c) → m2 b 13 = m b 13 → m2 b 14 = m b 14 → m2 b 15 = upm f c → ∀ m3, m3 = up2 m2 b 13 (if m2 b 13 + 1 < 99999 then m2 b 13 + 1 else 99999) → ∀ m4, m4 = up2 m3 b 12 (if m3 b 12 + 1 < 9999 then m3 b 12 + 1 else 9999) → K (some (.int (doe f c))) m4 := by
    rintro m2 hf hr e13 e14 e15 _ rfl _ rfl
    have e12 : m2 b 12 = rd f 2 := by rw [hr.1.2.2.2, hm.2.2.1 2 (by decide) (by decide)]
    refine k _ (hf.tr ((Fr.u2 (by simp)).tr (Fr.u2 (by simp)))) ?_ ?_ ?_ ?_
    · refine hr.pulls x10 (v := hld (rd f 2 + 1) 0 9999) ((Fr.u2 (by simp)).tr (Fr.u2 (by simp))) ?_ ?_ ?_ ?_ ?_ ?_ ?_ ?_ (fin_eqv _) (by rw [hm.2.2.1 0 (by decide) (by decide)]; exact n16) (by
        have := hm.2.1
        rw [← hm.2.2.1 0 (by decide) (by decide)] at this
        exact this)
      · simp [up2]
      · simp [up2]
      · simp [up2]
      · rw [up2_eq, if_pos rfl, up2_eq, if_neg (c := 12 = 13) (by decide), e12]
        exact min_hld w3.2.1.1 (Int32.le_trans w3.2.1.2 (by decide)) (by decide) (by decide)
      · rw [pulA, fin_rd (by decide), if_neg (by decide), if_neg (by decide)]
      · rw [pulA, fin_rd (by decide), if_neg (by decide), if_pos rfl, hm.2.2.1 2 (by decide) (by decide)]
      · rw [pulA, fin_rd (by decide), if_neg (by decide), if_neg (by decide)]
      · rw [pulA, fin_rd (by decide), if_neg (by decide), if_neg (by decide)]
    · rw [up2_eq, if_neg (by decide), up2_eq, if_pos rfl, e13]
    · rw [up2_eq, if_neg (by decide), up2_eq, if_neg (by decide), e14]
    · rw [up2_eq, if_neg (by decide), up2_eq, if_neg (by decide), e15]
  obtain ⟨d, rfl⟩ : ∃ e, d = e + 1 := ⟨d - 1, by omega⟩
  refine Cal.of (by decide +kernel) rfl (Nat.le_of_ble_eq_true rfl) (rg_X0_grip_0 hG b c ?_)
  refine ⟨x1, c_X0_does hG (by omega) h1 h2 h3 h4 c0 (fun m2 hf2 => ⟨_, rfl, ?_⟩)⟩
  have hb2 : m2 b = m b := hf2 b (by simp; omega)
  have h2' : RB m2 b a f := h2.fr hf2 (by simp; omega) (by intro i hi; simp; omega)
  refine c_X0_top hG (by omega) h1 h2' w2 ⟨_, rfl, ?_⟩
  rw [if_pos c0]
  rintro _ rfl
  have hf3 : Fr [b, t1, t1 + 3, a + 3, a + 4, a + 5, a + 6] m (up2 m2 b 15 (upm f c)) := (hf2.mo (by simp)).tr (Fr.u2 (by simp))
  have h3' : RB (up2 m2 b 15 (upm f c)) b a f := by
    have z : ∀ q, b ≠ q → up2 m2 b 15 (upm f c) q = m2 q := fun q hq => up2_ne (fun e => hq e.symm)
    unfold RB at h2' ⊢
    rw [z a (by omega), z (a + 1) (by omega), z (a + 2) (by omega), z (a + 3) (by omega), z (a + 4) (by omega), z (a + 5) (by omega), z (a + 6) (by omega)]
    simpa [up2] using h2'
  have v15 : up2 m2 b 15 (upm f c) b 15 = upm f c := by simp [up2]
  have v13 : up2 m2 b 15 (upm f c) b 13 = m b 13 := by simp [up2, hb2]
  have v14 : up2 m2 b 15 (upm f c) b 14 = m b 14 := by simp [up2, hb2]
  generalize up2 m2 b 15 (upm f c) = m3 at *
  rw [v15]
  refine ⟨fun d2 => ⟨fun d1 => ?_, fun d1 => ?_⟩, fun d2 => ?_⟩
  · exact tail m3 hf3 (by rw [midA, if_neg d2, if_neg d1]; exact h3') v13 v14 v15
  · obtain ⟨a1, a2, a3, a4⟩ := upm_ok w2 c0 (doe_u (Or.inl d1))
    have hn := nea_ok h5.1 h5.2
    have hT := takA_ok (to := -2) w1 w2 a1 (by rw [a2]; exact c0.1)
    have hg := hgt_ok w1 w2 a1 (by rw [a2]; exact c0.1)
    have hd := doe_1 d1
    have n1 : 1 ≤ nea c ∧ nea c ≤ 15 := by clear k tail w1 w2 hT h2' h3' hm hp; lia
    have hs := (hT.2.2.2 (nea c) hn.1 n1.2).1
    rw [a2, if_neg (by clear k tail w1 w2 hT h2' h3' hm hp; lia)] at hs
    have hb := (w2 (nea c) hn.1 n1.2).1
    have t1' := hT.wt w1 w2 a1 (Or.inr rfl) (fun _ => ⟨hg.1, hg.2.1, hg.2.2.1⟩)
    have t2' := hT.wc w1 w2 a1 ⟨hg.1, hg.2.1, hg.2.2.1⟩
    rw [← hT.1 0 (by decide) (by decide)] at t1' t2'
    have u16 : upm f c < 16 := by clear k tail w1 w2 hT h2' h3' hm hp t1' t2'; lia
    have hs5 : sz (takA f (upm f c) (-2)) (nea c) < 5 := by rw [hs]; clear k tail w1 w2 hT h2' h3' hm hp t1' t2'; lia
    have hL := layA_ok (f := takA f (upm f c) (-2)) (t := upm f c) (c := nea c) ⟨a1.1, u16⟩ ⟨hn.1, n1.2⟩ ⟨by rw [hs]; exact hb.1, hs5⟩
    have u0 : upm f c < rd (takA f (upm f c) (-2)) 0 := by rw [hT.1 0 (by decide) (by decide)]; exact a1.2
    have uc : its (takA f (upm f c) (-2)) (upm f c) 3 < 0 := by rw [hT.2.2.1 _ 3 a1.1 u16 (by decide) (by decide), if_pos ⟨rfl, rfl⟩]; decide
    refine c_X0_take hG (by omega) h1 h3' w1 w2 a1 (by rw [a2]; exact c0.1) hT (fun m4 hf4 hr4 => ⟨rfl, ?_⟩)
    refine c_X0_nearer hG (by omega) h5.1 h5.2 ⟨_, rfl, ?_⟩
    have k15 : m4 b = m3 b := hf4 b (by simp; omega)
    rw [k15, v15]
    refine c_X0_lower hG (by omega) h1 hr4 t1' t2' ⟨a1.1, u0⟩ uc ⟨hn.1, n1.2⟩ hs5 hL (fun m5 hf5 hr5 => ⟨rfl, ?_⟩)
    have k16 : m5 b = m3 b := (hf5 b (by simp; omega)).trans k15
    refine tail m5 (hf3.tr ((hf4.mo (by simp)).tr (hf5.mo (by simp)))) ?_ (by rw [k16, v13]) (by rw [k16, v14]) (by rw [k16, v15])
    rw [midA, if_neg d2, if_pos d1]
    exact hr5
  · obtain ⟨a1, a2, a3, a4⟩ := upm_ok w2 c0 (doe_u (Or.inr d2))
    have hT := takA_ok (to := -1) w1 w2 a1 (by rw [a2]; exact c0.1)
    refine c_X0_take hG (by omega) h1 h3' w1 w2 a1 (by rw [a2]; exact c0.1) hT (fun m4 hf4 hr4 => ⟨rfl, ?_⟩)
    have k15 : m4 b = m3 b := hf4 b (by simp; omega)
    refine tail m4 (hf3.tr (hf4.mo (by simp))) ?_ (by rw [k15, v13]) (by rw [k15, v14]) (by rw [k15, v15])
    rw [midA, if_pos d2]
    exact hr4
end

