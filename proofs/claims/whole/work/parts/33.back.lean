-- 33.back
-- a pull undone: what lies then
set_option maxHeartbeats 4000000 in
theorem undo1 {f h1 h2 f1 g1 g2 : Nat → Int32} {c e u : Int32} (w1 : WT f) (w2 : WC f) (hc : 0 ≤ c ∧ c ≤ 15) (hn : 0 ≤ e ∧ e ≤ 15) (hne : e ≠ c) (hu : 0 ≤ u ∧ u < 16) (hun : u < rd f 0) (hcu : its f u 3 = c) (hpu : u = pl f c (sz f c - 1)) (hs0 : 0 < sz f c) (hes : sz f e < 5) (T1 : Tak f u (-2) h1) (L1 : Lay h1 u e h2) (E1 : Eqv h2 f1) (w3 : WT f1) (w4 : WC f1) (q0 : rd f1 0 = rd f 0) (T2 : Tak f1 u (-2) g1) (L2 : Lay g1 u c g2) : (∀ s w, 0 ≤ s → s < 16 → 0 ≤ w → w < 4 → its g2 s w = its f s w) ∧ (∀ d, 0 ≤ d → d ≤ 15 → sz g2 d = sz f d ∧ ∀ y, 0 ≤ y → y < sz f d → pl g2 d y = pl f d y) ∧ its g1 u 3 = -2 ∧ sz g1 c < 5 ∧ its f1 u 3 = e := by
  have bd : ∀ d, 0 ≤ d → d ≤ 15 → 0 ≤ sz f d ∧ sz f d ≤ 5 := fun d a1 a2 => (w2 d a1 a2).1
  have hg : hgt f u = sz f c - 1 := by
    rw [hpu]
    exact hgt_eq w1 w2 hc ⟨by have := bd c hc.1 hc.2; clear w1 w2 w3 w4 bd T1 L1 E1 T2 L2; lia, by have := bd c hc.1 hc.2; clear w1 w2 w3 w4 bd T1 L1 E1 T2 L2; lia⟩
  obtain ⟨-, -, a3, a4⟩ := T1
  obtain ⟨-, -, b3, b4⟩ := L1
  obtain ⟨c3, c4⟩ := E1
  rw [hcu, hg] at a4
  have ks1 : ∀ d, 0 ≤ d → d ≤ 15 → sz f1 d = if d = e then sz f e + 1 else if d = c then sz f c - 1 else sz f d := by
    intro d d0 d1
    rw [(c4 d d0 d1).1, (b4 d d0 d1).1, (a4 d d0 d1).1, (a4 e hn.1 hn.2).1, if_neg hne]
    by_cases z : d = e
    · rw [if_pos z, if_pos z]
    · rw [if_neg z, if_neg z]
      by_cases z2 : d = c
      · rw [if_pos z2, if_pos z2, z2]
      · rw [if_neg z2, if_neg z2]
  have kp1 : ∀ d y, 0 ≤ d → d ≤ 15 → 0 ≤ y → y < 5 → (d = c → y < sz f c - 1) → pl f1 d y = if d = e ∧ y = sz f e then u else pl f d y := by
    intro d y d0 d1 y0 y1 hy
    rw [(c4 d d0 d1).2 y y0 y1, (b4 d d0 d1).2 y y0 y1, (a4 e hn.1 hn.2).1, if_neg hne]
    by_cases z : d = e ∧ y = sz f e
    · rw [if_pos z, if_pos z]
    · rw [if_neg z, if_neg z, (a4 d d0 d1).2 y y0 y1 (fun q => by rw [q]; exact hy q), if_neg (fun q => absurd (hy q.1) (Int32.not_lt.mpr (by rw [← q.1]; exact q.1 ▸ q.2)))]
  have ki1 : ∀ s w, 0 ≤ s → s < 16 → 0 ≤ w → w < 4 → its f1 s w = if s = u ∧ w = 3 then e else its f s w := by
    intro s w s0 s1 w0 w1
    rw [c3 s w s0 s1 w0 w1, b3 s w s0 s1 w0 w1]
    by_cases z : s = u ∧ w = 3
    · rw [if_pos z, if_pos z]
    · rw [if_neg z, if_neg z, a3 s w s0 s1 w0 w1, if_neg z]
  have hcu1 : its f1 u 3 = e := by rw [ki1 u 3 hu.1 hu.2 (by decide) (by decide), if_pos ⟨rfl, rfl⟩]
  have be := bd e hn.1 hn.2
  have hg1 : hgt f1 u = sz f e := by
    have hp : pl f1 e (sz f e) = u := by
      rw [kp1 e _ hn.1 hn.2 be.1 hes (fun q => absurd q hne), if_pos ⟨rfl, rfl⟩]
    have hz : sz f e < sz f1 e := by rw [ks1 e hn.1 hn.2, if_pos rfl]; clear w1 w2 w3 w4 bd a3 a4 b3 b4 c3 c4 ks1 kp1 ki1 T2 L2; lia
    have := hgt_eq w3 w4 hn ⟨be.1, hz⟩
    rw [hp] at this
    exact this
  obtain ⟨-, -, d3, d4⟩ := T2
  obtain ⟨-, -, e3, e4⟩ := L2
  rw [hcu1, hg1] at d4
  clear w1 w2 w3 w4 a3 a4 b3 b4 c3 c4
  have bc := bd c hc.1 hc.2
  have sc1 : sz f1 c = sz f c - 1 := by rw [ks1 c hc.1 hc.2, if_neg (fun q => hne q.symm), if_pos rfl]
  have sg1 : sz g1 c = sz f c - 1 := by rw [(d4 c hc.1 hc.2).1, if_neg (fun q => hne q.symm), sc1]
  refine ⟨fun s w s0 s1 w0 w1 => ?_, fun d d0 d1 => ⟨?_, fun y y0 y1 => ?_⟩, ?_, ?_, hcu1⟩
  · rw [e3 s w s0 s1 w0 w1]
    by_cases z : s = u ∧ w = 3
    · rw [if_pos z, z.1, z.2, hcu]
    · rw [if_neg z, d3 s w s0 s1 w0 w1, if_neg z, ki1 s w s0 s1 w0 w1, if_neg z]
  · rw [(e4 d d0 d1).1]
    by_cases z : d = c
    · rw [if_pos z, sg1, z]
      clear bd ks1 kp1 ki1 d3 d4 e3 e4; lia
    · rw [if_neg z, (d4 d d0 d1).1]
      by_cases z2 : d = e
      · rw [if_pos z2, ks1 d d0 d1, if_pos z2, z2]
        clear bd ks1 kp1 ki1 d3 d4 e3 e4; lia
      · rw [if_neg z2, ks1 d d0 d1, if_neg z2, if_neg z]
  · have b5 := bd d d0 d1
    have y5 : y < 5 := by clear bd ks1 kp1 ki1 d3 d4 e3 e4; lia
    rw [(e4 d d0 d1).2 y y0 y5, sg1]
    by_cases z : d = c ∧ y = sz f c - 1
    · rw [if_pos z, z.1, z.2, hpu]
    · rw [if_neg z]
      have hy : d = c → y < sz f c - 1 := fun q => by
        have : y ≠ sz f c - 1 := fun q2 => z ⟨q, q2⟩
        rw [q] at y1
        clear bd ks1 kp1 ki1 d3 d4 e3 e4; lia
      rw [(d4 d d0 d1).2 y y0 y5 (fun q => by rw [ks1 d d0 d1, if_pos q, ← q]; clear bd ks1 kp1 ki1 d3 d4 e3 e4; lia), if_neg (fun q => by have q2 := q.2; rw [← q.1] at q2; clear bd ks1 kp1 ki1 d3 d4 e3 e4; lia), kp1 d y d0 d1 y0 y5 hy, if_neg (fun q => by have q2 := q.2; rw [← q.1] at q2; clear bd ks1 kp1 ki1 d3 d4 e3 e4; lia)]
  · rw [d3 u 3 hu.1 hu.2 (by decide) (by decide), if_pos ⟨rfl, rfl⟩]
  · rw [sg1]; clear bd ks1 kp1 ki1 d3 d4 e3 e4; lia
set_option maxHeartbeats 4000000 in
theorem undo2 {f h1 f1 g2 : Nat → Int32} {c u : Int32} (w1 : WT f) (w2 : WC f) (hc : 0 ≤ c ∧ c ≤ 15) (hu : 0 ≤ u ∧ u < 16) (hcu : its f u 3 = c) (hpu : u = pl f c (sz f c - 1)) (hs0 : 0 < sz f c) (T1 : Tak f u (-1) h1) (E1 : Eqv h1 f1) (L2 : Lay f1 u c g2) : (∀ s w, 0 ≤ s → s < 16 → 0 ≤ w → w < 4 → its g2 s w = its f s w) ∧ (∀ d, 0 ≤ d → d ≤ 15 → sz g2 d = sz f d ∧ ∀ y, 0 ≤ y → y < sz f d → pl g2 d y = pl f d y) ∧ its f1 u 3 = -1 ∧ sz f1 c < 5 := by
  have bd : ∀ d, 0 ≤ d → d ≤ 15 → 0 ≤ sz f d ∧ sz f d ≤ 5 := fun d a1 a2 => (w2 d a1 a2).1
  have hg : hgt f u = sz f c - 1 := by
    rw [hpu]
    exact hgt_eq w1 w2 hc ⟨by have := bd c hc.1 hc.2; clear w1 w2 bd T1 E1 L2; lia, by have := bd c hc.1 hc.2; clear w1 w2 bd T1 E1 L2; lia⟩
  obtain ⟨-, -, a3, a4⟩ := T1
  obtain ⟨c3, c4⟩ := E1
  obtain ⟨-, -, e3, e4⟩ := L2
  rw [hcu, hg] at a4
  clear w1 w2
  have bc := bd c hc.1 hc.2
  have s1c : sz f1 c = sz f c - 1 := by rw [(c4 c hc.1 hc.2).1, (a4 c hc.1 hc.2).1, if_pos rfl]
  refine ⟨fun s w s0 s1 w0 w1 => ?_, fun d d0 d1 => ⟨?_, fun y y0 y1 => ?_⟩, ?_, ?_⟩
  · rw [e3 s w s0 s1 w0 w1]
    by_cases z : s = u ∧ w = 3
    · rw [if_pos z, z.1, z.2, hcu]
    · rw [if_neg z, c3 s w s0 s1 w0 w1, a3 s w s0 s1 w0 w1, if_neg z]
  · rw [(e4 d d0 d1).1]
    by_cases z : d = c
    · rw [if_pos z, s1c, z]
      clear bd a3 a4 c3 c4 e3 e4; lia
    · rw [if_neg z, (c4 d d0 d1).1, (a4 d d0 d1).1, if_neg z]
  · have b5 := bd d d0 d1
    have y5 : y < 5 := by clear bd a3 a4 c3 c4 e3 e4; lia
    rw [(e4 d d0 d1).2 y y0 y5, s1c]
    by_cases z : d = c ∧ y = sz f c - 1
    · rw [if_pos z, z.1, z.2, hpu]
    · rw [if_neg z]
      have hy : d = c → y < sz f d - 1 := fun q => by
        have : y ≠ sz f c - 1 := fun q2 => z ⟨q, q2⟩
        rw [q] at y1 ⊢
        clear bd a3 a4 c3 c4 e3 e4; lia
      rw [(c4 d d0 d1).2 y y0 y5, (a4 d d0 d1).2 y y0 y5 hy, if_neg (fun q => by have q1 := hy q.1; have q2 := q.2; rw [q.1] at q1; exact absurd q1 (Int32.not_lt.mpr q2))]
  · rw [c3 u 3 hu.1 hu.2 (by decide) (by decide), a3 u 3 hu.1 hu.2 (by decide) (by decide), if_pos ⟨rfl, rfl⟩]
  · rw [s1c]; clear bd a3 a4 c3 c4 e3 e4; lia
-- the pulls set back
set_option maxHeartbeats 4000000 in
theorem RB.setp {m : Mem} {b a : Nat} {f g : Nat → Int32} (h : RB m b a g) (hb : b < a) (e0 : rd g 0 = rd f 0) (e3 : rd g 3 = rd f 3) (e4 : rd g 4 = rd f 4) (n16 : rd f 0 ≤ 16) (hi : ∀ s w, 0 ≤ s → s < 16 → 0 ≤ w → w < 4 → its g s w = its f s w) (hp : ∀ d, 0 ≤ d → d ≤ 15 → sz g d = sz f d ∧ ∀ y, 0 ≤ y → y < sz f d → pl g d y = pl f d y) : RB (up2 m b 12 (rd f 2)) b a f := by
  obtain ⟨⟨r1, r2, r3, r4⟩, r5, r6⟩ := h
  have z : ∀ q, b < q → up2 m b 12 (rd f 2) q = m q := fun q hq => up2_ne (by omega)
  unfold RB
  rw [z a (by omega), z (a + 1) (by omega), z (a + 2) (by omega), z (a + 3) (by omega), z (a + 4) (by omega), z (a + 5) (by omega), z (a + 6) (by omega)]
  refine ⟨⟨by simp [up2, r1, e0], by simp [up2, r2, e3], by simp [up2, r3, e4], by simp [up2]⟩, fun s s0 s1 => ?_, fun d d0 d1 => ?_⟩
  · have s16 : s < 16 := by clear r5 r6 hi hp z; lia
    rw [← hi s 0 s0 s16 (by decide) (by decide), ← hi s 1 s0 s16 (by decide) (by decide), ← hi s 2 s0 s16 (by decide) (by decide), ← hi s 3 s0 s16 (by decide) (by decide)]
    exact r5 s s0 (by rw [e0]; exact s1)
  · obtain ⟨k1, k2⟩ := hp d d0 d1
    obtain ⟨q1, q2⟩ := r6 d d0 d1
    rw [k1] at q1 q2
    refine ⟨q1, fun y y0 y1 => ?_⟩
    rw [← k2 y y0 y1]
    exact q2 y y0 y1

