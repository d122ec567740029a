def WTn (f : Nat → Int32) (n : Int32) : Prop := (0 ≤ n ∧ n ≤ 16) ∧ ∀ t, 0 ≤ t → t < n → (0 ≤ its f t 0 ∧ its f t 0 ≤ 6) ∧ (0 ≤ its f t 1 ∧ its f t 1 ≤ 9) ∧ (0 ≤ its f t 2 ∧ its f t 2 ≤ 99) ∧ (-2 ≤ its f t 3 ∧ its f t 3 ≤ 15 ∧ its f t 3 ≠ 0) ∧ (0 ≤ its f t 3 → ∃ h, 0 ≤ h ∧ h < sz f (its f t 3) ∧ pl f (its f t 3) h = t)
def WCn (f : Nat → Int32) (n : Int32) : Prop := ∀ c, 0 ≤ c → c ≤ 15 → (0 ≤ sz f c ∧ sz f c ≤ 5) ∧ ∀ h, 0 ≤ h → h < sz f c → (0 ≤ pl f c h ∧ pl f c h < n) ∧ its f (pl f c h) 3 = c ∧ ∀ h2, 0 ≤ h2 → h2 < sz f c → pl f c h2 = pl f c h → h2 = h
set_option maxHeartbeats 4000000 in
theorem Lay.wt {f g : Nat → Int32} {t c n : Int32} (hL : Lay f t c g) (w1 : WTn f n) (w2 : WCn f n) (ht : 0 ≤ t ∧ t < n) (hc : 1 ≤ c ∧ c ≤ 15) (hs : sz f c < 5) : WTn g n := by
  have hs0 : 0 ≤ sz f c := (w2 c (by lia) hc.2).1.1
  obtain ⟨-, -, l3, l4⟩ := hL
  refine ⟨w1.1, fun s s0 s1 => ?_⟩
  have hn := w1.1.2
  have s16 : s < 16 := by lia
  obtain ⟨a1, a2, a3, a4, a5⟩ := w1.2 s s0 s1
  rw [l3 s 0 s0 s16 (by decide) (by decide), l3 s 1 s0 s16 (by decide) (by decide), l3 s 2 s0 s16 (by decide) (by decide), l3 s 3 s0 s16 (by decide) (by decide)]
  rw [if_neg (c := s = t ∧ (0 : Int32) = 3) (fun z => absurd z.2 (by decide)), if_neg (c := s = t ∧ (1 : Int32) = 3) (fun z => absurd z.2 (by decide)), if_neg (c := s = t ∧ (2 : Int32) = 3) (fun z => absurd z.2 (by decide))]
  refine ⟨a1, a2, a3, ?_⟩
  have c0 : 0 ≤ c := by lia
  by_cases hst : s = t
  · rw [if_pos ⟨hst, rfl⟩]
    refine ⟨⟨by lia, hc.2, by lia⟩, fun _ => ⟨sz f c, hs0, ?_, ?_⟩⟩
    · rw [(l4 c c0 hc.2).1, if_pos rfl]; clear l3 l4 w1; lia
    · rw [(l4 c c0 hc.2).2 _ hs0 hs, if_pos ⟨rfl, rfl⟩, hst]
  · rw [if_neg (fun z => hst z.1)]
    refine ⟨a4, fun e0 => ?_⟩
    obtain ⟨h, h0, h1, h2⟩ := a5 e0
    generalize its f s 3 = e at *
    have := (l4 e e0 a4.2.1).1
    by_cases he : e = c
    · subst he
      refine ⟨h, h0, ?_, ?_⟩
      · rw [this, if_pos rfl]; clear l3 l4 w1 a5; lia
      · rw [(l4 e e0 a4.2.1).2 h h0 (by clear l3 l4 w1 a5; lia), if_neg (fun z => by have := z.2; clear l3 l4 w1 a5; lia), h2]
    · have h5 : h < 5 := by
        have := (w2 e e0 a4.2.1).1.2
        clear l3 l4 w1 w2 a5
        lia
      refine ⟨h, h0, ?_, ?_⟩
      · rw [this, if_neg he]; exact h1
      · rw [(l4 e e0 a4.2.1).2 h h0 h5, if_neg (fun z => he z.1), h2]
set_option maxHeartbeats 4000000 in
theorem Lay.wc {f g : Nat → Int32} {t c n : Int32} (hL : Lay f t c g) (w1 : WTn f n) (w2 : WCn f n) (ht : 0 ≤ t ∧ t < n) (h3 : its f t 3 < 0) (hc : 1 ≤ c ∧ c ≤ 15) (hs : sz f c < 5) : WCn g n := by
  obtain ⟨-, -, l3, l4⟩ := hL
  have hn := w1.1.2
  have hs0 : 0 ≤ sz f c := (w2 c (by lia) hc.2).1.1
  clear w1
  intro e e0 e1
  obtain ⟨k1, k2⟩ := l4 e e0 e1
  obtain ⟨⟨b1, b2⟩, b3⟩ := w2 e e0 e1
  clear l4 w2
  rw [k1]
  by_cases he : e = c
  · subst he
    rw [if_pos rfl]
    refine ⟨⟨by clear l3 k2 b3; lia, by clear l3 k2 b3; lia⟩, fun h h0 h1 => ?_⟩
    have h5 : h < 5 := by clear l3 k2 b3; lia
    by_cases hh : h = sz f e
    · rw [k2 h h0 h5, if_pos ⟨rfl, hh⟩]
      refine ⟨ht, ?_, fun h2 g0 g1 g2 => ?_⟩
      · rw [l3 t 3 ht.1 (by clear l3 k2 b3; lia) (by decide) (by decide), if_pos ⟨rfl, rfl⟩]
      · by_cases hq : h2 = sz f e
        · rw [hq, hh]
        · have q1 : h2 < sz f e := by clear l3 k2 b3; lia
          rw [k2 h2 g0 (by clear l3 k2 b3; lia), if_neg (fun z => hq z.2)] at g2
          have := (b3 h2 g0 q1).2.1
          rw [g2] at this
          rw [this] at h3
          exact absurd e0 (Int32.not_le.mpr h3)
    · have h6 : h < sz f e := by clear l3 k2 b3; lia
      obtain ⟨d1, d2, d3⟩ := b3 h h0 h6
      rw [k2 h h0 h5, if_neg (fun z => hh z.2)]
      have hnt : pl f e h ≠ t := fun z => by rw [z] at d2; rw [d2] at h3; exact absurd e0 (Int32.not_le.mpr h3)
      refine ⟨d1, ?_, fun h2 g0 g1 g2 => ?_⟩
      · rw [l3 _ 3 d1.1 (by clear l3 k2 b3; lia) (by decide) (by decide), if_neg (fun z => hnt z.1), d2]
      · by_cases hq : h2 = sz f e
        · rw [k2 h2 g0 (by clear l3 k2 b3; lia), if_pos ⟨rfl, hq⟩] at g2
          exact absurd g2.symm hnt
        · rw [k2 h2 g0 (by clear l3 k2 b3; lia), if_neg (fun z => hq z.2)] at g2
          exact d3 h2 g0 (by clear l3 k2 b3 d3; lia) g2
  · rw [if_neg he]
    refine ⟨⟨b1, b2⟩, fun h h0 h1 => ?_⟩
    obtain ⟨d1, d2, d3⟩ := b3 h h0 h1
    rw [k2 h h0 (by clear l3 k2 b3 d3; lia), if_neg (fun z => he z.1)]
    have hnt : pl f e h ≠ t := fun z => by rw [z] at d2; rw [d2] at h3; exact absurd e0 (Int32.not_le.mpr h3)
    refine ⟨d1, ?_, fun h2 g0 g1 g2 => ?_⟩
    · rw [l3 _ 3 d1.1 (by clear l3 k2 b3 d3; lia) (by decide) (by decide), if_neg (fun z => hnt z.1), d2]
    · rw [k2 h2 g0 (by clear l3 k2 b3 d3; lia), if_neg (fun z => he z.1)] at g2
      exact d3 h2 g0 g1 g2
set_option maxHeartbeats 4000000 in
theorem Tak.wt {f g : Nat → Int32} {t to n : Int32} (hL : Tak f t to g) (w1 : WTn f n) (w2 : WCn f n) (ht : 0 ≤ t ∧ t < n) (hto : to = -1 ∨ to = -2) (hh : 0 ≤ its f t 3 → 0 ≤ hgt f t ∧ hgt f t < sz f (its f t 3) ∧ pl f (its f t 3) (hgt f t) = t) : WTn g n := by
  obtain ⟨-, -, l3, l4⟩ := hL
  refine ⟨w1.1, fun s s0 s1 => ?_⟩
  have hn := w1.1.2
  have s16 : s < 16 := by clear w1 w2 hh l3 l4; lia
  obtain ⟨a1, a2, a3, a4, a5⟩ := w1.2 s s0 s1
  rw [l3 s 0 s0 s16 (by decide) (by decide), l3 s 1 s0 s16 (by decide) (by decide), l3 s 2 s0 s16 (by decide) (by decide), l3 s 3 s0 s16 (by decide) (by decide)]
  rw [if_neg (c := s = t ∧ (0 : Int32) = 3) (fun z => absurd z.2 (by decide)), if_neg (c := s = t ∧ (1 : Int32) = 3) (fun z => absurd z.2 (by decide)), if_neg (c := s = t ∧ (2 : Int32) = 3) (fun z => absurd z.2 (by decide))]
  refine ⟨a1, a2, a3, ?_⟩
  by_cases hst : s = t
  · rw [if_pos ⟨hst, rfl⟩]
    rcases hto with rfl | rfl
    · exact ⟨by decide, fun z => absurd z (by decide)⟩
    · exact ⟨by decide, fun z => absurd z (by decide)⟩
  · rw [if_neg (fun z => hst z.1)]
    refine ⟨a4, fun e0 => ?_⟩
    obtain ⟨h, h0, h1, h2⟩ := a5 e0
    generalize its f s 3 = e at *
    obtain ⟨k1, k2⟩ := l4 e e0 a4.2.1
    have b2 := (w2 e e0 a4.2.1).1.2
    clear w1 w2 l3 l4 a5
    by_cases he : e = its f t 3
    · obtain ⟨q1, q2, q3⟩ := hh (he ▸ e0)
      rw [if_pos he] at k1
      rw [← he] at q2 q3
      have hne : h ≠ hgt f t := fun z => by rw [z, q3] at h2; exact hst h2.symm
      by_cases hlt : h < hgt f t
      · refine ⟨h, h0, by rw [k1]; clear k2; lia, ?_⟩
        rw [k2 h h0 (by clear k2; lia) (fun _ => by clear k2; lia), if_neg (fun z => by have := z.2; clear k2; lia), h2]
      · refine ⟨h - 1, by clear k2; lia, by rw [k1]; clear k2; lia, ?_⟩
        rw [k2 (h - 1) (by clear k2; lia) (by clear k2; lia) (fun _ => by clear k2; lia), if_pos ⟨he, by clear k2; lia⟩, show h - 1 + 1 = h by clear k2; lia, h2]
    · rw [if_neg he] at k1
      refine ⟨h, h0, by rw [k1]; exact h1, ?_⟩
      rw [k2 h h0 (by clear k2; lia) (fun z => absurd z he), if_neg (fun z => he z.1), h2]
set_option maxHeartbeats 4000000 in
theorem Tak.wc {f g : Nat → Int32} {t to n : Int32} (hL : Tak f t to g) (w1 : WTn f n) (w2 : WCn f n) (ht : 0 ≤ t ∧ t < n) (hh : 0 ≤ hgt f t ∧ hgt f t < sz f (its f t 3) ∧ pl f (its f t 3) (hgt f t) = t) : WCn g n := by
  obtain ⟨-, -, l3, l4⟩ := hL
  have hn := w1.1.2
  clear w1
  intro e e0 e1
  obtain ⟨k1, k2⟩ := l4 e e0 e1
  obtain ⟨⟨b1, b2⟩, b3⟩ := w2 e e0 e1
  clear l4 w2
  rw [k1]
  obtain ⟨q1, q2, q3⟩ := hh
  by_cases he : e = its f t 3
  · rw [if_pos he]
    rw [← he] at q2 q3
    have key : ∀ y, 0 ≤ y → y < sz f e - 1 → ∃ y', pl g e y = pl f e y' ∧ 0 ≤ y' ∧ y' < sz f e ∧ pl f e y' ≠ t ∧ ((y' = y ∧ y < hgt f t) ∨ (y' = y + 1 ∧ hgt f t ≤ y)) := by
      intro y y0 y1
      have hu := (b3 (hgt f t) q1 q2).2.2
      by_cases hy : hgt f t ≤ y
      · refine ⟨y + 1, ?_, by clear k2 b3 hu; lia, by clear k2 b3 hu; lia, fun z => ?_, Or.inr ⟨rfl, hy⟩⟩
        · rw [k2 y y0 (by clear k2 b3 hu; lia) (fun _ => y1), if_pos ⟨he, hy⟩]
        · have := hu (y + 1) (by clear k2 b3 hu; lia) (by clear k2 b3 hu; lia) (z.trans q3.symm)
          clear k2 b3 hu; lia
      · refine ⟨y, ?_, y0, by clear k2 b3 hu; lia, fun z => ?_, Or.inl ⟨rfl, by clear k2 b3 hu; lia⟩⟩
        · rw [k2 y y0 (by clear k2 b3 hu; lia) (fun _ => y1), if_neg (fun z => hy z.2)]
        · have := hu y y0 (by clear k2 b3 hu; lia) (z.trans q3.symm)
          clear k2 b3 hu; lia
    refine ⟨⟨by clear k2 b3 key; lia, by clear k2 b3 key; lia⟩, fun h h0 h1 => ?_⟩
    obtain ⟨y, y1, y2, y3, y4, y5⟩ := key h h0 h1
    rw [y1]
    obtain ⟨d1, d2, d3⟩ := b3 y y2 y3
    refine ⟨d1, ?_, fun h2 g0 g1 g2 => ?_⟩
    · rw [l3 _ 3 d1.1 (by clear k2 b3 key d3; lia) (by decide) (by decide), if_neg (fun z => y4 z.1), d2]
    · obtain ⟨x, x1, x2, x3, x4, x5⟩ := key h2 g0 g1
      rw [x1] at g2
      have := d3 x x2 x3 g2
      clear k2 b3 key d3 l3 d2 g2 x1 y1 x4 y4
      have p1 : h < 4 := by lia
      have p2 : h2 < 4 := by lia
      clear h1 g1
      rcases x5 with ⟨z1, z2⟩ | ⟨z1, z2⟩ <;> rcases y5 with ⟨z3, z4⟩ | ⟨z3, z4⟩ <;> lia
  · rw [if_neg he]
    refine ⟨⟨b1, b2⟩, fun h h0 h1 => ?_⟩
    obtain ⟨d1, d2, d3⟩ := b3 h h0 h1
    have hp : ∀ y, 0 ≤ y → y < sz f e → pl g e y = pl f e y := fun y y0 y1 => by
      rw [k2 y y0 (by clear k2 b3 d3; lia) (fun z => absurd z he), if_neg (fun z => he z.1)]
    rw [hp h h0 h1]
    refine ⟨d1, ?_, fun h2 g0 g1 g2 => ?_⟩
    · rw [l3 _ 3 d1.1 (by clear k2 b3 d3; lia) (by decide) (by decide), if_neg (fun z => he (d2.symm.trans (by rw [z.1]))), d2]
    · rw [hp h2 g0 g1] at g2
      exact d3 h2 g0 g1 g2

