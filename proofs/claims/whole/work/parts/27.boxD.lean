theorem upn_bd {f : Nat → Int32} {x : Int32} (h1 : WT f) (h2 : WC f) (h3 : 0 ≤ x ∧ x < rd f 0) : (if (0 : Int32) < upn f x then upn f x else 0) = (if its f x 3 < 0 then 0 else upn f x) ∧ (if (0 : Int32) < und f x then und f x else 0) = (if its f x 3 < 0 then 0 else und f x) ∧ (¬ its f x 3 < 0 → 0 ≤ upn f x ∧ upn f x ≤ 4) := by
  unfold upn und
  by_cases c : its f x 3 < 0
  · simp only [if_pos c]
    exact ⟨by decide, by decide, fun z => absurd c z⟩
  · have h := hgt_ok h1 h2 h3 (Int32.not_lt.mp c)
    simp only [if_neg c]
    clear h1 h2 h3
    grind
theorem TR.there {m : Mem} {b : Nat} {u : Int32} {f : Nat → Int32} (hx : WX f u) (h : TR m b u (tW f u) (tV f u) (tN f u).toNatClampNeg) : m (b + 1) 1 = tN f u := by
  obtain ⟨N, hN, hw⟩ := hx
  have := hw.1
  rw [h.1, hN, tn_o (by omega)]
section
variable {G : Gm} {d : Nat} {sh : List Shp} {ta : Nat → Nat → Option Nat} {m : Mem} {K : Option Value → Mem → Prop}
theorem c_X0_strength (hG : fl G = false) (hd : 2 ≤ d) {b a : Nat} {f : Nat → Int32} (h1 : sh[b]? = some (.inl 0)) (h2 : RB m b a f) (k : K (some (.int (stg f 0))) m) : Cal G mX0_strength d [.ref b] sh ta m K := by
  obtain ⟨e1, e2, e3, e4⟩ := h2.1
  obtain ⟨d, rfl⟩ : ∃ e, d = e + 1 := ⟨d - 1, by omega⟩
  refine Cal.of (by decide +kernel) rfl (Nat.le_of_ble_eq_true rfl) (rg_X0_strength_0 hG b ?_)
  refine ⟨h1, c_X5_strengthAt hG (by omega) ⟨_, rfl, kv k ?_⟩⟩
  rw [e2, e3, e4, stg, Int32.add_zero]
theorem c_X0_needs (hG : fl G = false) (hd : 4 ≤ d) {b a t1 t2 : Nat} {f : Nat → Int32} {x : Int32} (h1 : BXo sh ta b a t1 t2) (h2 : RB m b a f) (h3 : RT m t1 t2 f) (h4 : WF f) (h5 : 0 ≤ x ∧ x < rd f 0) (k : ∀ m', Fr [t1, t1 + 3] m m' → K (some (.int (nds f x))) m') : Cal G mX0_needs d [.ref b, .int x] sh ta m K := by
  obtain ⟨w1, w2, w3, w4, w5⟩ := h4
  have e1 := w1.1.2
  obtain ⟨q0, q1, q2, q3, -⟩ := w1.2 x h5.1 h5.2
  have q4 := upn_bd w1 w2 h5
  have k0 := k m Fr.rf
  simp only [nds] at k k0
  have e2 : its f x 0 = 0 ∨ its f x 0 = 1 ∨ its f x 0 = 2 ∨ its f x 0 = 3 ∨ its f x 0 = 4 ∨ its f x 0 = 5 ∨ its f x 0 = 6 := by clear k k0 w1 w2; grind
  have bd : ∀ z : Int32, 1 ≤ z → z ≤ 99 → hld z 1 99 = z := by intro z z0 z1; unfold hld; rw [if_neg (Int32.not_lt.mpr z0), if_neg (Int32.not_lt.mpr z1)]
  obtain ⟨d, rfl⟩ : ∃ e, d = e + 1 := ⟨d - 1, by omega⟩
  refine Cal.of (by decide +kernel) rfl (Nat.le_of_ble_eq_true rfl) (rg_X0_needs_0 hG b x ?_)
  refine ⟨h1.1, c_X0_mOf hG (by omega) h1 h2 e1 ⟨_, rfl, ?_⟩⟩
  rw [if_pos h5]
  refine c_X0_on hG (by omega) h1 h2 w1 w2 h5 ⟨_, rfl, c_X0_kindOf hG (by omega) h1 h2 e1 ⟨_, rfl, ?_⟩⟩
  rw [if_pos h5]
  refine ⟨fun c => kv k0 ?_, fun c => kv k0 ?_, fun c => kv k0 ?_, fun c => kv k0 ?_, fun c => kv k0 ?_, fun c => kv k0 ?_, fun c => ?_⟩
  · have e : its f x 0 = 0 := by rcases e2 with e | e | e | e | e | e | e <;> first | exact e | (rw [e] at c; exact absurd c (by decide))
    rw [show nd0 f x = 20 + its f x 1 by simp [nd0, e], bd _ (by clear k k0 w1 w2; grind) (by clear k k0 w1 w2; grind)]
  · rw [show nd0 f x = 20 + its f x 1 + 10 by simp [nd0, c], bd _ (by clear k k0 w1 w2; grind) (by clear k k0 w1 w2; grind)]
  · rw [show nd0 f x = 20 + its f x 1 - 8 by simp [nd0, c], bd _ (by clear k k0 w1 w2; grind) (by clear k k0 w1 w2; grind)]
  · rw [show nd0 f x = 2 * (20 + its f x 1) by simp [nd0, c], bd _ (by clear k k0 w1 w2; grind) (by clear k k0 w1 w2; grind)]
  · rw [show nd0 f x = 20 + its f x 1 + 10 + its f x 1 by simp [nd0, c], bd _ (by clear k k0 w1 w2; grind) (by clear k k0 w1 w2; grind)]
  · rw [show nd0 f x = 20 + its f x 1 - 8 + 2 * (if its f x 3 < 0 then 0 else upn f x) by simp [nd0, c], q4.1, bd _ (by clear k k0 w1 w2; grind) (by clear k k0 w1 w2; grind)]
  · have hnd : nd0 f x = ndT f x := by simp [nd0, c]
    have hthere := TR.there w4 h3.1
    have hpos := tN_pos w4
    refine ⟨_, h1.2.1, h1.2.2.2.2.2.1.1, c_X3_isThere hG (by omega) h1.2.2.2.2.2.1 ⟨_, rfl, fun c2 => kv k0 ?_, fun c2 => ?_⟩⟩
    · have hn : tN f 0 ≤ 0 := by
        by_cases e : tN f 0 ≤ 0
        · exact e
        · rw [hthere, if_neg e] at c2; exact absurd c2 (by decide)
      rw [hnd, ndT, if_pos hn, bd _ (by clear k k0 w1 w2; grind) (by clear k k0 w1 w2; grind)]
    · have hn : ¬ tN f 0 ≤ 0 := fun e => c2 (by rw [hthere, if_pos e])
      refine c_X0_under hG (by omega) h1 h2 w1 w2 h5 ⟨_, rfl, c_X0_cellOf hG (by omega) h1 h2 e1 ⟨_, rfl, ?_⟩⟩
      rw [if_pos h5, q4.1, q4.2.1]
      obtain ⟨N, hN, hw⟩ := w4
      have hN60 := hw.1
      have hTR := h3.1
      rw [hN, tn_o (by omega)] at hTR
      refine c_X3_value hG (by omega) h1.2.2.2.2.2.1 (Or.inl rfl) hw (by
        rcases Nat.eq_zero_or_pos N with e | e
        · rw [hN, e] at hn; exact absurd (by decide) hn
        · exact e) hTR (fun m2 hf2 => ⟨_, rfl, ?_⟩)
      refine c_X5_within hG (by omega) (by decide) ⟨_, rfl, kv (k m2 hf2) ?_⟩
      rw [hnd, ndT, if_neg hn, tE, hN, tn_o (by omega)]
theorem c_X0_likes (hG : fl G = false) (hd : 4 ≤ d) {b a t1 t2 : Nat} {f : Nat → Int32} {x : Int32} (h1 : BXo sh ta b a t1 t2) (h2 : RB m b a f) (h3 : RT m t1 t2 f) (h4 : WF f) (h5 : 0 ≤ x ∧ x < rd f 0) (k : ∀ m', Fr [t2, t2 + 3] m m' → K (some (.int (lks f x))) m') : Cal G mX0_likes d [.ref b, .int x] sh ta m K := by
  obtain ⟨w1, w2, w3, w4, w5⟩ := h4
  have e1 := w1.1.2
  obtain ⟨q0, q1, q2, q3, -⟩ := w1.2 x h5.1 h5.2
  have bd : ∀ z : Int32, 0 ≤ z → z ≤ 99 → hld z (-999) 999 = z := by intro z z0 z1; unfold hld; clear k; grind
  have hthere := TR.there w5 h3.2
  obtain ⟨d, rfl⟩ : ∃ e, d = e + 1 := ⟨d - 1, by omega⟩
  refine Cal.of (by decide +kernel) rfl (Nat.le_of_ble_eq_true rfl) (rg_X0_likes_0 hG b x ?_)
  refine ⟨h1.1, _, h1.2.2.1, h1.2.2.2.2.2.2.1.1, c_X3_isThere hG (by omega) h1.2.2.2.2.2.2.1 ⟨_, rfl, fun c2 => ?_, fun c2 => ?_⟩⟩
  · have hn : ¬ tN f 1 ≤ 0 := fun e => c2 (by rw [hthere, if_pos e])
    refine c_X0_worthOf hG (by omega) h1 h2 e1 ⟨_, rfl, c_X0_kindOf hG (by omega) h1 h2 e1 ⟨_, rfl, c_X0_mOf hG (by omega) h1 h2 e1 ⟨_, rfl, ?_⟩⟩⟩
    simp only [if_pos h5]
    obtain ⟨N, hN, hw⟩ := w5
    have hN60 := hw.1
    have hTR := h3.2
    rw [hN, tn_o (by omega)] at hTR
    refine c_X3_value hG (by omega) h1.2.2.2.2.2.2.1 (Or.inr rfl) hw (by
      rcases Nat.eq_zero_or_pos N with e | e
      · rw [hN, e] at hn; exact absurd (by decide) hn
      · exact e) hTR (fun m2 hf2 => ⟨_, rfl, ?_⟩)
    refine c_X5_within hG (by omega) (by decide) ⟨_, rfl, kv (k m2 hf2) ?_⟩
    rw [lks, if_neg hn, tE, hN, tn_o (by omega)]
  · have hn : tN f 1 ≤ 0 := by
      by_cases e : tN f 1 ≤ 0
      · exact e
      · rw [hthere, if_neg e] at c2; exact absurd c2 (by decide)
    refine c_X0_worthOf hG (by omega) h1 h2 e1 ⟨_, rfl, kv (k m Fr.rf) ?_⟩
    rw [if_pos h5, lks, if_pos hn, bd _ q2.1 q2.2]
/-- of a box nothing is changed but what stands in the list -/
theorem RB.fr {L : List Nat} {m m' : Mem} {b a : Nat} {f : Nat → Int32} (h : RB m b a f) (hf : Fr L m m') (hb : b ∉ L) (ha : ∀ i, i ≤ 6 → a + i ∉ L) : RB m' b a f := by
  have e0 := hf b hb
  have e1 := hf a (ha 0 (by decide))
  have e2 := hf (a + 1) (ha 1 (by decide))
  have e3 := hf (a + 2) (ha 2 (by decide))
  have e4 := hf (a + 3) (ha 3 (by decide))
  have e5 := hf (a + 4) (ha 4 (by decide))
  have e6 := hf (a + 5) (ha 5 (by decide))
  have e7 := hf (a + 6) (ha 6 (by decide))
  unfold RB at h ⊢
  rw [e0, e1, e2, e3, e4, e5, e6, e7]
  exact h
theorem TR.fr {L : List Nat} {m m' : Mem} {b N : Nat} {u : Int32} {wh va : Nat → Int32} (h : TR m b u wh va N) (hf : Fr L m m') (h1 : b + 1 ∉ L) (h2 : b + 2 ∉ L) : TR m' b u wh va N := by
  unfold TR at h ⊢
  rw [hf _ h1, hf _ h2]
  exact h
theorem RT.fr {L : List Nat} {m m' : Mem} {t1 t2 : Nat} {f : Nat → Int32} (h : RT m t1 t2 f) (hf : Fr L m m') (h1 : t1 + 1 ∉ L) (h2 : t1 + 2 ∉ L) (h3 : t2 + 1 ∉ L) (h4 : t2 + 2 ∉ L) : RT m' t1 t2 f := ⟨h.1.fr hf h1 h2, h.2.fr hf h3 h4⟩
theorem c_X0_does (hG : fl G = false) (hd : 6 ≤ d) {b a t1 t2 : Nat} {f : Nat → Int32} {x : Int32} (h1 : BXo sh ta b a t1 t2) (h2 : RB m b a f) (h3 : RT m t1 t2 f) (h4 : WF f) (h5 : 0 ≤ x ∧ x ≤ 15) (k : ∀ m', Fr [t1, t1 + 3] m m' → K (some (.int (doe f x))) m') : Cal G mX0_does d [.ref b, .int x] sh ta m K := by
  obtain ⟨w1, w2, w3, w4, w5⟩ := id h4
  have k0 := k m Fr.rf
  obtain ⟨d, rfl⟩ : ∃ e, d = e + 1 := ⟨d - 1, by omega⟩
  refine Cal.of (by decide +kernel) rfl (Nat.le_of_ble_eq_true rfl) (rg_X0_does_0 hG b x ?_)
  refine ⟨h1.1, c_X0_top hG (by omega) h1 h2 w2 ⟨_, rfl, ?_⟩⟩
  rw [if_pos h5]
  by_cases c : upm f x = -1
  · refine ⟨fun z => ?_, fun _ => kv k0 (by rw [doe, if_pos c])⟩
    rw [c] at z; exact absurd z (by decide)
  have hu := upm_ok w2 h5 c
  refine ⟨fun _ => ?_, fun z => absurd hu.1.1 z⟩
  have hx1 : 1 ≤ x := by
    by_cases z : x = 0
    · rw [z, upm_0 w1 w2] at c; exact absurd rfl c
    · clear k hu h1 h2 h3 h4 w1 w2; grind
  have hne := nea_ok hx1 h5.2
  refine c_X0_strength hG (by omega) h1.1 h2 ⟨_, rfl, c_X0_needs hG (by omega) h1 h2 h3 h4 hu.1 (fun m2 hf2 => ⟨_, rfl, c_X5_holdBy hG (by omega) ⟨_, rfl, ?_⟩⟩)⟩
  by_cases e1 : nds f (upm f x) ≤ stg f 0
  · rw [if_pos e1]
    exact ⟨fun z => absurd z (by decide), fun _ => ⟨fun z => absurd rfl z, fun _ => kv (k m2 hf2) (by rw [doe, if_neg c, if_pos e1])⟩⟩
  rw [if_neg e1]
  by_cases e2 : 2 * stg f 0 < nds f (upm f x)
  · rw [if_pos e2]
    exact ⟨fun z => absurd z (by decide), fun _ => ⟨fun _ => kv (k m2 hf2) (by rw [doe, if_neg c, if_neg e1, if_pos e2]), fun z => absurd z (by decide)⟩⟩
  rw [if_neg e2]
  refine ⟨fun _ => c_X0_nearer hG (by omega) hx1 h5.2 ⟨_, rfl, fun c4 => ?_, fun c4 => kv (k m2 hf2) (by rw [doe, if_neg c, if_neg e1, if_neg e2, if_pos c4])⟩, fun z => absurd rfl z⟩
  have hn15 : nea x ≤ 15 := Int32.le_trans hne.2.1 (by decide)
  obtain ⟨-, -, -, -, -, -, -, g1, g2, g3, g4⟩ := id h1
  have h2' : RB m2 b a f := h2.fr hf2 (by simp; omega) (by intro i hi; simp; omega)
  refine c_X0_highOf hG (by omega) h1 h2' ⟨_, rfl, ?_⟩
  rw [if_pos ⟨hne.1, hn15⟩]
  have hs := (w2 (nea x) hne.1 hn15).1
  refine ⟨fun c5 => kv (k m2 hf2) ?_, fun c5 => kv (k m2 hf2) ?_⟩
  · rw [doe, if_neg c, if_neg e1, if_neg e2, if_neg c4, if_neg (fun z => by rw [z] at c5; exact absurd c5 (by decide))]
  · rw [doe, if_neg c, if_neg e1, if_neg e2, if_neg c4, if_pos (by clear k h1 h2 h3 h4 w1 w2 h2'; grind)]
end

