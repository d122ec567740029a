-- 79.heads
section
variable {G : Gm} {n u o : Nat} {w f : Nat → Int32}
set_option maxHeartbeats 4000000 in
theorem sg_any {c : Int32} (h : c = 124) : sgOK c := by
  subst h; simp [sgOK]
set_option maxHeartbeats 4000000 in
theorem H_any (hG : fl G = false) (hx : psX n w u f) : psH G n w u f mX1_readAny mX6_whole mX1_readAll mX6_both o (fun c => c = 124) := by
  have hn := hx.1
  refine ⟨?_, ?_, ?_, ?_⟩
  · intro d p i m K hd hp hT h4 hi hs hb
    have hlt : p < n := by
      refine Decidable.by_contra fun q => ?_
      rw [lkb, if_neg q] at hs
      revert hs
      decide
    have hl : lkb n w p = w p := if_pos hlt
    refine rg_X1_readAny_7 hG 9 (Int32.ofNat o) (Int32.ofNat i) ⟨fun c => absurd ((o_le (a := 60) (by decide) (by omega)).mp c) (by omega), fun _ => ⟨rfl, ?_⟩⟩
    refine c_isN hG hd hT hn hp (by decide) ⟨_, rfl, fun q => absurd ⟨h4, hs⟩ (b0 q), fun _ => ?_⟩
    rintro _ rfl
    unfold brC at hb
    have e : lkb n w p = 124 := hs
    rw [e] at hb
    exact hb.mono (fun v m' h => ⟨h.1, 16, rfl, rfl, h.2⟩)
  · intro d p i m K hd hp hT hs k
    have hno : ∀ c : Int32, (c = 124) → ¬ (m 9 4 = 0 ∧ lkb n w p = c) := fun c hc q => hs.elim (fun h => h q.1) (fun h => h (by rw [q.2]; exact hc))
    refine rg_X1_readAny_7 hG 9 (Int32.ofNat o) i ⟨fun _ => k, fun _ => ⟨rfl, ?_⟩⟩
    exact c_isN hG hd hT hn hp (by decide) ⟨_, rfl, fun _ => k, fun q => absurd (b1 q) (hno _ (by decide))⟩
  · intro d t a i p m K hd hp e6 e5 hs hb
    refine rg_X6_whole_9 hG 75 ⟨rfl, ?_⟩
    refine c_look hG hd hx hp e6 e5 ⟨_, rfl, fun q => absurd hs q, fun _ => ?_⟩
    rintro _ rfl
    unfold brM at hb
    have e : lkb n w p = 124 := hs
    rw [e] at hb
    exact hb
  · intro d t a i p m K hd hp e6 e5 hs k
    refine rg_X6_whole_9 hG 75 ⟨rfl, ?_⟩
    exact c_look hG hd hx hp e6 e5 ⟨_, rfl, fun _ => k, fun q => absurd (show lkb n w p = 124 from q) hs⟩
set_option maxHeartbeats 4000000 in
theorem sg_all {c : Int32} (h : c = 38) : sgOK c := by
  subst h; simp [sgOK]
set_option maxHeartbeats 4000000 in
theorem H_all (hG : fl G = false) (hx : psX n w u f) : psH G n w u f mX1_readAll mX6_both mX1_readCompared mX6_compared o (fun c => c = 38) := by
  have hn := hx.1
  refine ⟨?_, ?_, ?_, ?_⟩
  · intro d p i m K hd hp hT h4 hi hs hb
    have hlt : p < n := by
      refine Decidable.by_contra fun q => ?_
      rw [lkb, if_neg q] at hs
      revert hs
      decide
    have hl : lkb n w p = w p := if_pos hlt
    refine rg_X1_readAll_7 hG 9 (Int32.ofNat o) (Int32.ofNat i) ⟨fun c => absurd ((o_le (a := 60) (by decide) (by omega)).mp c) (by omega), fun _ => ⟨rfl, ?_⟩⟩
    refine c_isN hG hd hT hn hp (by decide) ⟨_, rfl, fun q => absurd ⟨h4, hs⟩ (b0 q), fun _ => ?_⟩
    rintro _ rfl
    unfold brC at hb
    have e : lkb n w p = 38 := hs
    rw [e] at hb
    exact hb.mono (fun v m' h => ⟨h.1, 16, rfl, rfl, h.2⟩)
  · intro d p i m K hd hp hT hs k
    have hno : ∀ c : Int32, (c = 38) → ¬ (m 9 4 = 0 ∧ lkb n w p = c) := fun c hc q => hs.elim (fun h => h q.1) (fun h => h (by rw [q.2]; exact hc))
    refine rg_X1_readAll_7 hG 9 (Int32.ofNat o) i ⟨fun _ => k, fun _ => ⟨rfl, ?_⟩⟩
    exact c_isN hG hd hT hn hp (by decide) ⟨_, rfl, fun _ => k, fun q => absurd (b1 q) (hno _ (by decide))⟩
  · intro d t a i p m K hd hp e6 e5 hs hb
    refine rg_X6_both_9 hG 75 ⟨rfl, ?_⟩
    refine c_look hG hd hx hp e6 e5 ⟨_, rfl, fun q => absurd hs q, fun _ => ?_⟩
    rintro _ rfl
    unfold brM at hb
    have e : lkb n w p = 38 := hs
    rw [e] at hb
    exact hb
  · intro d t a i p m K hd hp e6 e5 hs k
    refine rg_X6_both_9 hG 75 ⟨rfl, ?_⟩
    exact c_look hG hd hx hp e6 e5 ⟨_, rfl, fun _ => k, fun q => absurd (show lkb n w p = 38 from q) hs⟩
set_option maxHeartbeats 4000000 in
theorem sg_sum {c : Int32} (h : c = 43 ∨ c = 45) : sgOK c := by
  rcases h with rfl | rfl <;> simp [sgOK]
set_option maxHeartbeats 4000000 in
theorem H_sum (hG : fl G = false) (hx : psX n w u f) : psH G n w u f mX1_readSum mX6_sum mX1_readProduct mX6_product o (fun c => c = 43 ∨ c = 45) := by
  have hn := hx.1
  refine ⟨?_, ?_, ?_, ?_⟩
  · intro d p i m K hd hp hT h4 hi hs hb
    have hlt : p < n := by
      refine Decidable.by_contra fun q => ?_
      rw [lkb, if_neg q] at hs
      revert hs
      decide
    have hl : lkb n w p = w p := if_pos hlt
    refine rg_X1_readSum_7 hG 9 (Int32.ofNat o) (Int32.ofNat i) ⟨fun c => absurd ((o_le (a := 60) (by decide) (by omega)).mp c) (by omega), fun _ => ⟨rfl, ?_⟩⟩
    have hr : ∀ {m1 : Mem}, m1 = up2 m 9 3 (m 9 3 + 1) → Cal G mX1_readProduct d [.ref 9, .int (Int32.ofNat o)] SH (TA 1 (1003 + u) 16) m1 (fun v m2 => v = none ∧ ∃ i1, (TA 1 (1003 + u) 16) 9 2 = some i1 ∧ SH[i1]? = some (.inl 3) ∧ Cal G mX3_addSign d [.ref i1, .int (w p)] SH (TA 1 (1003 + u) 16) m2 (fun v m3 => v = none ∧ psWP G u mX1_readSum o d (Int32.ofNat i + 1) m3 K)) := by
      rintro _ rfl
      unfold brC at hb
      rw [hl] at hb
      exact hb.mono (fun v m' h => ⟨h.1, 16, rfl, rfl, h.2⟩)
    by_cases e0 : lkb n w p = 43
    · exact c_isN hG hd hT hn hp (by decide) ⟨_, rfl, fun _ => ⟨1, rfl, rfl, c_tapeAt hG (by omega) hT hn hlt ⟨_, rfl, fun _ e => hr e⟩⟩, fun q => absurd ⟨h4, e0⟩ (b0 q)⟩
    refine c_isN hG hd hT hn hp (by decide) ⟨_, rfl, fun q => absurd (b1 q).2 e0, fun _ => ?_⟩
    have e1 : lkb n w p = 45 := by
      rcases hs with h | h
      · exact absurd h e0
      · exact h
    exact c_isN hG hd hT hn hp (by decide) ⟨_, rfl, fun q => absurd ⟨h4, e1⟩ (b0 q), fun _ => ⟨1, rfl, rfl, c_tapeAt hG (by omega) hT hn hlt ⟨_, rfl, fun _ e => hr e⟩⟩⟩
  · intro d p i m K hd hp hT hs k
    have hno : ∀ c : Int32, (c = 43 ∨ c = 45) → ¬ (m 9 4 = 0 ∧ lkb n w p = c) := fun c hc q => hs.elim (fun h => h q.1) (fun h => h (by rw [q.2]; exact hc))
    refine rg_X1_readSum_7 hG 9 (Int32.ofNat o) i ⟨fun _ => k, fun _ => ⟨rfl, ?_⟩⟩
    refine c_isN hG hd hT hn hp (by decide) ⟨_, rfl, fun q => absurd (b1 q) (hno _ (by decide)), fun _ => ?_⟩
    exact c_isN hG hd hT hn hp (by decide) ⟨_, rfl, fun _ => k, fun q => absurd (b1 q) (hno _ (by decide))⟩
  · intro d t a i p m K hd hp e6 e5 hs hb
    refine rg_X6_sum_9 hG 75 ⟨rfl, ?_⟩
    refine c_look hG hd hx hp e6 e5 ⟨_, rfl, fun _ => c_look hG hd hx hp e6 e5 ⟨_, rfl, fun _ e => e ▸ hb⟩, fun n0 => ?_⟩
    refine c_look hG hd hx hp e6 e5 ⟨_, rfl, fun q => ?_, fun _ => c_look hG hd hx hp e6 e5 ⟨_, rfl, fun _ e => e ▸ hb⟩⟩
    rcases hs with h | h
    · exact absurd h n0
    · exact absurd h q
  · intro d t a i p m K hd hp e6 e5 hs k
    refine rg_X6_sum_9 hG 75 ⟨rfl, ?_⟩
    refine c_look hG hd hx hp e6 e5 ⟨_, rfl, fun q => absurd (show lkb n w p = 43 ∨ lkb n w p = 45 from by rw [q]; decide) hs, fun _ => ?_⟩
    exact c_look hG hd hx hp e6 e5 ⟨_, rfl, fun _ => k, fun q => absurd (show lkb n w p = 43 ∨ lkb n w p = 45 from by rw [q]; decide) hs⟩
set_option maxHeartbeats 4000000 in
theorem sg_prd {c : Int32} (h : c = 42 ∨ c = 47 ∨ c = 37) : sgOK c := by
  rcases h with rfl | rfl | rfl <;> simp [sgOK]
set_option maxHeartbeats 4000000 in
theorem H_prd (hG : fl G = false) (hx : psX n w u f) : psH G n w u f mX1_readProduct mX6_product mX1_readPart mX6_one o (fun c => c = 42 ∨ c = 47 ∨ c = 37) := by
  have hn := hx.1
  refine ⟨?_, ?_, ?_, ?_⟩
  · intro d p i m K hd hp hT h4 hi hs hb
    have hlt : p < n := by
      refine Decidable.by_contra fun q => ?_
      rw [lkb, if_neg q] at hs
      revert hs
      decide
    have hl : lkb n w p = w p := if_pos hlt
    refine rg_X1_readProduct_7 hG 9 (Int32.ofNat o) (Int32.ofNat i) ⟨fun c => absurd ((o_le (a := 60) (by decide) (by omega)).mp c) (by omega), fun _ => ⟨rfl, ?_⟩⟩
    have hr : ∀ {m1 : Mem}, m1 = up2 m 9 3 (m 9 3 + 1) → Cal G mX1_readPart d [.ref 9, .int (Int32.ofNat o)] SH (TA 1 (1003 + u) 16) m1 (fun v m2 => v = none ∧ ∃ i1, (TA 1 (1003 + u) 16) 9 2 = some i1 ∧ SH[i1]? = some (.inl 3) ∧ Cal G mX3_addSign d [.ref i1, .int (w p)] SH (TA 1 (1003 + u) 16) m2 (fun v m3 => v = none ∧ psWP G u mX1_readProduct o d (Int32.ofNat i + 1) m3 K)) := by
      rintro _ rfl
      unfold brC at hb
      rw [hl] at hb
      exact hb.mono (fun v m' h => ⟨h.1, 16, rfl, rfl, h.2⟩)
    by_cases e0 : lkb n w p = 42
    · exact c_isN hG hd hT hn hp (by decide) ⟨_, rfl, fun _ => ⟨1, rfl, rfl, c_tapeAt hG (by omega) hT hn hlt ⟨_, rfl, fun _ e => hr e⟩⟩, fun q => absurd ⟨h4, e0⟩ (b0 q)⟩
    refine c_isN hG hd hT hn hp (by decide) ⟨_, rfl, fun q => absurd (b1 q).2 e0, fun _ => ?_⟩
    by_cases e1 : lkb n w p = 47
    · exact c_isN hG hd hT hn hp (by decide) ⟨_, rfl, fun _ => ⟨1, rfl, rfl, c_tapeAt hG (by omega) hT hn hlt ⟨_, rfl, fun _ e => hr e⟩⟩, fun q => absurd ⟨h4, e1⟩ (b0 q)⟩
    refine c_isN hG hd hT hn hp (by decide) ⟨_, rfl, fun q => absurd (b1 q).2 e1, fun _ => ?_⟩
    have e2 : lkb n w p = 37 := by
      rcases hs with h | h | h
      · exact absurd h e0
      · exact absurd h e1
      · exact h
    exact c_isN hG hd hT hn hp (by decide) ⟨_, rfl, fun q => absurd ⟨h4, e2⟩ (b0 q), fun _ => ⟨1, rfl, rfl, c_tapeAt hG (by omega) hT hn hlt ⟨_, rfl, fun _ e => hr e⟩⟩⟩
  · intro d p i m K hd hp hT hs k
    have hno : ∀ c : Int32, (c = 42 ∨ c = 47 ∨ c = 37) → ¬ (m 9 4 = 0 ∧ lkb n w p = c) := fun c hc q => hs.elim (fun h => h q.1) (fun h => h (by rw [q.2]; exact hc))
    refine rg_X1_readProduct_7 hG 9 (Int32.ofNat o) i ⟨fun _ => k, fun _ => ⟨rfl, ?_⟩⟩
    refine c_isN hG hd hT hn hp (by decide) ⟨_, rfl, fun q => absurd (b1 q) (hno _ (by decide)), fun _ => ?_⟩
    refine c_isN hG hd hT hn hp (by decide) ⟨_, rfl, fun q => absurd (b1 q) (hno _ (by decide)), fun _ => ?_⟩
    exact c_isN hG hd hT hn hp (by decide) ⟨_, rfl, fun _ => k, fun q => absurd (b1 q) (hno _ (by decide))⟩
  · intro d t a i p m K hd hp e6 e5 hs hb
    refine rg_X6_product_9 hG 75 ⟨rfl, ?_⟩
    refine c_look hG hd hx hp e6 e5 ⟨_, rfl, fun _ => c_look hG hd hx hp e6 e5 ⟨_, rfl, fun _ e => e ▸ hb⟩, fun n0 => ?_⟩
    refine c_look hG hd hx hp e6 e5 ⟨_, rfl, fun _ => c_look hG hd hx hp e6 e5 ⟨_, rfl, fun _ e => e ▸ hb⟩, fun n1 => ?_⟩
    refine c_look hG hd hx hp e6 e5 ⟨_, rfl, fun q => ?_, fun _ => c_look hG hd hx hp e6 e5 ⟨_, rfl, fun _ e => e ▸ hb⟩⟩
    rcases hs with h | h | h
    · exact absurd h n0
    · exact absurd h n1
    · exact absurd h q
  · intro d t a i p m K hd hp e6 e5 hs k
    refine rg_X6_product_9 hG 75 ⟨rfl, ?_⟩
    refine c_look hG hd hx hp e6 e5 ⟨_, rfl, fun q => absurd (show lkb n w p = 42 ∨ lkb n w p = 47 ∨ lkb n w p = 37 from by rw [q]; decide) hs, fun _ => ?_⟩
    refine c_look hG hd hx hp e6 e5 ⟨_, rfl, fun q => absurd (show lkb n w p = 42 ∨ lkb n w p = 47 ∨ lkb n w p = 37 from by rw [q]; decide) hs, fun _ => ?_⟩
    exact c_look hG hd hx hp e6 e5 ⟨_, rfl, fun _ => k, fun q => absurd (show lkb n w p = 42 ∨ lkb n w p = 47 ∨ lkb n w p = 37 from by rw [q]; decide) hs⟩
end
section
variable {G : Gm} {n u o D : Nat} {w f : Nat → Int32}
set_option maxHeartbeats 4000000 in
theorem psp.cmp (hG : fl G = false) (hx : psX n w u f) (hD : 5 ≤ D) (hl : ∀ p, p ≤ n → psp G n w u f mX1_readSum mX6_sum o D p) : ∀ p, p ≤ n → psp G n w u f mX1_readCompared mX6_compared o (D + 1) p := by
  intro p hp
  have hn := hx.1
  obtain ⟨r1, w1, c1, m1⟩ := hl p hp
  have x0 := w1.2.1
  by_cases hs : r1.1 = true ∧ (lkb n w r1.2.1 = 60 ∨ lkb n w r1.2.1 = 61 ∨ lkb n w r1.2.1 = 62)
  · obtain ⟨hr, hs⟩ := hs
    have hlt : r1.2.1 < n := by
      refine Decidable.by_contra fun q => ?_
      rw [lkb, if_neg q] at hs
      revert hs
      decide
    have hl' : lkb n w r1.2.1 = w r1.2.1 := if_pos hlt
    obtain ⟨x1, x2, x3⟩ := w1.2.2 hr
    obtain ⟨r2, w2, c2, m2⟩ := hl (r1.2.1 + 1) (by omega)
    have y0 := w2.1
    have y1 := w2.2.1
    have ea : ∀ E : List (Int32 × Int32), E ++ r1.2.2 ++ r2.2.2 ++ [(3, lkb n w r1.2.1)] = E ++ (r1.2.2 ++ (r2.2.2 ++ [(3, lkb n w r1.2.1)])) := fun E => by simp only [List.append_assoc]
    refine ⟨(r2.1, r2.2.1, r1.2.2 ++ (r2.2.2 ++ [(3, lkb n w r1.2.1)])), ⟨by show p ≤ r2.2.1; omega, y1, fun q => ?_⟩, ?_, ?_⟩
    · have y := w2.2.2 q
      refine ⟨by show p < r2.2.1; omega, ?_, PFx.bin _ _ _ x3 y.2.2 (by rcases hs with e | e | e <;> rw [e] <;> simp [sgOK])⟩
      have := y.2.1
      show (r1.2.2 ++ (r2.2.2 ++ [(3, lkb n w r1.2.1)])).length + p ≤ r2.2.1
      simp only [List.length_append, List.length_cons, List.length_nil] at *
      omega
    · intro d m E K hd hE hm k
      obtain ⟨d, rfl⟩ : ∃ e, d = e + 1 := ⟨d - 1, by omega⟩
      refine Cal.of (by decide +kernel) rfl (Nat.le_of_ble_eq_true rfl) (rg_X1_readCompared_0 hG 9 (Int32.ofNat o) ⟨rfl, c1 d m E _ (by omega) hE hm fun m' hf h => ⟨rfl, ?_⟩⟩)
      have hP := h.1 hr
      have hb : ∀ {m1 : Mem}, m1 = up2 m' 9 3 (m' 9 3 + 1) → Cal G mX1_readSum d [.ref 9, .int (Int32.ofNat o)] SH (TA 1 (1003 + u) 16) m1 (fun v m2 => v = none ∧ ∃ i1, (TA 1 (1003 + u) 16) 9 2 = some i1 ∧ SH[i1]? = some (.inl 3) ∧ Cal G mX3_addSign d [.ref i1, .int (w r1.2.1)] SH (TA 1 (1003 + u) 16) m2 (fun v m3 => v = none ∧ K none m3)) := by
        rintro _ rfl
        rw [← hl']
        refine c2 d _ (E ++ r1.2.2) _ (by omega) (by rw [List.length_append]; omega) hP.inc fun m3 hf3 h3 => ⟨rfl, 16, rfl, rfl, ?_⟩
        cases hr2 : r2.1 with
        | false =>
          have hF := h3.2 hr2
          exact c_sgAdd hG (by omega) hF.2.2 fun m4 hf4 h0 _ => ⟨rfl, k m4 ((hf.tr (frA hf3)).tr (frB hf4)) ⟨fun q => absurd (q.symm.trans hr2) (by decide), fun _ => hF.fr hf4 h0⟩⟩
        | true =>
          have hQ := h3.1 hr2
          have hL : (E ++ r1.2.2 ++ r2.2.2).length < 60 := by
            have := (w2.2.2 hr2).2.1
            simp only [List.length_append] at *
            omega
          refine c_sgAdd hG (by omega) (by rw [hQ.2.2.1]; exact o_0 _ (by omega)) fun m4 hf4 _ e4 => ⟨rfl, k m4 ((hf.tr (frA hf3)).tr (frB hf4)) ⟨fun _ => ?_, fun q => absurd (q.symm.trans hr2) (by decide)⟩⟩
          have e5 := e4 _ hL hQ.2.2.1
          have := hQ.app (q := (3, lkb n w r1.2.1)) hf4 ⟨e5.1, by rw [psOf_sg]; exact e5.2.1, e5.2.2⟩
          rw [ea] at this
          exact this
      by_cases e0 : lkb n w r1.2.1 = 60
      · exact c_isN hG (by omega) hP.1 hn x0 (by decide) ⟨_, rfl, fun _ => ⟨1, rfl, rfl, c_tapeAt hG (by omega) hP.1 hn hlt ⟨_, rfl, fun _ e => hb e⟩⟩, fun q => absurd ⟨hP.2.1, e0⟩ (b0 q)⟩
      refine c_isN hG (by omega) hP.1 hn x0 (by decide) ⟨_, rfl, fun q => absurd (b1 q).2 e0, fun _ => ?_⟩
      by_cases e1 : lkb n w r1.2.1 = 61
      · exact c_isN hG (by omega) hP.1 hn x0 (by decide) ⟨_, rfl, fun _ => ⟨1, rfl, rfl, c_tapeAt hG (by omega) hP.1 hn hlt ⟨_, rfl, fun _ e => hb e⟩⟩, fun q => absurd ⟨hP.2.1, e1⟩ (b0 q)⟩
      refine c_isN hG (by omega) hP.1 hn x0 (by decide) ⟨_, rfl, fun q => absurd (b1 q).2 e1, fun _ => ?_⟩
      have e2 : lkb n w r1.2.1 = 62 := by
        rcases hs with h | h | h
        · exact absurd h e0
        · exact absurd h e1
        · exact h
      exact c_isN hG (by omega) hP.1 hn x0 (by decide) ⟨_, rfl, fun q => absurd ⟨hP.2.1, e2⟩ (b0 q), fun _ => ⟨1, rfl, rfl, c_tapeAt hG (by omega) hP.1 hn hlt ⟨_, rfl, fun _ e => hb e⟩⟩⟩
    · intro d t a i m E K hd hE hm k
      obtain ⟨d, rfl⟩ : ∃ e, d = e + 1 := ⟨d - 1, by omega⟩
      refine Cal.of (by decide +kernel) rfl (Nat.le_of_ble_eq_true rfl) (rg_X6_compared_0 hG 75 ⟨rfl, m1 d t a i m E _ (by omega) hE hm fun m' hf h => ⟨_, rfl, fun _ => ?_, fun q => absurd q (by rw [hr]; decide)⟩⟩)
      have hP := h.1 hr
      have hb : ∀ {m1 : Mem}, m1 = up2 m' 75 5 (m' 75 5 + 1) → Cal G mX6_sum d [.ref 75] SH (TA t a i) m1 (fun v m2 => ∃ r, v = some (.int r) ∧ ((¬ r = 0 → Cal G mX6_step1 d [.ref 75, .int 3, .int (lkb n w r1.2.1)] SH (TA t a i) m2 (fun v m3 => v = none ∧ K (some (.int 1)) m3)) ∧ (r = 0 → K (some (.int 0)) m2))) := by
        rintro _ rfl
        refine m2 d t a i _ (E ++ r1.2.2) _ (by omega) (by rw [List.length_append]; omega) hP.inc fun m3 hf3 h3 => ⟨_, rfl, fun q => ?_, fun q => ?_⟩
        · have hr2 : r2.1 = true := b1 q
          have hQ := h3.1 hr2
          have hL : (E ++ r1.2.2 ++ r2.2.2).length < 60 := by
            have := (w2.2.2 hr2).2.1
            simp only [List.length_append] at *
            omega
          refine c_step1 hG (by omega) hQ hL fun m4 hf4 h4 => ⟨rfl, ?_⟩
          rw [ea] at h4
          exact kv (k m4 ((hf.tr (qfA hf3)).tr hf4) ⟨fun _ => h4, fun q => absurd (q.symm.trans hr2) (by decide)⟩) (by show (1 : Int32) = if r2.1 = true then 1 else 0; rw [hr2]; rfl)
        · have hr2 : ¬ r2.1 = true := b0 q
          exact kv (k m3 (hf.tr (qfA hf3)) ⟨fun q => absurd q hr2, h3.2⟩) (by show (0 : Int32) = if r2.1 = true then 1 else 0; rw [if_neg hr2])
      refine c_look hG (by omega) hx x0 hP.1 hP.2.1 ⟨_, rfl, fun _ m e => hb e, fun n0 => ⟨fun _ m e => hb e, fun n1 => ⟨fun _ m e => hb e, fun n2 => ?_⟩⟩⟩
      rcases hs with h | h | h
      · exact absurd h n0
      · exact absurd h n1
      · exact absurd h n2
  · refine ⟨r1, w1, ?_, ?_⟩
    · intro d m E K hd hE hm k
      obtain ⟨d, rfl⟩ : ∃ e, d = e + 1 := ⟨d - 1, by omega⟩
      refine Cal.of (by decide +kernel) rfl (Nat.le_of_ble_eq_true rfl) (rg_X1_readCompared_0 hG 9 (Int32.ofNat o) ⟨rfl, c1 d m E _ (by omega) hE hm fun m' hf h => ⟨rfl, ?_⟩⟩)
      have hT : psT n w r1.2.1 m' := by
        cases hr : r1.1 with
        | true => exact (h.1 hr).1
        | false => exact (h.2 hr).1
      have hno : ∀ c : Int32, (c = 60 ∨ c = 61 ∨ c = 62) → ¬ (m' 9 4 = 0 ∧ lkb n w r1.2.1 = c) := by
        intro c hc q
        cases hr : r1.1 with
        | true => exact hs ⟨hr, by rw [q.2]; exact hc⟩
        | false => exact (h.2 hr).2.1 q.1
      refine c_isN hG (by omega) hT hn x0 (by decide) ⟨_, rfl, fun q => absurd (b1 q) (hno _ (by decide)), fun _ => ?_⟩
      refine c_isN hG (by omega) hT hn x0 (by decide) ⟨_, rfl, fun q => absurd (b1 q) (hno _ (by decide)), fun _ => ?_⟩
      exact c_isN hG (by omega) hT hn x0 (by decide) ⟨_, rfl, fun _ => k m' hf h, fun q => absurd (b1 q) (hno _ (by decide))⟩
    · intro d t a i m E K hd hE hm k
      obtain ⟨d, rfl⟩ : ∃ e, d = e + 1 := ⟨d - 1, by omega⟩
      refine Cal.of (by decide +kernel) rfl (Nat.le_of_ble_eq_true rfl) (rg_X6_compared_0 hG 75 ⟨rfl, m1 d t a i m E _ (by omega) hE hm fun m' hf h => ⟨_, rfl, fun q => ?_, fun q => ?_⟩⟩)
      · have hr : r1.1 = true := b1 q
        have hP := h.1 hr
        have kk := kv (b := 1) (k m' hf h) (by rw [hr]; rfl)
        exact c_look hG (by omega) hx x0 hP.1 hP.2.1 ⟨_, rfl, fun e => absurd ⟨hr, Or.inl e⟩ hs, fun _ => ⟨fun e => absurd ⟨hr, Or.inr (Or.inl e)⟩ hs, fun _ => ⟨fun e => absurd ⟨hr, Or.inr (Or.inr e)⟩ hs, fun _ => kk⟩⟩⟩
      · exact kv (k m' hf h) q.symm
set_option maxHeartbeats 4000000 in
theorem psp.up {D' p : Nat} {y1 y2 : Mi} (h : D ≤ D') (g : psp G n w u f y1 y2 o D p) : psp G n w u f y1 y2 o D' p := by
  obtain ⟨r, a, b, c⟩ := g
  exact ⟨r, a, fun d m E K hd => b d m E K (Nat.le_trans h hd), fun d t a i m E K hd => c d t a i m E K (Nat.le_trans h hd)⟩
end

