-- 75.joins
set_option maxHeartbeats 4000000 in
theorem if_r {P : Prop} [Decidable P] {a : Int32} {B : Int32 × Int32} (h : B.1 = 0 ∨ (1 ≤ B.1 ∧ B.1 ≤ 6)) : (if P then (0, a) else B).1 = 0 ∨ (1 ≤ (if P then (0, a) else B).1 ∧ (if P then (0, a) else B).1 ≤ 6) := by
  split
  · exact Or.inl rfl
  · exact h
set_option maxHeartbeats 4000000 in
theorem lkS_r {g : Nat → Int32} {x : Int32} (h : lkS g x ≠ 0) : 1 ≤ lkS g x ∧ lkS g x ≤ 6 := by
  have := lkS_n h
  refine ⟨this.1, ?_⟩
  have a := Int32.lt_iff_toInt_lt.mp this.2
  rw [Int32.le_iff_toInt_le, show (6 : Int32).toInt = 6 from rfl]
  rw [show (7 : Int32).toInt = 7 from rfl] at a
  omega
set_option maxHeartbeats 4000000 in
theorem pls_ok {w : Nat → Int32} : ∀ (k c : Nat) (f : Nat → Int32), WF f → (∀ j, c ≤ j → j < c + k → 1 ≤ w j ∧ w j ≤ 15) → WF (pls w f c k) ∧ (∀ i : Nat, 168 ≤ i → pls w f c k i = f i) ∧ rd (pls w f c k) 5 = rd f 5 ∧ rd (pls w f c k) 6 = rd f 6 ∧ rd (pls w f c k) 7 = rd f 7 := by
  intro k
  induction k with
  | zero => intro c f h _; exact ⟨h, fun _ _ => rfl, rfl, rfl, rfl⟩
  | succ k ih =>
    intro c f h hw
    have hp := pul_ok h (hw c (Nat.le_refl _) (by omega))
    have r := ih (c + 1) (pulA f (w c)) hp.1 (fun j a b => hw j (by omega) (by omega))
    simp only [pls]
    exact ⟨r.1, fun i hi => by rw [r.2.1 i hi, hp.2.2.1 i hi], by rw [r.2.2.1, hp.2.2.2.1 5 (by decide) (by decide) (by decide) (by decide)], by rw [r.2.2.2.1, hp.2.2.2.1 6 (by decide) (by decide) (by decide) (by decide)], by rw [r.2.2.2.2, hp.2.2.2.1 7 (by decide) (by decide) (by decide) (by decide)]⟩
section
variable {G : Gm} {d t n i : Nat} {m : Mem} {x y z c b : Int32}
set_option maxHeartbeats 4000000 in
theorem J_thingIs (hG : fl G = false) (hd : 20 ≤ d) (hV : jV m) : JJ G d t n i mX5_thingIs mX6_thingIs [.int x, .int y] m := by
  obtain ⟨⟨hb, ht, hw⟩, -, -, -⟩ := hV.1
  refine JJ.ans (L1 := [36, 39, 40, 43]) (L2 := [81, 82]) (R := tiR (m 76) x y) hV (by decide) (by decide) ?_ (fun K k => c_X5_thingIs hG hd hb ht hw k) (fun m1 K h k => c_X6_thingIs hG hd (by rw [h 76 (by decide)]; exact hw) (by rw [h 76 (by decide)]; exact k))
  unfold tiR
  repeat' split
  all_goals first | exact Or.inl rfl | exact Or.inr (by decide)
set_option maxHeartbeats 4000000 in
theorem J_cellIs (hG : fl G = false) (hd : 20 ≤ d) (hV : jV m) : JJ G d t n i mX5_cellIs mX6_cellIs [.int x, .int y] m := by
  obtain ⟨⟨hb, ht, hw⟩, -, -, -⟩ := hV.1
  refine JJ.ans (L1 := [36, 39, 40, 43]) (L2 := [81, 82]) (R := ciR (m 76) x y) hV (by decide) (by decide) ?_ (fun K k => c_X5_cellIs hG hd hb ht hw k) (fun m1 K h k => c_X6_cellIs hG hd (by rw [h 76 (by decide)]; exact hw) (by rw [h 76 (by decide)]; exact k))
  unfold ciR
  repeat' split
  all_goals first | exact Or.inl rfl | exact Or.inr (by decide)
set_option maxHeartbeats 4000000 in
theorem J_as (hG : fl G = false) (hd : 20 ≤ d) (hV : jV m) : JJ G d t n i mX5_as mX6_as [.int x, .int y] m := by
  obtain ⟨⟨hb, ht, hw⟩, -, -, -⟩ := hV.1
  refine JJ.ans (L1 := []) (L2 := []) (R := asR (m 76) x y) hV (by decide) (by decide) ?_ (fun K k => c_X5_as hG hd hb hw k) (fun m1 K h k => c_X6_as hG hd (by rw [h 76 (by decide)]; exact hw) (by rw [h 76 (by decide)]; exact k))
  unfold asR
  repeat' split
  all_goals first | exact Or.inl rfl | exact Or.inr (by decide)
set_option maxHeartbeats 4000000 in
theorem snA_r {f : Nat → Int32} {y : Int32} : ∀ (k c : Nat), (snA f y c k).1 = 0 ∨ (1 ≤ (snA f y c k).1 ∧ (snA f y c k).1 ≤ 6) := by
  intro k
  induction k with
  | zero =>
    intro c
    refine Or.inr ⟨?_, ?_⟩
    · show (1 : Int32) ≤ 2
      decide
    · show (2 : Int32) ≤ 6
      decide
  | succ k ih =>
    intro c
    rw [snA]
    split
    · exact ih _
    · exact Or.inl rfl
set_option maxHeartbeats 4000000 in
theorem J_seen (hG : fl G = false) (hd : 20 ≤ d) (hV : jV m) : JJ G d t n i mX5_seen mX6_seen [.int x, .int y] m := by
  obtain ⟨⟨hb, ht, hw⟩, -, -, -⟩ := hV.1
  refine JJ.ans (L1 := []) (L2 := []) (R := snR (m 76) x y) hV (by decide) (by decide) ?_ (fun K k => c_X5_seen hG hd hb hw k) (fun m1 K h k => c_X6_seen hG hd (by rw [h 76 (by decide)]; exact hw) (by rw [h 76 (by decide)]; exact k))
  unfold snR
  split
  · split
    · exact snA_r _ _
    · exact Or.inr (by decide)
  · exact Or.inr (by decide)
set_option maxHeartbeats 4000000 in
theorem J_fill (hG : fl G = false) (hd : 20 ≤ d) (hV : jV m) : JJ G d t n i mX5_fill mX6_fill [.int y] m := by
  obtain ⟨⟨hb, ht, hw⟩, -, -, -⟩ := hV.1
  refine JJ.ans (L1 := []) (L2 := []) (R := flR (m 76) y) hV (by decide) (by decide) ?_ (fun K k => c_X5_fill hG hd hb hw k) (fun m1 K h k => c_X6_fill hG hd (by rw [h 76 (by decide)]; exact k))
  unfold flR
  repeat' split
  all_goals first | exact Or.inl rfl | exact Or.inr (by decide)
set_option maxHeartbeats 4000000 in
theorem J_told (hG : fl G = false) (hd : 20 ≤ d) (hV : jV m) : JJ G d t n i mX5_told mX6_told [.int x] m := by
  refine JJ.ans (L1 := []) (L2 := []) (R := tdR (m 79) x) hV (by decide) (by decide) ?_ (fun K k => c_X5_told hG hd hV.2.2.2.1 k) (fun m1 K h k => c_X6_told hG hd (by rw [h 79 (by decide)]; exact k))
  unfold tdR
  repeat' split
  all_goals first | exact Or.inl rfl | exact Or.inr (by decide)
set_option maxHeartbeats 4000000 in
theorem J_count (hG : fl G = false) (hd : 20 ≤ d) (hV : jV m) : JJ G d t n i mX5_count mX6_count [.int x] m := by
  obtain ⟨⟨hb, ht, hw⟩, h13, hta, hwa⟩ := hV.1
  obtain ⟨N, hN, e75, e21, -⟩ := hV.2.2.2.2
  refine JJ.ans (L1 := []) (L2 := []) (R := cnR (m 76) (m 75 15) x) hV (by decide) (by decide) ?_ (fun K k => c_X5_count hG hd hb hw h13 hta.1 hwa.1.1 (by rw [e21, e75]) k) (fun m1 K h k => c_X6_count hG hd (by rw [h 76 (by decide)]; exact hw) (by rw [h 76 (by decide), h 75 (by decide)]; exact k))
  unfold cnR
  exact if_r (if_r (if_r (if_r (if_r (if_r (if_r (if_r (if_r (if_r (if_r (if_r (Or.inr (by decide)))))))))))))
set_option maxHeartbeats 4000000 in
theorem J_body (hG : fl G = false) (hd : 20 ≤ d) (hV : jV m) : JJ G d t n i mX5_body mX6_body [.int x] m := by
  obtain ⟨N, hN, e75, e21, e22⟩ := hV.2.2.2.2
  refine JJ.ans (L1 := []) (L2 := []) (R := bdR (m 84) N x) hV (by decide) (by decide) ?_ (fun K k => c_X5_body hG hd hN e21 e22 k) (fun m1 K h k => c_X6_body hG hd hN (by rw [h 75 (by decide)]; exact e75) (by rw [h 84 (by decide)]; exact k))
  unfold bdR
  repeat' split
  all_goals first | exact Or.inl rfl | exact Or.inr (by decide)
set_option maxHeartbeats 4000000 in
theorem J_judge (hG : fl G = false) (hd : 20 ≤ d) (hV : jV m) : JJ G d t n i mX5_judge mX6_judge [.int x, .int y] m := by
  obtain ⟨⟨hb, ht, hw⟩, -, -, -⟩ := hV.1
  obtain ⟨hs, hz, -⟩ := hV.2.2.1
  refine JJ.ans (L1 := []) (L2 := []) (R := jgR (m 85) (m 86) (m 87) (m 76) x y) hV (by decide) (by decide) ?_ (fun K k => c_X5_judge hG hd hs hz hb hw k) (fun m1 K h k => c_X6_judge hG hd (by rw [h 86 (by decide)]; exact hz) (by rw [h 76 (by decide)]; exact hw) (by rw [h 76 (by decide), h 85 (by decide), h 86 (by decide), h 87 (by decide)]; exact k))
  unfold jgR
  split
  · split
    · exact Or.inl rfl
    · rename_i h; exact Or.inr (lkS_r h)
  · exact Or.inr (by decide)
set_option maxHeartbeats 4000000 in
theorem J_springs (hG : fl G = false) (hd : 20 ≤ d) (hV : jV m) : JJ G d t n i mX5_springs mX6_springs [.int x, .int y] m := by
  obtain ⟨⟨hb, ht, hw⟩, -, -, -⟩ := hV.1
  obtain ⟨hs, hz, -⟩ := hV.2.2.1
  refine JJ.ans (L1 := []) (L2 := []) (R := sgR (m 85) (m 86) (m 87) (m 76) x y) hV (by decide) (by decide) ?_ (fun K k => c_X5_springs hG hd hs hz hb k) (fun m1 K h k => c_X6_springs hG hd (by rw [h 86 (by decide)]; exact hz) (by rw [h 76 (by decide)]; exact hw) (by rw [h 76 (by decide), h 85 (by decide), h 86 (by decide), h 87 (by decide)]; exact k))
  unfold sgR
  split
  · split
    · repeat' split
      all_goals first | exact Or.inl rfl | exact Or.inr (by decide)
    · rename_i h; exact Or.inr (lkS_r h)
  · exact Or.inr (by decide)
set_option maxHeartbeats 4000000 in
theorem J_haul (hG : fl G = false) (hd : 20 ≤ d) (hV : jV m) : JJ G d t n i mX5_haul mX6_haul [.int x] m := by
  obtain ⟨⟨hb, ht, hw⟩, -, -, -⟩ := hV.1
  obtain ⟨hs, hz, -⟩ := hV.2.2.1
  refine JJ.ans (L1 := [36, 39, 40, 43, 67, 68, 69, 70, 71, 72, 73, 74]) (L2 := [78, 81, 82]) (R := haR (m 85) (m 86) (m 87) x (m 76)) hV (by decide) (by decide) ?_ (fun K k => c_X5_haul hG (by omega) hs hz hb ht hw k) (fun m1 K h k => c_X6_haul hG (by omega) (by rw [h 86 (by decide)]; exact hz) (by rw [h 76 (by decide)]; exact hw) (by rw [h 76 (by decide), h 85 (by decide), h 86 (by decide), h 87 (by decide)]; exact k))
  unfold haR
  split
  · exact Or.inl rfl
  · rename_i h; exact Or.inr (lkS_r h)
set_option maxHeartbeats 4000000 in
theorem J_changed (hG : fl G = false) (hd : 20 ≤ d) (hV : jV m) : JJ G d t n i mX5_changed mX6_changed [.int x] m := by
  obtain ⟨⟨hb, ht, hw⟩, -, -, -⟩ := hV.1
  obtain ⟨hs, hz, -⟩ := hV.2.2.1
  refine JJ.ans (L1 := [36, 39, 40, 43, 67, 68, 69, 70, 71, 72, 73, 74]) (L2 := [78, 81, 82]) (R := chR (m 85) (m 86) (m 87) x (m 76)) hV (by decide) (by decide) ?_ (fun K k => c_X5_changed hG (by omega) hs hz hb ht hw k) (fun m1 K h k => c_X6_changed hG (by omega) (by rw [h 86 (by decide)]; exact hz) (by rw [h 76 (by decide)]; exact hw) (by rw [h 76 (by decide), h 85 (by decide), h 86 (by decide), h 87 (by decide)]; exact k))
  unfold chR
  split
  · split
    · exact Or.inr (by decide)
    · exact Or.inl rfl
  · rename_i h; exact Or.inr (lkS_r h)
set_option maxHeartbeats 4000000 in
theorem J_fewest (hG : fl G = false) (hd : 20 ≤ d) (hV : jV m) : JJ G d t n i mX5_fewest mX6_fewest [.int x, .int y, .int z] m := by
  obtain ⟨⟨hb, ht, hw⟩, -, -, -⟩ := hV.1
  refine JJ.ans (L1 := [33, 36, 39, 40, 43, 67, 68, 69, 70, 71, 72, 73, 74]) (L2 := [78, 81, 82, 83]) (R := fewR x y z (m 76)) hV (by decide) (by decide) ?_ (fun K k => c_X5_fewest hG (by omega) hb ht hw k) (fun m1 K h k => c_X6_fewest hG (by omega) (by rw [h 76 (by decide)]; exact hw) (by rw [h 76 (by decide)]; exact k))
  unfold fewR
  split
  · split
    · split
      · split
        · unfold fwV
          repeat' split
          all_goals first | exact Or.inl rfl | exact Or.inr (by decide)
        · exact Or.inr (by decide)
      · exact Or.inr (by decide)
    · exact Or.inr (by decide)
  · exact Or.inr (by decide)
set_option maxHeartbeats 4000000 in
theorem J_game (hG : fl G = false) (hd : 20 ≤ d) (hV : jV m) : JJ G d t n i mX5_game mX6_game [.int x, .int y] m := by
  have hV' := hV
  obtain ⟨⟨hb, ht, hw⟩, -, -, -⟩ := hV.1
  refine c_X5_game hG (by omega) hb ht hw (fun q m1 hf => ⟨_, rfl, c_X6_game hG (by omega) (by rw [hf 76 (by decide)]; exact hw) ⟨fun _ m2 hf2 h13 => ⟨by rw [hf 76 (by decide)], ?_⟩, fun o => absurd q o⟩⟩) (fun q => ⟨_, rfl, c_X6_game hG (by omega) (by rw [set1_ne (by decide)]; exact hw) ⟨fun o => absurd o q, fun _ => ⟨rfl, ?_⟩⟩⟩)
  · have e75 : m1 75 = m 75 := hf 75 (by decide)
    exact hV'.fr ((hf.mo (by decide)).tr (hf2.mo (by decide))) (by rw [h13 3 (by decide), e75]) (by rw [h13 15 (by decide), e75])
  · exact hV'.e2 (by decide) Fr.rf Fr.rf (by rw [set1_ne (by decide)]) (by rw [set1_ne (by decide)])
set_option maxHeartbeats 4000000 in
theorem J_lay (hG : fl G = false) (hd : 20 ≤ d) (hV : jV m) : JJ G d t n i mX5_lay mX6_lay [.int x, .int y] m := by
  obtain ⟨⟨hb, ht, hw⟩, h13, -, -⟩ := hV.1
  refine JJ.box (R := lyR (m 76) x y) (g := lyA (m 76) x y) hV ?_ ?_ (fun K k => c_X5_lay hG hd hb hw h13 k) (fun m1 K h k => c_X6_lay hG hd (by rw [h 76 (by decide)]; exact hw) (by rw [h 76 (by decide)]; exact k))
  · unfold lyR
    repeat' split
    all_goals first | exact Or.inl rfl | exact Or.inr (by decide)
  · unfold lyR
    split
    · split
      · split
        · split
          · rename_i q1 q2 q3 q4
            intro _
            have := lyA_ok hw q3 q1 q2 q4
            exact ⟨this.1, this.2.2.1, this.2.2.2 5 (by decide) (by decide), this.2.2.2 6 (by decide) (by decide)⟩
          · intro e; exact absurd e (by decide)
        · intro e; exact absurd e (by decide)
      · intro e; exact absurd e (by decide)
    · intro e; exact absurd e (by decide)
set_option maxHeartbeats 4000000 in
theorem J_set (hG : fl G = false) (hd : 20 ≤ d) (hV : jV m) : JJ G d t n i mX5_set mX6_set [.int x, .int y, .int z] m := by
  obtain ⟨⟨hb, ht, hw⟩, h13, -, -⟩ := hV.1
  refine JJ.box (R := seR (m 76) x y z) (g := seA (m 76) x y z) hV ?_ ?_ (fun K k => c_X5_set hG hd hb hw h13 k) (fun m1 K h k => c_X6_set hG hd (by rw [h 76 (by decide)]; exact hw) (by rw [h 76 (by decide)]; exact k))
  · unfold seR
    repeat' split
    all_goals first | exact Or.inl rfl | exact Or.inr (by decide)
  · unfold seR
    split
    · split
      · split
        · rename_i q1 q2 q3
          intro _
          have := seA_ok (f := m 76) (z := z) ⟨q1.1, Int32.lt_of_lt_of_le q1.2 hw.1.1.2⟩ q2
          exact ⟨seA_wf hw q1 q2 q3, this.2.2.2, this.2.2.1 5 (by decide) (by decide), this.2.2.1 6 (by decide) (by decide)⟩
        · intro e; exact absurd e (by decide)
      · intro e; exact absurd e (by decide)
    · intro e; exact absurd e (by decide)
set_option maxHeartbeats 4000000 in
theorem J_out (hG : fl G = false) (hd : 20 ≤ d) (hV : jV m) : JJ G d t n i mX5_out mX6_out [.int x] m := by
  obtain ⟨⟨hb, ht, hw⟩, h13, -, -⟩ := hV.1
  refine JJ.box (R := ouR (m 76) x) (g := takA (m 76) x (-2)) hV ?_ ?_ (fun K k => c_X5_out hG hd hb hw h13 k) (fun m1 K h k => c_X6_out hG hd (by rw [h 76 (by decide)]; exact hw) (by rw [h 76 (by decide)]; exact k))
  · unfold ouR
    repeat' split
    all_goals first | exact Or.inl rfl | exact Or.inr (by decide)
  · unfold ouR
    split
    · split
      · rename_i q1 q2
        intro _
        have hT := takA_ok (to := -2) hw.1 hw.2.1 q1 q2
        exact ⟨hT.wf hw q1 q2 (Or.inr rfl), hT.2.1, hT.1 5 (by decide) (by decide), hT.1 6 (by decide) (by decide)⟩
      · intro e; exact absurd e (by decide)
    · intro e; exact absurd e (by decide)
set_option maxHeartbeats 4000000 in
theorem J_back (hG : fl G = false) (hd : 20 ≤ d) (hV : jV m) : JJ G d t n i mX5_back mX6_back [.int x, .int y] m := by
  obtain ⟨⟨hb, ht, hw⟩, h13, -, -⟩ := hV.1
  refine JJ.box (R := baR (m 76) x y) (g := layA (m 76) x y) hV ?_ ?_ (fun K k => c_X5_back hG hd hb hw h13 k) (fun m1 K h k => c_X6_back hG hd (by rw [h 76 (by decide)]; exact hw) (by rw [h 76 (by decide)]; exact k))
  · unfold baR
    repeat' split
    all_goals first | exact Or.inl rfl | exact Or.inr (by decide)
  · unfold baR
    split
    · split
      · split
        · split
          · rename_i q1 q2 q3 q4
            intro _
            have c0 : 0 ≤ y ∧ y ≤ 15 := ⟨Int32.le_trans (by decide) q2.1, q2.2⟩
            have hL := layA_ok (f := m 76) ⟨q1.1, Int32.lt_of_lt_of_le q1.2 hw.1.1.2⟩ c0 ⟨(hw.2.1 y c0.1 c0.2).1.1, q4⟩
            exact ⟨hL.wf hw q1 q3 q2 q4, hL.2.1, hL.1 5 (by decide) (by decide), hL.1 6 (by decide) (by decide)⟩
          · intro e; exact absurd e (by decide)
        · intro e; exact absurd e (by decide)
      · intro e; exact absurd e (by decide)
    · intro e; exact absurd e (by decide)
set_option maxHeartbeats 4000000 in
theorem num_ok {f : Nat → Int32} {j : Nat} {v : Int32} (w : WF f) (h1 : 1 ≤ j) (h2 : j < 8) (h5 : j ≠ 5) (h6 : j ≠ 6) (hn : WN (wr f (Int32.ofNat j) v)) : WF (wr f (Int32.ofNat j) v) ∧ (∀ i : Nat, 168 ≤ i → wr f (Int32.ofNat j) v i = f i) ∧ rd (wr f (Int32.ofNat j) v) 5 = rd f 5 ∧ rd (wr f (Int32.ofNat j) v) 6 = rd f 6 := by
  have E : NumE f (wr f (Int32.ofNat j) v) := wr_num h1 h2
  have r5 := rd_num (f := f) (j := j) (k := 5) (x := v) h2 (by decide)
  have r6 := rd_num (f := f) (j := j) (k := 6) (x := v) h2 (by decide)
  rw [if_neg (fun e => h5 e.symm)] at r5
  rw [if_neg (fun e => h6 e.symm)] at r6
  exact ⟨E.wf w hn, fun i hi => E i (Or.inr (by omega)), r5, r6⟩
set_option maxHeartbeats 4000000 in
theorem J_spring (hG : fl G = false) (hd : 20 ≤ d) (hV : jV m) : JJ G d t n i mX5_spring mX6_spring [.int x, .int y] m := by
  obtain ⟨⟨hb, ht, hw⟩, h13, -, -⟩ := hV.1
  refine JJ.box (R := spR (m 76) x y) (g := spG (m 76) x y) hV ?_ ?_ (fun K k => c_X5_spring hG hd hb hw h13 k) (fun m1 K h k => c_X6_spring hG hd (by rw [h 76 (by decide)]; exact k))
  · unfold spR
    repeat' split
    all_goals first | exact Or.inl rfl | exact Or.inr (by decide)
  · have a := hw.2.2.1
    have r : ∀ (j k : Nat) (v : Int32), j < 8 → k < 8 → rd (wr (m 76) (Int32.ofNat j) v) (Int32.ofNat k) = if k = j then v else rd (m 76) (Int32.ofNat k) := fun j k v h1 h2 => rd_num h1 h2
    unfold spR spG
    split
    · rename_i q
      intro _
      rw [if_pos q.1]
      refine num_ok (j := 3) hw (by decide) (by decide) (by decide) (by decide) ?_
      unfold WN at a ⊢
      rw [show rd (wr (m 76) (Int32.ofNat 3) y) 1 = rd (m 76) 1 from r 3 1 y (by decide) (by decide), show rd (wr (m 76) (Int32.ofNat 3) y) 2 = rd (m 76) 2 from r 3 2 y (by decide) (by decide), show rd (wr (m 76) (Int32.ofNat 3) y) 3 = y from r 3 3 y (by decide) (by decide), show rd (wr (m 76) (Int32.ofNat 3) y) 4 = rd (m 76) 4 from r 3 4 y (by decide) (by decide), show rd (wr (m 76) (Int32.ofNat 3) y) 5 = rd (m 76) 5 from r 3 5 y (by decide) (by decide), show rd (wr (m 76) (Int32.ofNat 3) y) 6 = rd (m 76) 6 from r 3 6 y (by decide) (by decide)]
      exact ⟨a.1, a.2.1, q.2, a.2.2.2⟩
    · split
      · rename_i q0 q
        intro _
        rw [if_neg (fun o => by rw [q.1] at o; exact absurd o (by decide))]
        refine num_ok (j := 4) hw (by decide) (by decide) (by decide) (by decide) ?_
        unfold WN at a ⊢
        rw [show rd (wr (m 76) (Int32.ofNat 4) y) 1 = rd (m 76) 1 from r 4 1 y (by decide) (by decide), show rd (wr (m 76) (Int32.ofNat 4) y) 2 = rd (m 76) 2 from r 4 2 y (by decide) (by decide), show rd (wr (m 76) (Int32.ofNat 4) y) 3 = rd (m 76) 3 from r 4 3 y (by decide) (by decide), show rd (wr (m 76) (Int32.ofNat 4) y) 4 = y from r 4 4 y (by decide) (by decide), show rd (wr (m 76) (Int32.ofNat 4) y) 5 = rd (m 76) 5 from r 4 5 y (by decide) (by decide), show rd (wr (m 76) (Int32.ofNat 4) y) 6 = rd (m 76) 6 from r 4 6 y (by decide) (by decide)]
        exact ⟨a.1, a.2.1, a.2.2.1, q.2, a.2.2.2.2⟩
      · intro e; exact absurd e (by decide)
set_option maxHeartbeats 4000000 in
theorem J_wind (hG : fl G = false) (hd : 20 ≤ d) (hV : jV m) : JJ G d t n i mX5_wind mX6_wind [] m := by
  obtain ⟨⟨hb, ht, hw⟩, h13, -, -⟩ := hV.1
  refine JJ.box (R := (0, rd (m 76) 2)) (g := wr (m 76) 2 0) hV (Or.inl rfl) (fun _ => ?_) (fun K k => c_X5_wind hG hd hb hw h13 k) (fun m1 K h k => c_X6_wind hG hd (by rw [h 76 (by decide)]; exact k))
  have a := hw.2.2.1
  have r : ∀ (j k : Nat) (v : Int32), j < 8 → k < 8 → rd (wr (m 76) (Int32.ofNat j) v) (Int32.ofNat k) = if k = j then v else rd (m 76) (Int32.ofNat k) := fun j k v h1 h2 => rd_num h1 h2
  refine num_ok (j := 2) hw (by decide) (by decide) (by decide) (by decide) ?_
  unfold WN at a ⊢
  rw [show rd (wr (m 76) (Int32.ofNat 2) 0) 1 = rd (m 76) 1 from r 2 1 0 (by decide) (by decide), show rd (wr (m 76) (Int32.ofNat 2) 0) 2 = 0 from r 2 2 0 (by decide) (by decide), show rd (wr (m 76) (Int32.ofNat 2) 0) 3 = rd (m 76) 3 from r 2 3 0 (by decide) (by decide), show rd (wr (m 76) (Int32.ofNat 2) 0) 4 = rd (m 76) 4 from r 2 4 0 (by decide) (by decide), show rd (wr (m 76) (Int32.ofNat 2) 0) 5 = rd (m 76) 5 from r 2 5 0 (by decide) (by decide), show rd (wr (m 76) (Int32.ofNat 2) 0) 6 = rd (m 76) 6 from r 2 6 0 (by decide) (by decide)]
  exact ⟨a.1, by decide, a.2.2⟩
set_option maxHeartbeats 4000000 in
theorem J_seed (hG : fl G = false) (hd : 20 ≤ d) (hV : jV m) : JJ G d t n i mX5_seed mX6_seed [.int x] m := by
  obtain ⟨⟨hb, ht, hw⟩, h13, -, -⟩ := hV.1
  refine JJ.box (R := (0, rd (m 76) 7)) (g := wr (m 76) 7 x) hV (Or.inl rfl) (fun _ => ?_) (fun K k => c_X5_seed hG hd hb hw h13 k) (fun m1 K h k => c_X6_seed hG hd (by rw [h 76 (by decide)]; exact k))
  have a := hw.2.2.1
  have r : ∀ (j k : Nat) (v : Int32), j < 8 → k < 8 → rd (wr (m 76) (Int32.ofNat j) v) (Int32.ofNat k) = if k = j then v else rd (m 76) (Int32.ofNat k) := fun j k v h1 h2 => rd_num h1 h2
  refine num_ok (j := 7) hw (by decide) (by decide) (by decide) (by decide) ?_
  unfold WN at a ⊢
  rw [show rd (wr (m 76) (Int32.ofNat 7) x) 1 = rd (m 76) 1 from r 7 1 x (by decide) (by decide), show rd (wr (m 76) (Int32.ofNat 7) x) 2 = rd (m 76) 2 from r 7 2 x (by decide) (by decide), show rd (wr (m 76) (Int32.ofNat 7) x) 3 = rd (m 76) 3 from r 7 3 x (by decide) (by decide), show rd (wr (m 76) (Int32.ofNat 7) x) 4 = rd (m 76) 4 from r 7 4 x (by decide) (by decide), show rd (wr (m 76) (Int32.ofNat 7) x) 5 = rd (m 76) 5 from r 7 5 x (by decide) (by decide), show rd (wr (m 76) (Int32.ofNat 7) x) 6 = rd (m 76) 6 from r 7 6 x (by decide) (by decide)]
  exact a
set_option maxHeartbeats 4000000 in
theorem J_pull (hG : fl G = false) (hd : 20 ≤ d) (hV : jV m) : JJ G d t n i mX5_pull mX6_pull [.int x] m := by
  obtain ⟨⟨hb, ht, hw⟩, h13, -, -⟩ := hV.1
  refine JJ.box (R := pgR (m 76) x) (g := pulA (m 76) x) hV ?_ ?_ (fun K k => c_X5_pull hG hd hb ht hw h13 k) (fun m1 K h k => c_X6_pull hG hd (by rw [h 76 (by decide)]; exact hw) (by rw [h 76 (by decide)]; exact k))
  · unfold pgR
    split
    · exact Or.inl rfl
    · exact Or.inr (by decide)
  · unfold pgR
    split
    · rename_i q
      intro _
      have hp := pul_ok hw q
      exact ⟨hp.1, hp.2.2.1, hp.2.2.2.1 5 (by decide) (by decide) (by decide) (by decide), hp.2.2.2.1 6 (by decide) (by decide) (by decide) (by decide)⟩
    · intro e; exact absurd e (by decide)
set_option maxHeartbeats 4000000 in
theorem J_draws (hG : fl G = false) (hd : 20 ≤ d) (hV : jV m) : JJ G d t n i mX5_draws mX6_draws [.int x] m := by
  obtain ⟨⟨hb, ht, hw⟩, h13, -, -⟩ := hV.1
  refine JJ.box (R := dsR (m 76) x) (g := (drA (m 76) 0 x.toNatClampNeg).1) hV ?_ (fun _ => drA_ok _ _ _ hw) (fun K k => c_X5_draws hG hd hb ht hw h13 k) (fun m1 K h k => c_X6_draws hG hd (by rw [h 76 (by decide)]; exact hw) (by rw [h 76 (by decide)]; exact k))
  unfold dsR
  split
  · exact Or.inl rfl
  · exact Or.inr (by decide)
set_option maxHeartbeats 4000000 in
theorem J_pulls (hG : fl G = false) (hd : 20 ≤ d) (hV : jV m) : JJ G d t n i mX5_pulls mX6_pulls [.int x] m := by
  obtain ⟨⟨hb, ht, hw⟩, h13, -, -⟩ := hV.1
  obtain ⟨hs, hz, -⟩ := hV.2.2.1
  have pk : lkS (m 85) x = 0 → WF (puF (m 86) (m 87) x (m 76)) ∧ (∀ i : Nat, 168 ≤ i → puF (m 86) (m 87) x (m 76) i = m 76 i) ∧ rd (puF (m 86) (m 87) x (m 76)) 5 = rd (m 76) 5 ∧ rd (puF (m 86) (m 87) x (m 76)) 6 = rd (m 76) 6 ∧ rd (puF (m 86) (m 87) x (m 76)) 7 = rd (m 76) 7 := by
    intro _
    exact pls_ok _ 0 _ hw (fun j a b => rwf_in _ 0 j a (by rw [Nat.zero_add] at b; exact b))
  refine JJ.box (R := if lkS (m 85) x = 0 then (0, Int32.ofNat (rwN (m 86) (m 87) x)) else (lkS (m 85) x, 0)) (g := puF (m 86) (m 87) x (m 76)) hV ?_ ?_ (fun K k => c_X5_pulls hG (by omega) hs hz hb ht hw ⟨h13.1, hw.2.2.1.1⟩ (fun e m' hf hr e13 e14 => k.ok (hf.mo (by decide)) ⟨hr, e13, ?_⟩ (by rw [if_pos e])) (fun e => k.no (by rw [if_neg e]) e)) (fun m1 K h k => c_X6_pulls hG (by omega) (by rw [h 86 (by decide)]; exact hz) (by rw [h 76 (by decide)]; exact hw) ?_ ?_)
  · split
    · exact Or.inl rfl
    · rename_i h; exact Or.inr (lkS_r h)
  · intro e
    by_cases h : lkS (m 85) x = 0
    · have := pk h; exact ⟨this.1, this.2.1, this.2.2.1, this.2.2.2.1⟩
    · rw [if_neg h] at e; exact absurd e h
  · rw [e14, h13.2]; exact (pk e).2.2.2.2.symm
  · rw [h 85 (by decide), h 86 (by decide), h 87 (by decide), h 76 (by decide)]
    exact fun e m' hf he => k.ok (hf.mo (by decide)) he (by rw [if_pos e])
  · rw [h 85 (by decide)]
    exact fun e => k.no (by rw [if_neg e]) e
set_option maxHeartbeats 4000000 in
theorem J_sheet (hG : fl G = false) (hd : 20 ≤ d) (hV : jV m) : JJ G d t n i mX5_sheet mX6_sheet [.int x, .int b, .int c] m := by
  obtain ⟨hs, hz, hB⟩ := hV.2.2.1
  refine JJ.sht (R := shR x b c) (g := wr (m 85) x b) (z := wr (m 86) x (shN b c)) (u := cpN (m 87) (fun _ => 0) (24 * x.toNatClampNeg) 0 24) hV ?_ ?_ (fun K k => c_X5_sheet hG hd hs k) (fun m1 K h k => c_X6_sheet hG hd (by rw [h 85 (by decide), h 86 (by decide), h 87 (by decide)]; exact k))
  · unfold shR
    repeat' split
    all_goals first | exact Or.inl rfl | exact Or.inr (by decide)
  · have fin : (b = 0 ∨ b = 8 ∨ b = 16 ∨ b = 32) → (∃ k, k ≤ 24 ∧ shN b c = Int32.ofNat k) → ShZ (wr (m 86) x (shN b c)) ∧ ∀ y, y < 4 → bOK (wr (m 85) x b y) := by
      intro hb hk
      constructor
      · intro y hy
        unfold wr
        split
        · exact hk
        · exact hz y hy
      · intro y hy
        unfold wr
        split
        · exact hb
        · exact hB y hy
    unfold shR
    split
    · split
      · rename_i _ hb
        split
        · rename_i h0
          intro _
          exact fin hb ⟨0, by omega, by rw [shN, if_pos h0]; rfl⟩
        · rename_i h0
          split
          · split
            · rename_i h1 h2
              intro _
              obtain ⟨k, hk, rfl⟩ := oN' (N := 24) h1 h2 (by decide)
              exact fin hb ⟨k, hk, by rw [shN, if_neg h0]⟩
            · intro e; exact absurd e (by decide)
          · intro e; exact absurd e (by decide)
      · intro e; exact absurd e (by decide)
    · intro e; exact absurd e (by decide)
set_option maxHeartbeats 4000000 in
theorem J_put (hG : fl G = false) (hd : 20 ≤ d) (hV : jV m) : JJ G d t n i mX5_put mX6_put [.int x, .int y, .int z] m := by
  obtain ⟨hs, hz, hB⟩ := hV.2.2.1
  refine JJ.sht (R := ptR (m 85) (m 86) x y) (g := m 85) (z := m 86) (u := ptU (m 85) (m 87) x y z) hV ?_ (fun _ => ⟨hz, hB⟩) (fun K k => c_X5_put hG hd hs hz k) (fun m1 K h k => c_X6_put hG hd (by rw [h 86 (by decide)]; exact hz) (by rw [h 85 (by decide)]; exact hB) (by rw [h 85 (by decide), h 86 (by decide), h 87 (by decide)]; exact k))
  unfold ptR
  split
  · split
    · exact Or.inl rfl
    · exact Or.inr (by decide)
  · rename_i h; exact Or.inr (lkS_r h)
set_option maxHeartbeats 4000000 in
theorem J_move (hG : fl G = false) (hd : 20 ≤ d) {o j l : Int32} (hV : jV m) : JJ G d t n i mX5_move mX6_move [.int x, .int y, .int o, .int j, .int l] m := by
  obtain ⟨hs, hz, hB⟩ := hV.2.2.1
  refine JJ.sht (R := mvR (m 85) (m 86) x y o j l) (g := m 85) (z := m 86) (u := mvU (m 87) x y o j l) hV ?_ (fun _ => ⟨hz, hB⟩) (fun K k => c_X5_move hG hd hs hz k) (fun m1 K h k => c_X6_move hG hd (by rw [h 86 (by decide)]; exact hz) (by rw [h 85 (by decide), h 86 (by decide), h 87 (by decide)]; exact k))
  unfold mvR
  repeat' split
  all_goals first | exact Or.inl rfl | exact Or.inr (by decide)
end

