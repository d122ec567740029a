-- 52.box1
section
variable {G : Gm} {d t n i : Nat} {m : Mem} {K : Option Value → Mem → Prop} {f : Nat → Int32} {x y z : Int32}
set_option maxHeartbeats 4000000 in
theorem r07 {y : Int32} (h0 : 0 ≤ y) (h1 : y ≤ 7) : y = 0 ∨ y = 1 ∨ y = 2 ∨ y = 3 ∨ y = 4 ∨ y = 5 ∨ y = 6 ∨ y = 7 := c16 (P := fun y => y ≤ 7 → y = 0 ∨ y = 1 ∨ y = 2 ∨ y = 3 ∨ y = 4 ∨ y = 5 ∨ y = 6 ∨ y = 7) (by decide) h0 (Int32.le_trans h1 (by decide)) h1
set_option maxHeartbeats 4000000 in
theorem c_X0_hasR (hG : fl G = false) (hd : 1 ≤ d) (hb : RB m 35 44 f) (h16 : rd f 0 ≤ 16) (k : K (some (.int (if 0 ≤ x ∧ x < rd f 0 then 1 else 0))) m) : Cal G mX0_has d [.ref 35, .int x] SH (TA t n i) m K := by
  refine c_X0_has hG hd rfl ?_
  rw [hb.1.1]
  by_cases h : 0 ≤ x ∧ x < rd f 0
  · rw [if_pos h] at k
    rw [if_pos ⟨h.1, h.2, Int32.lt_of_lt_of_le h.2 h16⟩]
    exact k
  · rw [if_neg h] at k
    rw [if_neg (fun q => h ⟨q.1, q.2.1⟩)]
    exact k
def tiR (f : Nat → Int32) (x y : Int32) : Int32 × Int32 := if 0 ≤ x ∧ x < rd f 0 then if y = 0 then (0, its f x 0) else if y = 1 then (0, its f x 1) else if y = 2 then (0, its f x 2) else if y = 3 then (0, its f x 3) else if y = 4 then (0, und f x) else if y = 5 then (0, upn f x) else if y = 6 then (0, nds f x) else if y = 7 then (0, lks f x) else (1, 0) else (1, 0)
set_option maxHeartbeats 4000000 in
theorem c_X5_thingIs (hG : fl G = false) (hd : 20 ≤ d) (hb : RB m 35 44 f) (ht : RT m 36 40 f) (hw : WF f) (k : Ans [36, 39, 40, 43] 34 m K (tiR f x y)) : Cal G mX5_thingIs d [.ref 0, .int x, .int y] SH (TA t n i) m K := by
  obtain ⟨d, rfl⟩ : ∃ e, d = e + 1 := ⟨d - 1, by omega⟩
  have h16 := hw.1.1.2
  refine Cal.of (by decide +kernel) rfl (Nat.le_of_ble_eq_true rfl) (rg_X5_thingIs_0 hG 0 x y ⟨rfl, 35, rfl, rfl, c_X0_hasR hG (by omega) hb h16 ⟨_, rfl, fun q => ?_, fun q => ?_⟩⟩)
  · have q := b1 q
    rw [tiR, if_pos q] at k
    refine ⟨fun o => ?_, fun e => ?_, fun e => ?_, fun e => ?_, fun e => ?_, fun e => ?_, fun e => ?_, fun e => ?_, fun e => ?_⟩
    · have nn : ∀ z : Int32, 0 ≤ z → z ≤ 7 → y ≠ z := by
        intro z z0 z1 e
        have a := Int32.le_iff_toInt_le.mp z0
        have b := Int32.le_iff_toInt_le.mp z1
        rw [show (0 : Int32).toInt = 0 from rfl] at a
        rw [show (7 : Int32).toInt = 7 from rfl] at b
        rw [e] at o
        omega
      exact c_X5_refuse hG (by omega) (by decide) ⟨_, rfl, k.no Fr.rf (by rw [if_neg (nn 0 (by decide) (by decide)), if_neg (nn 1 (by decide) (by decide)), if_neg (nn 2 (by decide) (by decide)), if_neg (nn 3 (by decide) (by decide)), if_neg (nn 4 (by decide) (by decide)), if_neg (nn 5 (by decide) (by decide)), if_neg (nn 6 (by decide) (by decide)), if_neg (nn 7 (by decide) (by decide))]) (by decide)⟩
    · subst e; exact c_X0_kindOf hG (by omega) B35 hb h16 ⟨_, rfl, by rw [if_pos q]; exact k.ok Fr.rf rfl⟩
    · subst e; exact c_X0_mOf hG (by omega) B35 hb h16 ⟨_, rfl, by rw [if_pos q]; exact k.ok Fr.rf rfl⟩
    · subst e; exact c_X0_worthOf hG (by omega) B35 hb h16 ⟨_, rfl, by rw [if_pos q]; exact k.ok Fr.rf rfl⟩
    · subst e; exact c_X0_cellOf hG (by omega) B35 hb h16 ⟨_, rfl, by rw [if_pos q]; exact k.ok Fr.rf rfl⟩
    · subst e; exact c_X0_under hG (by omega) B35 hb hw.1 hw.2.1 q ⟨_, rfl, k.ok Fr.rf rfl⟩
    · subst e; exact c_X0_on hG (by omega) B35 hb hw.1 hw.2.1 q ⟨_, rfl, k.ok Fr.rf rfl⟩
    · subst e; exact c_X0_needs hG (by omega) B35 hb ht hw q (fun m' hf => ⟨_, rfl, k.ok (hf.mo (by simp)) rfl⟩)
    · subst e; exact c_X0_likes hG (by omega) B35 hb ht hw q (fun m' hf => ⟨_, rfl, k.ok (hf.mo (by simp)) rfl⟩)
  · exact c_X5_refuse hG (by omega) (by decide) ⟨_, rfl, k.no Fr.rf (by rw [tiR, if_neg (b0 q)]) (by decide)⟩
set_option maxHeartbeats 4000000 in
theorem c_X6_thingIs (hG : fl G = false) (hd : 20 ≤ d) (hw : WF (m 76)) (k : Ans [81, 82] 79 m K (tiR (m 76) x y)) : Cal G mX6_thingIs d [.ref 75, .int x, .int y] SH (TA t n i) m K := by
  obtain ⟨d, rfl⟩ : ∃ e, d = e + 1 := ⟨d - 1, by omega⟩
  have h16 := hw.1.1
  refine Cal.of (by decide +kernel) rfl (Nat.le_of_ble_eq_true rfl) (rg_X6_thingIs_0 hG 75 x y ⟨rfl, c_X6_isThing hG (by omega) h16.1 h16.2 ⟨_, rfl, fun q => ?_, fun q => ?_⟩⟩)
  · exact c_X6_error hG (by omega) (by decide) ⟨_, rfl, k.no Fr.rf (by rw [tiR, if_neg (b0 q)]) (by decide)⟩
  · have q := b1 q
    rw [tiR, if_pos q] at k
    have x16 : 0 ≤ x ∧ x < 16 := ⟨q.1, Int32.lt_of_lt_of_le q.2 h16.2⟩
    refine c_X6_in hG (by omega) ⟨_, rfl, fun q2 => ?_, fun q2 => ?_⟩
    · have q2 := b1 q2
      rcases r07 q2.1 q2.2 with rfl | rfl | rfl | rfl | rfl | rfl | rfl | rfl
      · exact ⟨fun c => absurd c (by decide), fun _ => c_X6_its hG (by omega) x16 (by decide) ⟨_, rfl, k.ok Fr.rf rfl⟩⟩
      · exact ⟨fun c => absurd c (by decide), fun _ => c_X6_its hG (by omega) x16 (by decide) ⟨_, rfl, k.ok Fr.rf rfl⟩⟩
      · exact ⟨fun c => absurd c (by decide), fun _ => c_X6_its hG (by omega) x16 (by decide) ⟨_, rfl, k.ok Fr.rf rfl⟩⟩
      · exact ⟨fun c => absurd c (by decide), fun _ => c_X6_its hG (by omega) x16 (by decide) ⟨_, rfl, k.ok Fr.rf rfl⟩⟩
      · exact ⟨fun _ => ⟨fun c => absurd rfl c, fun _ => c_X6_under hG (by omega) hw.1 hw.2.1 q ⟨_, rfl, k.ok Fr.rf rfl⟩⟩, fun c => absurd (by decide) c⟩
      · exact ⟨fun _ => ⟨fun _ => ⟨fun c => absurd rfl c, fun _ => c_X6_upon hG (by omega) hw.1 hw.2.1 q ⟨_, rfl, k.ok Fr.rf rfl⟩⟩, fun c => absurd c (by decide)⟩, fun c => absurd (by decide) c⟩
      · exact ⟨fun _ => ⟨fun _ => ⟨fun _ => ⟨fun c => absurd rfl c, fun _ => c_X6_needs hG (by omega) hw q (fun m' hf => ⟨_, rfl, k.ok hf rfl⟩)⟩, fun c => absurd c (by decide)⟩, fun c => absurd c (by decide)⟩, fun c => absurd (by decide) c⟩
      · exact ⟨fun _ => ⟨fun _ => ⟨fun _ => ⟨fun _ => c_X6_likes hG (by omega) hw q (fun m' hf => ⟨_, rfl, k.ok hf rfl⟩), fun c => absurd c (by decide)⟩, fun c => absurd c (by decide)⟩, fun c => absurd c (by decide)⟩, fun c => absurd (by decide) c⟩
    · have q2 := b0 q2
      have nn : ∀ z : Int32, 0 ≤ z → z ≤ 7 → y ≠ z := fun z z0 z1 e => q2 (by rw [e]; exact ⟨z0, z1⟩)
      exact c_X6_error hG (by omega) (by decide) ⟨_, rfl, k.no Fr.rf (by rw [if_neg (nn 0 (by decide) (by decide)), if_neg (nn 1 (by decide) (by decide)), if_neg (nn 2 (by decide) (by decide)), if_neg (nn 3 (by decide) (by decide)), if_neg (nn 4 (by decide) (by decide)), if_neg (nn 5 (by decide) (by decide)), if_neg (nn 6 (by decide) (by decide)), if_neg (nn 7 (by decide) (by decide))]) (by decide)⟩
def ciR (f : Nat → Int32) (x y : Int32) : Int32 × Int32 := if 0 ≤ x ∧ x ≤ 15 then if y = 0 then (0, sz f x) else if y = 1 then (0, upm f x) else if y = 2 then (0, if sz f x = 0 then -1 else pl f x 0) else if y = 3 then (0, doe f x) else (1, 0) else (1, 0)
set_option maxHeartbeats 4000000 in
theorem r03 {y : Int32} (h0 : 0 ≤ y) (h1 : y ≤ 3) : y = 0 ∨ y = 1 ∨ y = 2 ∨ y = 3 := c16 (P := fun y => y ≤ 3 → y = 0 ∨ y = 1 ∨ y = 2 ∨ y = 3) (by decide) h0 (Int32.le_trans h1 (by decide)) h1
set_option maxHeartbeats 4000000 in
theorem c_X5_cellIs (hG : fl G = false) (hd : 20 ≤ d) (hb : RB m 35 44 f) (ht : RT m 36 40 f) (hw : WF f) (k : Ans [36, 39, 40, 43] 34 m K (ciR f x y)) : Cal G mX5_cellIs d [.ref 0, .int x, .int y] SH (TA t n i) m K := by
  obtain ⟨d, rfl⟩ : ∃ e, d = e + 1 := ⟨d - 1, by omega⟩
  refine Cal.of (by decide +kernel) rfl (Nat.le_of_ble_eq_true rfl) (rg_X5_cellIs_0 hG 0 x y (c_X5_isCell hG (by omega) ⟨_, rfl, fun q => ?_, fun q => ?_⟩))
  · have q := b1 q
    have q : 0 ≤ x ∧ x ≤ 15 := ⟨q.1, Int32.le_iff_toInt_le.mpr (by have := Int32.lt_iff_toInt_lt.mp q.2; rw [show (16 : Int32).toInt = 16 from rfl] at this; rw [show (15 : Int32).toInt = 15 from rfl]; omega)⟩
    rw [ciR, if_pos q] at k
    refine ⟨fun o => ?_, fun e => ?_, fun e => ?_, fun e => ?_, fun e => ?_⟩
    · have nn : ∀ z : Int32, 0 ≤ z → z ≤ 3 → y ≠ z := by
        intro z z0 z1 e
        have a := Int32.le_iff_toInt_le.mp z0
        have b := Int32.le_iff_toInt_le.mp z1
        rw [show (0 : Int32).toInt = 0 from rfl] at a
        rw [show (3 : Int32).toInt = 3 from rfl] at b
        rw [e] at o
        omega
      exact ⟨rfl, c_X5_refuse hG (by omega) (by decide) ⟨_, rfl, k.no Fr.rf (by rw [if_neg (nn 0 (by decide) (by decide)), if_neg (nn 1 (by decide) (by decide)), if_neg (nn 2 (by decide) (by decide)), if_neg (nn 3 (by decide) (by decide))]) (by decide)⟩⟩
    · subst e; exact ⟨rfl, 35, rfl, rfl, c_X0_highOf hG (by omega) B35 hb ⟨_, rfl, by rw [if_pos q]; exact k.ok Fr.rf rfl⟩⟩
    · subst e; exact ⟨rfl, 35, rfl, rfl, c_X0_top hG (by omega) B35 hb hw.2.1 ⟨_, rfl, by rw [if_pos q]; exact k.ok Fr.rf rfl⟩⟩
    · subst e
      refine ⟨rfl, 35, rfl, rfl, c_X0_thingAt hG (by omega) B35 hb hw.2.1 ⟨_, rfl, ?_⟩⟩
      have h0 := (hw.2.1 x q.1 q.2).1.1
      by_cases hz : sz f x = 0
      · rw [if_neg (fun o => by rw [hz] at o; exact absurd o.2.2.2 (by decide))]
        exact k.ok Fr.rf (by rw [if_neg (by decide), if_neg (by decide), if_pos rfl, if_pos hz])
      · rw [if_pos ⟨q.1, q.2, by decide, Int32.lt_of_le_of_ne h0 (fun e => hz e.symm)⟩]
        exact k.ok Fr.rf (by rw [if_neg (by decide), if_neg (by decide), if_pos rfl, if_neg hz])
    · subst e; exact ⟨rfl, 35, rfl, rfl, c_X0_does hG (by omega) B35 hb ht hw q (fun m' hf => ⟨_, rfl, k.ok (hf.mo (by simp)) rfl⟩)⟩
  · have q : ¬ (0 ≤ x ∧ x ≤ 15) := fun h => b0 q ⟨h.1, Int32.lt_of_le_of_lt h.2 (by decide)⟩
    exact ⟨rfl, c_X5_refuse hG (by omega) (by decide) ⟨_, rfl, k.no Fr.rf (by rw [ciR, if_neg q]) (by decide)⟩⟩
set_option maxHeartbeats 4000000 in
theorem c_X6_cellIs (hG : fl G = false) (hd : 20 ≤ d) (hw : WF (m 76)) (k : Ans [81, 82] 79 m K (ciR (m 76) x y)) : Cal G mX6_cellIs d [.ref 75, .int x, .int y] SH (TA t n i) m K := by
  obtain ⟨d, rfl⟩ : ∃ e, d = e + 1 := ⟨d - 1, by omega⟩
  refine Cal.of (by decide +kernel) rfl (Nat.le_of_ble_eq_true rfl) (rg_X6_cellIs_0 hG 75 x y (c_X6_isCell hG (by omega) ⟨_, rfl, fun q => ?_, fun q => ?_⟩))
  · exact ⟨rfl, c_X6_error hG (by omega) (by decide) ⟨_, rfl, k.no Fr.rf (by rw [ciR, if_neg (b0 q)]) (by decide)⟩⟩
  · have q := b1 q
    rw [ciR, if_pos q] at k
    have h0 := (hw.2.1 x q.1 q.2).1
    refine c_X6_in hG (by omega) ⟨_, rfl, fun q2 => ?_, fun q2 => ?_⟩
    · have q2 := b1 q2
      rcases r03 q2.1 q2.2 with rfl | rfl | rfl | rfl
      · exact ⟨fun o => absurd o (by decide), fun _ => ⟨rfl, c_X6_size hG (by omega) q ⟨_, rfl, k.ok Fr.rf rfl⟩⟩, fun o => absurd o (by decide), fun o => absurd o (by decide)⟩
      · exact ⟨fun o => absurd o (by decide), fun o => absurd o (by decide), fun _ => ⟨rfl, c_X6_uppermost hG (by omega) q h0 ⟨_, rfl, k.ok Fr.rf rfl⟩⟩, fun o => absurd o (by decide)⟩
      · refine ⟨fun o => absurd o (by decide), fun o => absurd o (by decide), fun o => absurd o (by decide), fun _ => ⟨rfl, c_X6_size hG (by omega) q ⟨_, rfl, fun c => ?_, fun c => ?_⟩⟩⟩
        · exact c_X6_at1 hG (by omega) q (by decide) ⟨_, rfl, k.ok Fr.rf (by rw [if_neg (by decide), if_neg (by decide), if_pos rfl, if_neg c])⟩
        · exact k.ok Fr.rf (by rw [if_neg (by decide), if_neg (by decide), if_pos rfl, if_pos c])
      · exact ⟨fun _ => ⟨rfl, c_X6_does hG (by omega) hw q (fun m' hf => ⟨_, rfl, k.ok hf rfl⟩)⟩, fun o => absurd o (by decide), fun o => absurd o (by decide), fun o => absurd o (by decide)⟩
    · have q2 := b0 q2
      have nn : ∀ z : Int32, 0 ≤ z → z ≤ 3 → y ≠ z := fun z z0 z1 e => q2 (by rw [e]; exact ⟨z0, z1⟩)
      exact ⟨rfl, c_X6_error hG (by omega) (by decide) ⟨_, rfl, k.no Fr.rf (by rw [if_neg (nn 0 (by decide) (by decide)), if_neg (nn 1 (by decide) (by decide)), if_neg (nn 2 (by decide) (by decide)), if_neg (nn 3 (by decide) (by decide))]) (by decide)⟩⟩
end

