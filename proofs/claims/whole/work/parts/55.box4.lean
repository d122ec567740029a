-- 55.box4
section
variable {G : Gm} {d t n i : Nat} {m : Mem} {K : Option Value → Mem → Prop} {f : Nat → Int32} {x y z : Int32}
-- k pulls by draws: what is then, and how often was won
def drA (f : Nat → Int32) (w : Int32) (k : Nat) : (Nat → Int32) × Int32 := match k with
  | 0 => (f, w)
  | e + 1 => drA (pulA (dwA f) (dwC (dwA f))) (if doe (dwA f) (dwC (dwA f)) = 2 then w + 1 else w) e
set_option maxHeartbeats 4000000 in
theorem dwA_E (f : Nat → Int32) : NumE f (dwA f) := wr_num (j := 7) (by decide) (by decide)
set_option maxHeartbeats 4000000 in
theorem dwA_rd {f : Nat → Int32} {k : Nat} (h : k < 7) : rd (dwA f) (Int32.ofNat k) = rd f (Int32.ofNat k) := by
  have e := rd_num (f := f) (j := 7) (k := k) (x := rd f 7 * 1103515245 + 12345) (by decide) (by omega)
  rw [if_neg (by omega)] at e
  exact e
set_option maxHeartbeats 4000000 in
theorem dwA_7 {f : Nat → Int32} : rd (dwA f) 7 = rd f 7 * 1103515245 + 12345 := rd_num (f := f) (j := 7) (k := 7) (by decide) (by decide)
set_option maxHeartbeats 4000000 in
theorem dwA_wf {f : Nat → Int32} (w : WF f) : WF (dwA f) := (dwA_E f).wf w (by
  have h := w.2.2.1
  unfold WN at h ⊢
  rw [show rd (dwA f) 1 = rd f 1 from dwA_rd (k := 1) (by decide), show rd (dwA f) 2 = rd f 2 from dwA_rd (k := 2) (by decide), show rd (dwA f) 3 = rd f 3 from dwA_rd (k := 3) (by decide), show rd (dwA f) 4 = rd f 4 from dwA_rd (k := 4) (by decide), show rd (dwA f) 5 = rd f 5 from dwA_rd (k := 5) (by decide), show rd (dwA f) 6 = rd f 6 from dwA_rd (k := 6) (by decide)]
  exact h)
set_option maxHeartbeats 4000000 in
theorem dwA_hi {f : Nat → Int32} {i : Nat} (h : 168 ≤ i) : dwA f i = f i := dwA_E f i (Or.inr (by omega))
-- what a draw and its pull keep
set_option maxHeartbeats 4000000 in
theorem drS_ok {f : Nat → Int32} (w : WF f) : WF (pulA (dwA f) (dwC (dwA f))) ∧ (∀ i : Nat, 168 ≤ i → pulA (dwA f) (dwC (dwA f)) i = f i) ∧ rd (pulA (dwA f) (dwC (dwA f))) 5 = rd f 5 ∧ rd (pulA (dwA f) (dwC (dwA f))) 6 = rd f 6 ∧ rd (pulA (dwA f) (dwC (dwA f))) 7 = rd (dwA f) 7 ∧ rd (pulA (dwA f) (dwC (dwA f))) 1 = hld (rd f 1 + 1) 0 99999 := by
  have hp := pul_ok (dwA_wf w) (dwC_ok (dwA f))
  refine ⟨hp.1, fun i hi => by rw [hp.2.2.1 i hi, dwA_hi hi], ?_, ?_, hp.2.2.2.1 7 (by decide) (by decide) (by decide) (by decide), ?_⟩
  · rw [hp.2.2.2.1 5 (by decide) (by decide) (by decide) (by decide)]; exact dwA_rd (k := 5) (by decide)
  · rw [hp.2.2.2.1 6 (by decide) (by decide) (by decide) (by decide)]; exact dwA_rd (k := 6) (by decide)
  · rw [hp.2.2.2.2.1, show rd (dwA f) 1 = rd f 1 from dwA_rd (k := 1) (by decide)]
set_option maxHeartbeats 4000000 in
theorem drA_ok : ∀ (k : Nat) (f : Nat → Int32) (w : Int32), WF f → WF (drA f w k).1 ∧ (∀ i : Nat, 168 ≤ i → (drA f w k).1 i = f i) ∧ rd (drA f w k).1 5 = rd f 5 ∧ rd (drA f w k).1 6 = rd f 6 := by
  intro k
  induction k with
  | zero => intro f w h; exact ⟨h, fun _ _ => rfl, rfl, rfl⟩
  | succ k ih =>
    intro f w h
    have s := drS_ok h
    have r := ih _ (if doe (dwA f) (dwC (dwA f)) = 2 then w + 1 else w) s.1
    rw [drA]
    exact ⟨r.1, fun i hi => by rw [r.2.1 i hi, s.2.1 i hi], by rw [r.2.2.1, s.2.2.1], by rw [r.2.2.2, s.2.2.2.1]⟩
def dsR (f : Nat → Int32) (x : Int32) : Int32 × Int32 := if 1 ≤ x ∧ x ≤ 60 then (0, (drA f 0 x.toNatClampNeg).2) else (1, 0)
set_option maxHeartbeats 4000000 in
theorem c_X6_draw (hG : fl G = false) (hd : 1 ≤ d) (k : K (some (.int (dwN (dwA (m 76))))) (set1 m 76 (dwA (m 76)))) : Cal G mX6_draw d [.ref 75] SH (TA t n i) m K := by
  obtain ⟨d, rfl⟩ : ∃ e, d = e + 1 := ⟨d - 1, by omega⟩
  refine Cal.of (by decide +kernel) rfl (Nat.le_of_ble_eq_true rfl) (rg_X6_draw_0 hG 75 ⟨rfl, 76, rfl, 502, rfl, ib502 (by decide) (by decide), ib502 (by decide) (by decide), ?_⟩)
  rintro _ rfl
  rw [upa_set, set1_eq]
  exact ⟨ib502 (by decide) (by decide), k⟩
set_option maxHeartbeats 4000000 in
theorem c_X0_draw (hG : fl G = false) (hd : 1 ≤ d) (h14 : m 35 14 = rd f 7) (k : K (some (.int (dwN (dwA f)))) (up2 m 35 14 (rd (dwA f) 7))) : Cal G mX0_draw d [.ref 35] SH (TA t n i) m K := by
  obtain ⟨d, rfl⟩ : ∃ e, d = e + 1 := ⟨d - 1, by omega⟩
  refine Cal.of (by decide +kernel) rfl (Nat.le_of_ble_eq_true rfl) (rg_X0_draw_0 hG 35 ⟨rfl, ?_⟩)
  rintro _ rfl
  rw [up2_eq, if_pos rfl]
  rw [dwN, dwA_7] at k
  rw [h14]
  exact k
set_option maxHeartbeats 4000000 in
theorem c_X5_draws (hG : fl G = false) (hd : 20 ≤ d) (hb : RB m 35 44 f) (ht : RT m 36 40 f) (hw : WF f) (h13 : m 35 13 = rd f 1 ∧ m 35 14 = rd f 7) (k : AnB jC 34 m K (dsR f x) (PC (drA f 0 x.toNatClampNeg).1)) : Cal G mX5_draws d [.ref 0, .int x] SH (TA t n i) m K := by
  obtain ⟨d, rfl⟩ : ∃ e, d = e + 1 := ⟨d - 1, by omega⟩
  have no : ¬ (1 ≤ x ∧ x ≤ 60) → ∀ {e : Nat}, 1 ≤ e → Cal G mX5_refuse e [.ref 0, .int 1] SH (TA t n i) m (fun v1 m2 => ∃ r3, v1 = some (.int r3) ∧ K (some (.int r3)) m2) := fun h1 {e} he => c_X5_refuse hG he (by decide) ⟨_, rfl, k.no (by rw [dsR, if_neg h1]) (by decide)⟩
  refine Cal.of (by decide +kernel) rfl (Nat.le_of_ble_eq_true rfl) (rg_X5_draws_0 hG 0 x ⟨fun c => ⟨rfl, no (fun o => absurd c (Int32.not_lt.mpr o.1)) (by omega)⟩, fun c1 => ⟨fun c2 => ?_, fun c => ⟨rfl, no (fun o => c o.2) (by omega)⟩⟩⟩)
  have q : 1 ≤ x ∧ x ≤ 60 := ⟨Int32.not_lt.mp c1, c2⟩
  obtain ⟨N, hN, rfl⟩ := oN' (N := 60) (Int32.le_trans (by decide) q.1) q.2 (by decide)
  rw [dsR, if_pos q, tn_o (by omega)] at k
  have loop : ∀ (e j : Nat), j + e = N → ∀ (m' : Mem) (g : Nat → Int32) (w : Int32), Fr jC m m' → RB m' 35 44 g → RT m' 36 40 g → WF g → (m' 35 13 = rd g 1 ∧ m' 35 14 = rd g 7) → drA f 0 N = drA g w e → WP G (rmD (d + 1) 0 0) mX5_draws (QC G SH (TA t n i) K) 0 0 21 [(0, .ref 0), (1, .int (Int32.ofNat N)), (2, .int w), (3, .int (Int32.ofNat j))] [] (SH, TA t n i, m') := by
    intro e
    induction e with
    | zero =>
      intro j hj m' g w hf hb' ht' hw' h13' hres
      have hres : drA f 0 N = (g, w) := hres
      rw [hres] at k
      refine rg_X5_draws_21 hG 0 _ _ _ ⟨fun _ => k.ok hf ⟨hb', h13'⟩ rfl, fun c => absurd ?_ c⟩
      rw [o_le (by omega) (by omega)]; omega
    | succ e ih =>
      intro j hj m' g w hf hb' ht' hw' h13' hres
      have hlt : ¬ Int32.ofNat N ≤ Int32.ofNat j := fun c => by
        rw [o_le (by omega) (by omega)] at c
        omega
      have E := dwA_E g
      refine rg_X5_draws_21 hG 0 _ _ _ ⟨fun c => absurd c hlt, fun _ => ⟨rfl, 35, rfl, rfl, c_X0_draw hG (by omega) h13'.2 ⟨_, rfl, by decide, ?_⟩⟩⟩
      have hf1 : Fr jC m' (up2 m' 35 14 (rd (dwA g) 7)) := Fr.u2 (by decide)
      have hb1 : RB (up2 m' 35 14 (rd (dwA g) 7)) 35 44 (dwA g) := by
        refine E.rb hb' hw' (by decide) (Fr.u2 (by decide)) ?_ ?_ ?_ ?_
        · rw [up2_eq, if_neg (by decide)]
        · rw [up2_eq, if_neg (by decide), show rd (dwA g) 3 = rd g 3 from dwA_rd (k := 3) (by decide)]; exact hb'.1.2.1
        · rw [up2_eq, if_neg (by decide), show rd (dwA g) 4 = rd g 4 from dwA_rd (k := 4) (by decide)]; exact hb'.1.2.2.1
        · rw [up2_eq, if_neg (by decide), show rd (dwA g) 2 = rd g 2 from dwA_rd (k := 2) (by decide)]; exact hb'.1.2.2.2
      have ht1 : RT (up2 m' 35 14 (rd (dwA g) 7)) 36 40 (dwA g) := (ht'.fr hf1 (by decide) (by decide) (by decide) (by decide)).hi (fun i hi => dwA_hi hi) hw'.2.2.2.1 hw'.2.2.2.2
      have s := drS_ok hw'
      refine c_X0_grip hG (by omega) B35 hb1 ht1 (dwA_wf hw') (dwC_ok (dwA g)) (fun m2 hf2 hr2 e13 e14 _ => ⟨_, rfl, ?_⟩)
      have hff : Fr jC m' m2 := hf1.tr (hf2.mo (by decide))
      have g13 : m2 35 13 = rd (pulA (dwA g) (dwC (dwA g))) 1 ∧ m2 35 14 = rd (pulA (dwA g) (dwC (dwA g))) 7 := by
        have u1 : up2 m' 35 14 (rd (dwA g) 7) 35 13 = m' 35 13 := by rw [up2_eq, if_neg (by decide)]
        have u2 : up2 m' 35 14 (rd (dwA g) 7) 35 14 = rd (dwA g) 7 := by rw [up2_eq, if_pos rfl]
        rw [e13, e14, u1, u2, h13'.1, (pen hw'.2.2.1.1.1 hw'.2.2.1.1.2).1]
        exact ⟨s.2.2.2.2.2.symm, s.2.2.2.2.1.symm⟩
      have go : ∀ w2, w2 = (if doe (dwA g) (dwC (dwA g)) = 2 then w + 1 else w) → WP G (rmD (d + 1) 0 0) mX5_draws (QC G SH (TA t n i) K) 0 0 21 [(0, .ref 0), (1, .int (Int32.ofNat N)), (2, .int w2), (3, .int (Int32.ofNat j + 1))] [] (SH, TA t n i, m2) := by
        intro w2 e2
        rw [o_1]
        exact ih (j + 1) (by omega) m2 _ w2 (hf.tr hff) hr2 ((ht'.fr hff (by decide) (by decide) (by decide) (by decide)).hi s.2.1 hw'.2.2.2.1 hw'.2.2.2.2) s.1 g13 (by rw [hres, e2]; rfl)
      exact ⟨fun c => go _ (if_neg c).symm, fun c => go _ (if_pos c).symm⟩
  exact loop N 0 (by omega) m f 0 Fr.rf hb ht hw h13 rfl
set_option maxHeartbeats 4000000 in
theorem c_X6_draws (hG : fl G = false) (hd : 20 ≤ d) (hw : WF (m 76)) (k : AnB jM 79 m K (dsR (m 76) x) (PM (drA (m 76) 0 x.toNatClampNeg).1)) : Cal G mX6_draws d [.ref 75, .int x] SH (TA t n i) m K := by
  obtain ⟨d, rfl⟩ : ∃ e, d = e + 1 := ⟨d - 1, by omega⟩
  refine Cal.of (by decide +kernel) rfl (Nat.le_of_ble_eq_true rfl) (rg_X6_draws_0 hG 75 x (c_X6_in hG (by omega) ⟨_, rfl, fun q => ?_, fun q => ⟨rfl, c_X6_error hG (by omega) (by decide) ⟨_, rfl, k.no (by rw [dsR, if_neg (b0 q)]) (by decide)⟩⟩⟩))
  have q := b1 q
  obtain ⟨N, hN, rfl⟩ := oN' (N := 60) (Int32.le_trans (by decide) q.1) q.2 (by decide)
  rw [dsR, if_pos q, tn_o (by omega)] at k
  have loop : ∀ (e j : Nat), j + e = N → ∀ (m' : Mem) (w : Int32), Fr jM m m' → WF (m' 76) → drA (m 76) 0 N = drA (m' 76) w e → WP G (rmD (d + 1) 0 0) mX6_draws (QC G SH (TA t n i) K) 0 0 20 [(0, .ref 75), (1, .int (Int32.ofNat N)), (2, .int w), (3, .int (Int32.ofNat j))] [] (SH, TA t n i, m') := by
    intro e
    induction e with
    | zero =>
      intro j hj m' w hf hw' hres
      have hres : drA (m 76) 0 N = (m' 76, w) := hres
      rw [hres] at k
      refine rg_X6_draws_20 hG 75 _ _ _ ⟨fun _ => k.ok hf rfl rfl, fun c => absurd ?_ c⟩
      rw [o_le (by omega) (by omega)]; omega
    | succ e ih =>
      intro j hj m' w hf hw' hres
      have hlt : ¬ Int32.ofNat N ≤ Int32.ofNat j := fun c => by
        rw [o_le (by omega) (by omega)] at c
        omega
      refine rg_X6_draws_20 hG 75 _ _ _ ⟨fun c => absurd c hlt, fun _ => ⟨rfl, c_X6_draw hG (by omega) ⟨_, rfl, by decide, ?_⟩⟩⟩
      have s := drS_ok hw'
      have wd := dwA_wf hw'
      have c0 := dwC_ok (dwA (m' 76))
      refine c_X6_pulls1 hG (by omega) (by rw [set1_eq]; exact wd) c0 (fun m2 hf2 e2 => ⟨_, rfl, ?_⟩)
      rw [set1_eq] at e2 ⊢
      have hff : Fr jM m m2 := hf.tr ((Fr.s1 (L := jM) (by decide)).tr (hf2.mo (by decide)))
      have go : ∀ w2, w2 = (if doe (dwA (m' 76)) (dwC (dwA (m' 76))) = 2 then w + 1 else w) → WP G (rmD (d + 1) 0 0) mX6_draws (QC G SH (TA t n i) K) 0 0 20 [(0, .ref 75), (1, .int (Int32.ofNat N)), (2, .int w2), (3, .int (Int32.ofNat j + 1))] [] (SH, TA t n i, m2) := by
        intro w2 ew
        rw [o_1]
        refine ih (j + 1) (by omega) m2 w2 hff (by rw [e2]; exact s.1) ?_
        rw [hres, e2, ew]
        rfl
      by_cases h2 : doe (dwA (m' 76)) (dwC (dwA (m' 76))) = 2
      · have hu := upm_ok wd.2.1 ⟨Int32.le_trans (by decide) c0.1, c0.2⟩ (doe_u (Or.inr h2))
        exact ⟨fun _ => go _ (by rw [if_pos h2]), fun c => absurd ((if_pos h2).symm.trans c) (doe_u (Or.inr h2))⟩
      · exact ⟨fun c => absurd (if_neg h2) c, fun _ => go _ (by rw [if_neg h2, Int32.add_zero])⟩
  exact loop N 0 (by omega) m 0 Fr.rf hw rfl
def unP (o k : Int32) : Prop := k = 0 ∨ o = k ∨ (k = 1 ∧ o = 4) ∨ (k = 2 ∧ o = 5)
set_option maxHeartbeats 4000000 in
theorem unP_dec (o k : Int32) : unP o k ∨ ¬ unP o k := Classical.em _
set_option maxHeartbeats 4000000 in
theorem c_X5_kindAbove {sh : List Shp} {ta : Nat → Nat → Option Nat} (hG : fl G = false) (hd : 1 ≤ d) (k : K (some (.int (if 0 ≤ x ∧ x < 7 then aboveT x.toNatClampNeg else -1))) m) : Cal G mX5_kindAbove d [.int x] sh ta m K := by
  obtain ⟨d, rfl⟩ : ∃ e, d = e + 1 := ⟨d - 1, by omega⟩
  refine Cal.of (by decide +kernel) rfl (Nat.le_of_ble_eq_true rfl) (rg_X5_kindAbove_0 hG x ⟨fun c => ?_, fun c => ⟨fun c2 => ?_, fun c2 => ⟨inb (Int32.not_lt.mp c) (Int32.not_le.mp c2) (by decide), ?_⟩⟩⟩)
  · rw [if_neg (fun o => absurd c (Int32.not_lt.mpr o.1))] at k; exact k
  · rw [if_neg (fun o => absurd c2 (Int32.not_le.mpr o.2))] at k; exact k
  · rw [if_pos ⟨Int32.not_lt.mp c, Int32.not_le.mp c2⟩] at k; exact k
set_option maxHeartbeats 4000000 in
theorem c_X5_isUnder {sh : List Shp} {ta : Nat → Nat → Option Nat} (hG : fl G = false) (hd : 2 ≤ d) (hx : 0 ≤ x ∧ x ≤ 6) (hy : 0 ≤ y) (k1 : unP x y → K (some (.int 1)) m) (k0 : ¬ unP x y → K (some (.int 0)) m) : Cal G mX5_isUnder d [.int x, .int y] sh ta m K := by
  obtain ⟨d, rfl⟩ : ∃ e, d = e + 1 := ⟨d - 1, by omega⟩
  refine Cal.of (by decide +kernel) rfl (Nat.le_of_ble_eq_true rfl) (rg_X5_isUnder_0 hG x y ?_)
  have step : ∀ (a b j : Int32), ¬ 7 ≤ j → ¬ a < 0 → (a = y → K (some (.int 1)) m) → (if 0 ≤ a ∧ a < 7 then aboveT a.toNatClampNeg else -1) = b → (¬ a = y → WP G (rmD (d + 1) 0 0) mX5_isUnder (QC G sh ta K) 0 0 4 [(1, .int y), (2, .int b), (3, .int (j + 1))] [] (sh, ta, m)) → WP G (rmD (d + 1) 0 0) mX5_isUnder (QC G sh ta K) 0 0 4 [(1, .int y), (2, .int a), (3, .int j)] [] (sh, ta, m) := by
    intro a b j hj ha h1 hb h2
    exact rg_X5_isUnder_4 hG y a j ⟨fun c => absurd c hj, fun _ => ⟨fun c => absurd c ha, fun _ => ⟨fun c => c_X5_kindAbove hG (by omega) ⟨_, rfl, by rw [hb]; exact h2 c⟩, fun c => h1 c⟩⟩⟩
  have fin : ∀ (a j : Int32), a < 0 → ¬ 7 ≤ j → K (some (.int 0)) m → WP G (rmD (d + 1) 0 0) mX5_isUnder (QC G sh ta K) 0 0 4 [(1, .int y), (2, .int a), (3, .int j)] [] (sh, ta, m) := fun a j ha hj k => rg_X5_isUnder_4 hG y a j ⟨fun c => absurd c hj, fun _ => ⟨fun _ => k, fun c => absurd ha c⟩⟩
  rcases r07 hx.1 (Int32.le_trans hx.2 (by decide)) with rfl | rfl | rfl | rfl | rfl | rfl | rfl | rfl
  · exact step 0 (-1) 0 (by decide) (by decide) (fun e => k1 (Or.inl e.symm)) (by decide) (fun n0 => fin _ _ (by decide) (by decide) (k0 (fun o => by unfold unP at o; rcases o with o | o | o | o <;> simp_all)))
  · exact step 1 0 0 (by decide) (by decide) (fun e => k1 (Or.inr (Or.inl e))) (by decide) (fun n1 => step 0 (-1) _ (by decide) (by decide) (fun e => k1 (Or.inl e.symm)) (by decide) (fun n0 => fin _ _ (by decide) (by decide) (k0 (fun o => by unfold unP at o; rcases o with o | o | o | o <;> simp_all))))
  · exact step 2 0 0 (by decide) (by decide) (fun e => k1 (Or.inr (Or.inl e))) (by decide) (fun n1 => step 0 (-1) _ (by decide) (by decide) (fun e => k1 (Or.inl e.symm)) (by decide) (fun n0 => fin _ _ (by decide) (by decide) (k0 (fun o => by unfold unP at o; rcases o with o | o | o | o <;> simp_all))))
  · exact step 3 0 0 (by decide) (by decide) (fun e => k1 (Or.inr (Or.inl e))) (by decide) (fun n1 => step 0 (-1) _ (by decide) (by decide) (fun e => k1 (Or.inl e.symm)) (by decide) (fun n0 => fin _ _ (by decide) (by decide) (k0 (fun o => by unfold unP at o; rcases o with o | o | o | o <;> simp_all))))
  · exact step 4 1 0 (by decide) (by decide) (fun e => k1 (Or.inr (Or.inl e))) (by decide) (fun n1 => step 1 0 _ (by decide) (by decide) (fun e => k1 (Or.inr (Or.inr (Or.inl ⟨e.symm, rfl⟩)))) (by decide) (fun n2 => step 0 (-1) _ (by decide) (by decide) (fun e => k1 (Or.inl e.symm)) (by decide) (fun n0 => fin _ _ (by decide) (by decide) (k0 (fun o => by unfold unP at o; rcases o with o | o | o | o <;> simp_all)))))
  · exact step 5 2 0 (by decide) (by decide) (fun e => k1 (Or.inr (Or.inl e))) (by decide) (fun n1 => step 2 0 _ (by decide) (by decide) (fun e => k1 (Or.inr (Or.inr (Or.inr ⟨e.symm, rfl⟩)))) (by decide) (fun n2 => step 0 (-1) _ (by decide) (by decide) (fun e => k1 (Or.inl e.symm)) (by decide) (fun n0 => fin _ _ (by decide) (by decide) (k0 (fun o => by unfold unP at o; rcases o with o | o | o | o <;> simp_all)))))
  · exact step 6 0 0 (by decide) (by decide) (fun e => k1 (Or.inr (Or.inl e))) (by decide) (fun n1 => step 0 (-1) _ (by decide) (by decide) (fun e => k1 (Or.inl e.symm)) (by decide) (fun n0 => fin _ _ (by decide) (by decide) (k0 (fun o => by unfold unP at o; rcases o with o | o | o | o <;> simp_all))))
  · exact absurd hx.2 (by decide)
set_option maxHeartbeats 4000000 in
theorem c_X6_isUnder {sh : List Shp} {ta : Nat → Nat → Option Nat} (hG : fl G = false) (hd : 1 ≤ d) (k1 : unP x y → K (some (.int 1)) m) (k0 : ¬ unP x y → K (some (.int 0)) m) : Cal G mX6_isUnder d [.int x, .int y] sh ta m K := by
  obtain ⟨d, rfl⟩ : ∃ e, d = e + 1 := ⟨d - 1, by omega⟩
  refine Cal.of (by decide +kernel) rfl (Nat.le_of_ble_eq_true rfl) (rg_X6_isUnder_0 hG x y ⟨fun c => k1 (Or.inl c), fun c0 => ⟨fun c => k1 (Or.inr (Or.inl c)), fun c1 => ⟨fun c2 => ⟨fun c3 => k0 (fun o => o.elim c0 (fun o => o.elim c1 (fun o => o.elim (fun o => c2 o.1) (fun o => c3 o.1)))), fun c3 => ⟨fun c4 => k0 (fun o => o.elim c0 (fun o => o.elim c1 (fun o => o.elim (fun o => c2 o.1) (fun o => c4 o.2)))), fun c4 => k1 (Or.inr (Or.inr (Or.inr ⟨c3, c4⟩)))⟩⟩, fun c2 => ⟨fun c3 => k1 (Or.inr (Or.inr (Or.inl ⟨c2, c3⟩))), fun c3 => ⟨fun c4 => k0 (fun o => o.elim c0 (fun o => o.elim c1 (fun o => o.elim (fun o => c3 o.2) (fun o => c4 o.1)))), fun c4 => absurd (c2.symm.trans c4) (by decide)⟩⟩⟩⟩⟩)
end

