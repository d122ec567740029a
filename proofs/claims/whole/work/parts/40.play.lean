-- 40.play
section
variable {G : Gm} {d t n i : Nat} {m : Mem} {K : Option Value → Mem → Prop}
set_option maxHeartbeats 4000000 in
theorem c_X5_isAhead (hG : fl G = false) (hd : 1 ≤ d) {x : Int32}  (k : K (some (.int (if 1 ≤ x ∧ x ≤ 3 then 1 else 0))) m) : Cal G mX5_isAhead d [.int x] SH (TA t n i) m K := by
  obtain ⟨d, rfl⟩ : ∃ e, d = e + 1 := ⟨d - 1, by omega⟩
  refine Cal.of (by decide +kernel) rfl (Nat.le_of_ble_eq_true rfl) (rg_X5_isAhead_0 hG (x) ?_)
  refine ⟨fun c1 => ?_, fun c1 => ?_⟩
  · first | exact k | exact kv k (by grind)
  · refine ⟨fun c2 => ?_, fun c2 => ?_⟩
    · first | exact k | exact kv k (by grind)
    · first | exact k | exact kv k (by grind)
set_option maxHeartbeats 4000000 in
theorem c_X5_refuse (hG : fl G = false) (hd : 1 ≤ d) {x : Int32} (h1 : 1 ≤ x ∧ x < 7) (k : K (some (.int (-1000000000 - x))) (set1 m 34 (wr (m 34) x (rd (m 34) x + 1)))) : Cal G mX5_refuse d [.ref 0, .int x] SH (TA t n i) m K := by
  obtain ⟨d, rfl⟩ : ∃ e, d = e + 1 := ⟨d - 1, by omega⟩
  refine Cal.of (by decide +kernel) rfl (Nat.le_of_ble_eq_true rfl) (rg_X5_refuse_0 hG (0) (x) ?_)
  refine ⟨fun c1 => ?_, fun c1 => ?_⟩
  · first | (rw [upa_set]; exact k) | exact absurd (show (7 : Int32) ≤ x from by assumption) (Int32.not_le.mpr h1.2) | exact absurd (show x < 0 from by assumption) (Int32.not_lt.mpr (Int32.le_trans (by decide) h1.1))
  · refine ⟨(by first | assumption | rfl), ?_⟩
    refine ⟨_, (by first | assumption | rfl), ?_⟩
    refine ⟨_, (by first | assumption | rfl), ?_⟩
    refine ⟨fun c7 => ?_, fun c7 => ?_⟩
    · first | (rw [upa_set]; exact k) | exact absurd (show (7 : Int32) ≤ x from by assumption) (Int32.not_le.mpr h1.2) | exact absurd (show x < 0 from by assumption) (Int32.not_lt.mpr (Int32.le_trans (by decide) h1.1))
    · refine ⟨(by (first | assumption | (apply ib502 <;> grind) | (apply ib16 <;> grind) | (apply ib80 <;> grind) | (apply ib672 <;> grind) | (apply ib64 <;> grind) | (apply ib128 <;> grind) | (apply ib124 <;> grind) | (apply ib96 <;> grind) | (apply ib24 <;> grind) | (apply ib60 <;> grind) | (apply ib30 <;> grind) | (apply ib28 <;> grind) | (apply ib7 <;> grind) | (apply ib4 <;> grind) | (apply ib3 <;> grind) | (exact inb (by grind) (by grind) (by omega)))), ?_⟩
      refine ⟨(by (first | assumption | (apply ib502 <;> grind) | (apply ib16 <;> grind) | (apply ib80 <;> grind) | (apply ib672 <;> grind) | (apply ib64 <;> grind) | (apply ib128 <;> grind) | (apply ib124 <;> grind) | (apply ib96 <;> grind) | (apply ib24 <;> grind) | (apply ib60 <;> grind) | (apply ib30 <;> grind) | (apply ib28 <;> grind) | (apply ib7 <;> grind) | (apply ib4 <;> grind) | (apply ib3 <;> grind) | (exact inb (by grind) (by grind) (by omega)))), ?_⟩
      rintro _ rfl
      first | (rw [upa_set]; exact k) | exact absurd (show (7 : Int32) ≤ x from by assumption) (Int32.not_le.mpr h1.2) | exact absurd (show x < 0 from by assumption) (Int32.not_lt.mpr (Int32.le_trans (by decide) h1.1))
set_option maxHeartbeats 4000000 in
theorem c_X6_game (hG : fl G = false) (hd : 13 ≤ d) {x y : Int32} (h1 : WF (m 76)) (k : (1 ≤ x ∧ x ≤ 3 ∧ 0 ≤ y ∧ y ≤ 1 → ∀ m', Fr [75, 78, 81, 82] m m' → (∀ j, j ≠ 13 → m' 75 j = m 75 j) → K (some (.int (if y = 0 then (vbA x.toNatClampNeg (m 76)).2 else (vbA x.toNatClampNeg (m 76)).1))) m') ∧ (¬ (1 ≤ x ∧ x ≤ 3 ∧ 0 ≤ y ∧ y ≤ 1) → K (some (.int (-1000000001))) (set1 m 79 (wr (m 79) 1 (rd (m 79) 1 + 1))))) : Cal G mX6_game d [.ref 75, .int x, .int y] SH (TA t n i) m K := by
  obtain ⟨k1, k2⟩ := k
  obtain ⟨d, rfl⟩ : ∃ e, d = e + 1 := ⟨d - 1, by omega⟩
  refine Cal.of (by decide +kernel) rfl (Nat.le_of_ble_eq_true rfl) (rg_X6_game_0 hG 75 x y ?_)
  refine c_X6_in hG (by omega) ⟨_, rfl, fun z => ?_, fun z => ?_⟩
  · have hx : ¬ (1 ≤ x ∧ x ≤ 3) := fun h => absurd (if_pos h ▸ z) (by decide)
    exact ⟨rfl, c_X6_error hG (by omega) (by decide) ⟨_, rfl, k2 (fun h => hx ⟨h.1, h.2.1⟩)⟩⟩
  · have hx : 1 ≤ x ∧ x ≤ 3 := Decidable.byContradiction fun h => z (if_neg h)
    refine c_X6_in hG (by omega) ⟨_, rfl, fun y0 => ?_, fun y0 => ?_⟩
    · have hy : 0 ≤ y ∧ y ≤ 1 := Decidable.byContradiction fun h => y0 (if_neg h)
      have hn : x.toNatClampNeg ≤ 3 ∧ x.toNatClampNeg ≠ 0 := by
        have a := Int32.le_iff_toInt_le.mp hx.1
        have b := Int32.le_iff_toInt_le.mp hx.2
        rw [show (1 : Int32).toInt = 1 from rfl] at a
        rw [show (3 : Int32).toInt = 3 from rfl] at b
        show x.toInt.toNat ≤ 3 ∧ x.toInt.toNat ≠ 0
        omega
      have hv := c_X6_value (G := G) (n := n) (i := i) (t0 := t) hG x.toNatClampNeg 0 d m
      rw [Nat.zero_add, ← o_of (Int32.le_trans (by decide) hx.1)] at hv
      refine ⟨rfl, hv _ (by omega) hn.1 h1 (fun m' hf h75 _ hr => ⟨_, rfl, fun c => ?_, fun c => ?_⟩)⟩
      · have := k1 ⟨hx.1, hx.2, hy.1, hy.2⟩ m' hf h75
        rw [if_neg c] at this
        rw [hr hn.2]
        exact this
      · have := k1 ⟨hx.1, hx.2, hy.1, hy.2⟩ m' hf h75
        rw [if_pos c] at this
        exact this
    · have hy : ¬ (0 ≤ y ∧ y ≤ 1) := fun h => absurd (if_pos h ▸ y0) (by decide)
      exact ⟨rfl, c_X6_error hG (by omega) (by decide) ⟨_, rfl, k2 (fun h => hy ⟨h.2.2.1, h.2.2.2⟩)⟩⟩
set_option maxHeartbeats 4000000 in
theorem c_X5_game {G : Gm} {t n i : Nat} (hG : fl G = false) {d : Nat} {m : Mem} {K : Option Value → Mem → Prop} {f : Nat → Int32} {x y : Int32} (hd : 17 ≤ d) (hb : RB m 35 44 f) (ht : RT m 36 40 f) (hw : WF f) (k1 : 1 ≤ x ∧ x ≤ 3 ∧ 0 ≤ y ∧ y ≤ 1 → ∀ m', Fr [36, 39, 40, 43, 67, 68, 69, 70, 71, 72, 73, 74] m m' → K (some (.int (if y = 0 then (vbA x.toNatClampNeg f).2 else (vbA x.toNatClampNeg f).1))) m') (k2 : ¬ (1 ≤ x ∧ x ≤ 3 ∧ 0 ≤ y ∧ y ≤ 1) → K (some (.int (-1000000001))) (set1 m 34 (wr (m 34) 1 (rd (m 34) 1 + 1)))) : Cal G mX5_game d [.ref 0, .int x, .int y] SH (TA t n i) m K := by
  obtain ⟨d, rfl⟩ : ∃ e, d = e + 1 := ⟨d - 1, by omega⟩
  refine Cal.of (by decide +kernel) rfl (Nat.le_of_ble_eq_true rfl) (rg_X5_game_0 hG 0 x y ?_)
  refine c_X5_isAhead hG (by omega) ⟨_, rfl, fun z => ?_, fun z => ?_⟩
  · have hx : ¬ (1 ≤ x ∧ x ≤ 3) := fun h => absurd (if_pos h ▸ z) (by decide)
    exact ⟨rfl, c_X5_refuse hG (by omega) (by decide) ⟨_, rfl, k2 (fun h => hx ⟨h.1, h.2.1⟩)⟩⟩
  have hx : 1 ≤ x ∧ x ≤ 3 := Decidable.byContradiction fun h => z (if_neg h)
  refine ⟨fun y0 => ⟨rfl, c_X5_refuse hG (by omega) (by decide) ⟨_, rfl, k2 (fun h => absurd y0 (Int32.not_lt.mpr h.2.2.1))⟩⟩, fun y0 => ⟨fun y1 => ?_, fun y1 => ⟨rfl, c_X5_refuse hG (by omega) (by decide) ⟨_, rfl, k2 (fun h => y1 h.2.2.2)⟩⟩⟩⟩
  have hy := Int32.not_lt.mp y0
  obtain ⟨r, hr, hr2⟩ : ∃ r : Nat, x = Int32.ofNat (r + 1) ∧ r ≤ 2 := by
    have a := Int32.le_iff_toInt_le.mp hx.1
    have b := Int32.le_iff_toInt_le.mp hx.2
    rw [show (1 : Int32).toInt = 1 from rfl] at a
    rw [show (3 : Int32).toInt = 3 from rfl] at b
    have e := o_of (Int32.le_trans (by decide) hx.1 : 0 ≤ x)
    have e2 : x.toNatClampNeg = x.toInt.toNat := rfl
    exact ⟨x.toNatClampNeg - 1, by rw [show x.toNatClampNeg - 1 + 1 = x.toNatClampNeg by omega]; exact e, by omega⟩
  subst hr
  have kk := k1 ⟨hx.1, hx.2, hy, y1⟩
  rw [tn_o (by omega)] at kk
  refine ⟨rfl, 67, rfl, 35, rfl, rfl, c_X0_copyFrom hG (by omega) B67 B35 hb hw.1 hw.2.1 ⟨by decide, Or.inl (by decide)⟩ (fun m1 hf1 hb1 _ _ => ⟨rfl, ?_⟩)⟩
  have ht1 : RT m1 36 40 f := ht.fr hf1 (by decide) (by decide) (by decide) (by decide)
  have hloop : ∀ (q : Nat), q ≤ 14 → ∀ (m' : Mem) (bb vv : Int32), Fr [36, 39, 40, 43, 67, 71, 72, 73, 74] m1 m' → RB m' 67 68 f → bb ≠ -1 → bb ≠ 0 → vbA (r + 1) f = mxl (gnA r f) bb vv (Int32.ofNat (16 - q)) q → (∀ j : Nat, 1 ≤ j → j < 16 - q → gnA r f (Int32.ofNat j) ≤ vv) → WP G (rmD (d + 1) 0 0) mX5_game (QC G SH (TA t n i) K) 0 0 41 [(0, .ref 0), (1, .int (Int32.ofNat (r + 1))), (2, .int y), (3, .int vv), (4, .int bb), (5, .int (Int32.ofNat (16 - q)))] [] (SH, TA t n i, m') := by
    intro q
    induction q with
    | zero =>
      intro _ m' bb vv hf hb' _ _ hres _
      have hn : vbA (r + 1) f = (bb, vv) := hres
      have := kk m' ((hf1.mo (by simp)).tr (hf.mo (by simp)))
      rw [hn] at this
      refine rg_X5_game_41 hG 0 (Int32.ofNat (r + 1)) y vv bb _ ⟨fun _ => ⟨fun c => ?_, fun c => ?_⟩, fun c => absurd (Int32.le_refl _) c⟩
      · rw [if_neg c] at this; exact this
      · rw [if_pos c] at this; exact this
    | succ q ihq =>
      intro hq m' bb vv hf hb' hbb hb0 hres hle
      have hc : 1 ≤ Int32.ofNat (16 - (q + 1)) ∧ Int32.ofNat (16 - (q + 1)) ≤ 15 := ⟨(o_le (a := 1) (by decide) (by omega)).mpr (by omega), (o_le (b := 15) (by omega) (by decide)).mpr (by omega)⟩
      have ec : Int32.ofNat (16 - (q + 1)) + 1 = Int32.ofNat (16 - q) := by rw [o_1]; congr 1; omega
      have hle2 : ∀ e, 1 ≤ e → e < Int32.ofNat (16 - (q + 1)) → gnA r f e ≤ vv := by
        intro e he1 he2
        have eo := o_of (Int32.le_trans (by decide) he1)
        have hbd : e.toNatClampNeg < 2147483648 := by
          have := Int32.toInt_lt e
          show e.toInt.toNat < _
          omega
        rw [eo, show (1 : Int32) = Int32.ofNat 1 from rfl, o_le (by decide) hbd] at he1
        rw [eo, o_lt hbd (by omega)] at he2
        have := hle e.toNatClampNeg he1 he2
        rw [← eo] at this
        exact this
      have nx : ∀ v2 : Int32, vv ≤ v2 → gnA r f (Int32.ofNat (16 - (q + 1))) ≤ v2 → ∀ j : Nat, 1 ≤ j → j < 16 - q → gnA r f (Int32.ofNat j) ≤ v2 := by
        intro v2 h1 h2 j a b
        by_cases e : j = 16 - (q + 1)
        · rw [e]; exact h2
        · exact Int32.le_trans (hle j a (by omega)) h1
      have ht' : RT m' 36 40 f := ht1.fr hf (by decide) (by decide) (by decide) (by decide)
      simp only [mxl] at hres
      rw [ec] at hres
      generalize Int32.ofNat (16 - (q + 1)) = c at *
      refine rg_X5_game_41 hG 0 (Int32.ofNat (r + 1)) y vv bb c ⟨fun z => absurd (Int32.le_trans z hc.2) (by decide), fun _ => ⟨rfl, 67, rfl, c_X5_isLikeOneAhead hG (by omega) hb' hw.2.1 hc (fun v hv => ⟨_, rfl, fun v0 => ?_, fun v0 => ?_⟩)⟩⟩
      · refine gain_all hG r (by omega) d (by omega) f c m' _ hb' ht' hw hc (fun m2 hf2 hb2 => ⟨_, rfl, fun z => absurd z hb0, fun _ => ⟨fun hlt => ?_, fun hlt => ?_⟩⟩)
        · rw [if_neg (fun o => o.elim hbb (fun o => absurd hlt (Int32.not_le.mpr o)))] at hres
          rw [ec]
          exact ihq (by omega) m2 bb vv (hf.tr hf2) hb2 hbb hb0 hres (nx _ (Int32.le_refl _) hlt)
        · have hlt := Int32.not_le.mp hlt
          rw [if_pos (Or.inr hlt)] at hres
          rw [ec]
          exact ihq (by omega) m2 c _ (hf.tr hf2) hb2 (fun z => by rw [z] at hc; exact absurd hc.1 (by decide)) (fun z => by rw [z] at hc; exact absurd hc.1 (by decide)) hres (nx _ (Int32.le_of_lt hlt) (Int32.le_refl _))
      · rcases hv with z | ⟨-, z0, e, e1, e2, e3⟩
        · exact absurd z v0
        · have hlt : gnA r f c ≤ vv := by rw [gnA_e z0 e3]; exact hle2 e e1 e2
          rw [if_neg (fun o => o.elim hbb (fun o => absurd hlt (Int32.not_le.mpr o)))] at hres
          rw [ec]
          exact ihq (by omega) m' bb vv hf hb' hbb hb0 hres (nx vv (Int32.le_refl _) hlt)
  refine rg_X5_game_41 hG 0 (Int32.ofNat (r + 1)) y 0 0 1 ⟨fun z => absurd z (by decide), fun _ => ⟨rfl, 67, rfl, c_X5_isLikeOneAhead hG (by omega) hb1 hw.2.1 (by decide) (fun v hv => ⟨_, rfl, fun v0 => ?_, fun v0 => ?_⟩)⟩⟩
  · refine gain_all hG r (by omega) d (by omega) f 1 m1 _ hb1 ht1 hw (by decide) (fun m2 hf2 hb2 => ⟨_, rfl, fun _ => ?_, fun z => absurd rfl z⟩)
    have e0 : vbA (r + 1) f = mxl (gnA r f) 1 (gnA r f 1) (1 + 1) 14 := mxl_1
    have e1 : (1 : Int32) + 1 = Int32.ofNat (16 - 14) := by decide
    rw [e1] at e0
    refine hloop 14 (Nat.le_refl _) m2 1 _ hf2 hb2 (by decide) (by decide) e0 (fun j a b => ?_)
    have : j = 1 := by omega
    rw [this]
    exact Int32.le_refl _
  · rcases hv with z | ⟨-, z0, e, e1, e2, e3⟩
    · exact absurd z v0
    · exact absurd e1 (Int32.not_le.mpr e2)
end

