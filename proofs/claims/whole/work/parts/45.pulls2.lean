-- 45.pulls2
set_option maxHeartbeats 4000000 in
theorem pen {p : Int32} (h0 : 0 ≤ p) (h1 : p ≤ 99999) : (if p + 1 < 99999 then p + 1 else 99999) = hld (p + 1) 0 99999 ∧ 0 ≤ hld (p + 1) 0 99999 ∧ hld (p + 1) 0 99999 ≤ 99999 := by
  unfold hld
  have e : (p + 1).toInt = p.toInt + 1 := ti1 h0 (Int32.le_trans h1 (by decide))
  have a := Int32.le_iff_toInt_le.mp h0
  have b := Int32.le_iff_toInt_le.mp h1
  rw [show (0 : Int32).toInt = 0 from rfl] at a
  rw [show (99999 : Int32).toInt = 99999 from rfl] at b
  have n0 : ¬ p + 1 < 0 := fun q => by
    have q := Int32.lt_iff_toInt_lt.mp q
    rw [e, show (0 : Int32).toInt = 0 from rfl] at q
    omega
  rw [if_neg n0]
  by_cases h : (99999 : Int32) < p + 1
  · rw [if_pos h, if_neg (fun q => absurd (Int32.lt_trans q h) (Int32.lt_irrefl))]
    decide
  · rw [if_neg h]
    have h' := Int32.not_lt.mp h
    refine ⟨?_, Int32.not_lt.mp n0, h'⟩
    by_cases h2 : p + 1 < 99999
    · rw [if_pos h2]
    · rw [if_neg h2]
      exact Int32.le_antisymm (Int32.not_lt.mp h2) h'
-- the row of sheet x
def rwN (z u : Nat → Int32) (x : Int32) : Nat := rwf (fun j => u (24 * x.toNatClampNeg + j)) 0 (rd z x).toNatClampNeg
def puF (z u : Nat → Int32) (x : Int32) (f : Nat → Int32) : Nat → Int32 := pls (fun j => u (24 * x.toNatClampNeg + j)) f 0 (rwN z u x)
set_option maxHeartbeats 4000000 in
theorem c_X6_pulls {G : Gm} {t n i : Nat} (hG : fl G = false) {d : Nat} {x : Int32} {m : Mem} {K : Option Value → Mem → Prop} (hd : 9 ≤ d) (hz : ShZ (m 86)) (hw : WF (m 76)) (k1 : lkS (m 85) x = 0 → ∀ m', Fr [76, 81, 82] m m' → m' 76 = puF (m 86) (m 87) x (m 76) → K (some (.int (Int32.ofNat (rwN (m 86) (m 87) x)))) m') (k2 : lkS (m 85) x ≠ 0 → K (some (.int (-1000000000 - lkS (m 85) x))) (set1 m 79 (wr (m 79) (lkS (m 85) x) (rd (m 79) (lkS (m 85) x) + 1)))) : Cal G mX6_pulls d [.ref 75, .int x] SH (TA t n i) m K := by
  obtain ⟨d, rfl⟩ : ∃ e, d = e + 1 := ⟨d - 1, by omega⟩
  refine Cal.of (by decide +kernel) rfl (Nat.le_of_ble_eq_true rfl) (rg_X6_pulls_0 hG 75 x ⟨rfl, c_X6_lacks hG (by omega) ⟨_, rfl, fun q => ?_, fun q => ?_⟩⟩)
  · have q := lkS_p.mp q
    have kk := k1 q
    obtain ⟨xx, hx, rfl, -⟩ := lkS_0 q
    obtain ⟨zz, hzz, ez⟩ := hz xx hx
    unfold puF rwN at kk
    rw [tn_o (by omega), rd_o (by omega), ez, tn_o (by omega)] at kk
    refine c_X6_rowOf hG (by omega) hx ez hzz ⟨_, rfl, ?_⟩
    have e24 : ∀ c : Nat, (24 : Int32) * Int32.ofNat xx + Int32.ofNat c = Int32.ofNat (24 * xx + c) := fun c => by
      rw [show (24 : Int32) = Int32.ofNat 24 from rfl, o_mul, Int32.ofNat_add]
    have hN := rwf_le (w := fun j => m 87 (24 * xx + j)) zz 0
    have hin := rwf_in (w := fun j => m 87 (24 * xx + j)) zz 0
    generalize hNe : rwf (fun j => m 87 (24 * xx + j)) 0 zz = N at *
    have hloop : ∀ (r c : Nat), c + r = N → ∀ (m' : Mem), Fr [76, 81, 82] m m' → WF (m' 76) → pls (fun j => m 87 (24 * xx + j)) (m 76) 0 N = pls (fun j => m 87 (24 * xx + j)) (m' 76) c r → WP G (rmD (d + 1) 0 0) mX6_pulls (QC G SH (TA t n i) K) 0 0 25 [(0, .ref 75), (1, .int (Int32.ofNat xx)), (3, .int (Int32.ofNat N)), (4, .int (Int32.ofNat c))] [] (SH, TA t n i, m') := by
      intro r
      induction r with
      | zero =>
        intro c hc m' hf hw' hres
        refine rg_X6_pulls_25 hG 75 _ _ _ ⟨fun _ => kk m' hf hres.symm, fun q => absurd ?_ q⟩
        rw [o_le (by omega) (by omega)]
        omega
      | succ r ih =>
        intro c hc m' hf hw' hres
        have hlt : ¬ Int32.ofNat N ≤ Int32.ofNat c := fun q => by
          rw [o_le (by omega) (by omega)] at q
          omega
        have hp0 : 1 ≤ m 87 (24 * xx + c) ∧ m 87 (24 * xx + c) ≤ 15 := hin c (by omega) (by omega)
        simp only [pls] at hres
        refine rg_X6_pulls_25 hG 75 _ _ _ ⟨fun q => absurd q hlt, fun _ => ⟨rfl, 87, rfl, 96, rfl, ?_⟩⟩
        rw [e24, rd_o (by omega), hf 87 (by decide), o_1]
        refine ⟨ib_o (by omega) (by decide), c_X6_pulls1 hG (by omega) hw' hp0 (fun m2 hf2 e2 => ⟨_, rfl, ?_⟩)⟩
        exact ih (c + 1) (by omega) m2 (hf.tr (hf2.mo (by simp))) (by rw [e2]; exact (pul_ok hw' hp0).1) (by rw [e2]; exact hres)
    exact hloop N 0 (by omega) m Fr.rf hw rfl
  · have q : lkS (m 85) x ≠ 0 := fun e => q (lkS_p.mpr e)
    have hn := lkS_n q
    exact c_X6_error hG (by omega) ⟨Int32.le_trans (by decide) hn.1, hn.2⟩ ⟨_, rfl, k2 q⟩
set_option maxHeartbeats 4000000 in
theorem c_X5_pulls {G : Gm} {t n i : Nat} (hG : fl G = false) {d : Nat} {x : Int32} {m : Mem} {K : Option Value → Mem → Prop} {f g z u : Nat → Int32} (hd : 9 ≤ d) (hs : ShC m g z u) (hz : ShZ z) (hb : RB m 35 44 f) (ht : RT m 36 40 f) (hw : WF f) (hpn : m 35 13 = rd f 1 ∧ 0 ≤ rd f 1 ∧ rd f 1 ≤ 99999) (k1 : lkS g x = 0 → ∀ m', Fr [35, 36, 39, 47, 48, 49, 50] m m' → RB m' 35 44 (puF z u x f) → m' 35 13 = rd (puF z u x f) 1 → m' 35 14 = m 35 14 → K (some (.int (Int32.ofNat (rwN z u x)))) m') (k2 : lkS g x ≠ 0 → K (some (.int (-1000000000 - lkS g x))) (set1 m 34 (wr (m 34) (lkS g x) (rd (m 34) (lkS g x) + 1)))) : Cal G mX5_pulls d [.ref 0, .int x] SH (TA t n i) m K := by
  obtain ⟨d, rfl⟩ : ∃ e, d = e + 1 := ⟨d - 1, by omega⟩
  have hl := lkS_eq (x := x) hs
  refine Cal.of (by decide +kernel) rfl (Nat.le_of_ble_eq_true rfl) (rg_X5_pulls_0 hG 0 x ⟨rfl, c_X5_lackOf hG (by omega) ⟨_, rfl, fun q => ?_, fun q => ?_⟩⟩)
  · rw [hl] at q
    have kk := k1 q
    obtain ⟨xx, h4, rfl, -⟩ := lkS_0 q
    obtain ⟨zz, hzz, ez⟩ := hz xx h4
    obtain ⟨r1, r2, r3, r4⟩ := rowS (t := t) (n := n) (i := i) xx h4
    have hu : ∀ j, j < zz → m (24 + 2 * xx + 1) j = u (24 * xx + j) := fun j hj => (hs xx h4).2.2 j (by rw [ez]; exact (o_lt (by omega) (by omega)).mpr hj) (by omega)
    have er : rwf (m (24 + 2 * xx + 1)) 0 zz = rwf (fun j => u (24 * xx + j)) 0 zz := rwf_eq zz 0 (fun j _ hj => hu j (by omega))
    unfold puF rwN at kk
    rw [tn_o (by omega), rd_o (by omega), ez, tn_o (by omega), ← er, ← pls_eq (w := m (24 + 2 * xx + 1)) (v := fun j => u (24 * xx + j)) _ 0 f (fun j _ hj => hu j (by have := rwf_le (w := m (24 + 2 * xx + 1)) zz 0; omega))] at kk
    have em : m (24 + 2 * xx) 1 = Int32.ofNat zz := by rw [(hs xx h4).2.1, ez]
    refine ⟨23, rfl, 4, rfl, ib_o h4 (by decide), 24 + 2 * xx, by rw [tn_o (by omega)]; exact r4, c_X5_pullsIn hG (by omega) r1 r2 r3 em hzz ⟨_, rfl, ?_⟩⟩
    have hN := rwf_le (w := m (24 + 2 * xx + 1)) zz 0
    have hin := rwf_in (w := m (24 + 2 * xx + 1)) zz 0
    generalize hNe : rwf (m (24 + 2 * xx + 1)) 0 zz = N at *
    have hloop : ∀ (r c : Nat), c + r = N → ∀ (m' : Mem) (h : Nat → Int32), Fr [35, 36, 39, 47, 48, 49, 50] m m' → RB m' 35 44 h → RT m' 36 40 h → WF h → (m' 35 13 = rd h 1 ∧ 0 ≤ rd h 1 ∧ rd h 1 ≤ 99999) → m' 35 14 = m 35 14 → pls (m (24 + 2 * xx + 1)) f 0 N = pls (m (24 + 2 * xx + 1)) h c r → WP G (rmD (d + 1) 0 0) mX5_pulls (QC G SH (TA t n i) K) 0 0 32 [(0, .ref 0), (3, .ref (24 + 2 * xx)), (4, .int (Int32.ofNat N)), (5, .int (Int32.ofNat c))] [] (SH, TA t n i, m') := by
      intro r
      induction r with
      | zero =>
        intro c hc m' h hf hb' _ _ hp' h14 hres
        have hres : pls (m (24 + 2 * xx + 1)) f 0 N = h := hres
        rw [hres] at kk
        refine rg_X5_pulls_32 hG 0 _ _ _ ⟨fun _ => kk m' hf hb' hp'.1 h14, fun q => absurd ?_ q⟩
        rw [o_le (by omega) (by omega)]
        omega
      | succ r ih =>
        intro c hc m' h hf hb' ht' hw' hp' h14 hres
        have hlt : ¬ Int32.ofNat N ≤ Int32.ofNat c := fun q => by
          rw [o_le (by omega) (by omega)] at q
          omega
        have hp0 : 1 ≤ m (24 + 2 * xx + 1) c ∧ m (24 + 2 * xx + 1) c ≤ 15 := hin c (by omega) (by omega)
        have e0 : m' (24 + 2 * xx) = m (24 + 2 * xx) := hf _ (by simp; omega)
        have e1 : m' (24 + 2 * xx + 1) = m (24 + 2 * xx + 1) := hf _ (by simp; omega)
        simp only [pls] at hres
        refine rg_X5_pulls_32 hG 0 _ _ _ ⟨fun q => absurd q hlt, fun _ => ⟨rfl, 35, rfl, r1, c_X2_at hG (by omega) r1 r2 r3 (by rw [e0, em]; exact (o_le (by omega) (by omega)).mpr hzz) (by decide) ⟨_, rfl, rfl, ?_⟩⟩⟩
        rw [if_pos ⟨o_0 c (by omega), by rw [e0, em]; exact (o_lt (by omega) (by omega)).mpr (by omega)⟩, rd_o (by omega), e1, o_1]
        generalize m (24 + 2 * xx + 1) c = p at *
        have hp := pul_ok hw' hp0
        refine c_X0_grip hG (by omega) B35 hb' ht' hw' hp0 (fun m2 hf2 hr2 e13 e14 _ => ⟨_, rfl, ?_⟩)
        have ht2 : RT m2 36 40 (pulA h p) := (ht'.fr hf2 (by decide) (by decide) (by decide) (by decide)).hi hp.2.2.1 hw'.2.2.2.1 hw'.2.2.2.2
        have hpe := pen hp'.2.1 hp'.2.2
        refine ih (c + 1) (by omega) m2 _ (hf.tr (hf2.mo (by simp))) hr2 ht2 hp.1 ⟨?_, ?_, ?_⟩ (by rw [e14, h14]) hres
        · rw [e13, hp'.1, hpe.1, hp.2.2.2.2.1]
        · rw [hp.2.2.2.2.1]; exact hpe.2.1
        · rw [hp.2.2.2.2.1]; exact hpe.2.2
    exact hloop N 0 (by omega) m f Fr.rf hb ht hw hpn rfl rfl
  · rw [hl] at q ⊢
    have hn := lkS_n q
    exact c_X5_refuse hG (by omega) hn ⟨_, rfl, k2 q⟩

