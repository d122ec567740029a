-- 38.game
def mxl (g : Int32 → Int32) (b v c : Int32) (k : Nat) : Int32 × Int32 := match k with
  | 0 => (b, v)
  | j + 1 => if b = -1 ∨ v < g c then mxl g c (g c) (c + 1) j else mxl g b v (c + 1) j
def vbA (n : Nat) (f : Nat → Int32) : Int32 × Int32 := match n with
  | 0 => (-1, 0)
  | k + 1 => mxl (fun c => (if doe f c = 2 then lks f (upm f c) else 0) - (vbA k (pulA f c)).2) (-1) 0 1 15
def gnA (r : Nat) (f : Nat → Int32) (c : Int32) : Int32 := (if doe f c = 2 then lks f (upm f c) else 0) - (vbA r (pulA f c)).2
set_option maxHeartbeats 4000000 in
theorem lks_pul {f : Nat → Int32} {c t : Int32} (w : WF f) (hc : 1 ≤ c ∧ c ≤ 15) (ht : 0 ≤ t ∧ t < 16) : lks (pulA f c) t = lks f t := by
  have hp := pul_ok w hc
  obtain ⟨-, -, -, -, w5⟩ := w
  obtain ⟨e0, e1, e2⟩ := hp.2.2.2.2.2.2 t ht.1 ht.2
  unfold lks
  rw [e0, e1, e2, (tx_hi hp.2.2.1 (Or.inr rfl)).1, tE_hi hp.2.2.1 (Or.inr rfl) w5]
set_option maxHeartbeats 4000000 in
theorem c_X6_value {G : Gm} {n i t0 : Nat} (hG : fl G = false) : ∀ (r ii d : Nat) (m : Mem) (K : Option Value → Mem → Prop), 9 + r ≤ d → ii + r ≤ 3 → WF (m 76) → (∀ m', Fr [75, 78, 81, 82] m m' → (∀ j, j ≠ 13 → m' 75 j = m 75 j) → (∀ j, j < 168 * ii → m' 78 j = m 78 j) → (r ≠ 0 → m' 75 13 = (vbA r (m 76)).1) → K (some (.int (vbA r (m 76)).2)) m') → Cal G mX6_value d [.ref 75, .int (Int32.ofNat ii), .int (Int32.ofNat (ii + r))] SH (TA t0 n i) m K := by
  intro r
  induction r with
  | zero =>
    intro ii d m K hd hr hw k
    obtain ⟨d, rfl⟩ : ∃ e, d = e + 1 := ⟨d - 1, by omega⟩
    exact Cal.of (by decide +kernel) rfl (Nat.le_of_ble_eq_true rfl) (rg_X6_value_0 hG 75 (Int32.ofNat ii) (Int32.ofNat (ii + 0)) ⟨fun c => absurd rfl c, fun _ => k m Fr.rf (fun _ _ => rfl) (fun _ _ => rfl) (fun z => absurd rfl z)⟩)
  | succ r ih =>
    intro ii d m K hd hr hw k
    obtain ⟨d, rfl⟩ : ∃ e, d = e + 1 := ⟨d - 1, by omega⟩
    have hloop : ∀ (q : Nat), q ≤ 15 → ∀ (m' : Mem) (bb vv : Int32), Fr [75, 78, 81, 82] m m' → (∀ j, j ≠ 13 → m' 75 j = m 75 j) → (∀ j, j < 168 * ii → m' 78 j = m 78 j) → (∀ j, j < 168 → m' 78 (168 * ii + j) = m 76 j) → vbA (r + 1) (m 76) = mxl (gnA r (m 76)) bb vv (Int32.ofNat (16 - q)) q → WP G (rmD (d + 1) 0 0) mX6_value (QC G SH (TA t0 n i) K) 0 0 20 [(0, .ref 75), (1, .int (Int32.ofNat ii)), (2, .int (Int32.ofNat (ii + (r + 1)))), (3, .int bb), (4, .int vv), (5, .int (Int32.ofNat (16 - q)))] [] (SH, TA t0 n i, m') := by
      intro q
      induction q with
      | zero =>
        intro _ m' bb vv hf h75 hl1 hl2 hres
        have hn : vbA (r + 1) (m 76) = (bb, vv) := hres
        refine rg_X6_value_20 hG 75 (Int32.ofNat ii) (Int32.ofNat (ii + (r + 1))) bb vv _ ⟨fun _ => ⟨rfl, ?_⟩, fun c => absurd (Int32.le_refl _) c⟩
        rintro _ rfl
        have := k (up2 m' 75 13 bb) (hf.tr (Fr.u2 (by decide))) (fun j hj => by rw [up2_eq, if_neg hj]; exact h75 j hj) (fun j hj => by rw [up2_ne (by decide)]; exact hl1 j hj) (fun _ => by rw [up2_eq, if_pos rfl, hn])
        rw [hn] at this
        exact this
      | succ q ihq =>
        intro hq m' bb vv hf h75 hl1 hl2 hres
        have hc : 1 ≤ Int32.ofNat (16 - (q + 1)) ∧ Int32.ofNat (16 - (q + 1)) ≤ 15 := ⟨(o_le (a := 1) (by decide) (by omega)).mpr (by omega), (o_le (b := 15) (by omega) (by decide)).mpr (by omega)⟩
        have ec : Int32.ofNat (16 - (q + 1)) + 1 = Int32.ofNat (16 - q) := by rw [o_1]; congr 1; omega
        have nxt : ∀ (m4 : Mem) (own : Int32), own = gnA r (m 76) (Int32.ofNat (16 - (q + 1))) → Fr [75, 78, 81, 82] m m4 → (∀ j, j ≠ 13 → m4 75 j = m 75 j) → (∀ j, j < 168 * ii → m4 78 j = m 78 j) → (∀ j, j < 168 → m4 78 (168 * ii + j) = m 76 j) →
          (bb = -1 → WP G (rmD (d + 1) 0 0) mX6_value (QC G SH (TA t0 n i) K) 0 0 20 [(0, .ref 75), (1, .int (Int32.ofNat ii)), (2, .int (Int32.ofNat (ii + (r + 1)))), (3, .int (Int32.ofNat (16 - (q + 1)))), (4, .int own), (5, .int (Int32.ofNat (16 - (q + 1)) + 1))] [] (SH, TA t0 n i, m4)) ∧ (¬ bb = -1 → (own ≤ vv → WP G (rmD (d + 1) 0 0) mX6_value (QC G SH (TA t0 n i) K) 0 0 20 [(0, .ref 75), (1, .int (Int32.ofNat ii)), (2, .int (Int32.ofNat (ii + (r + 1)))), (3, .int bb), (4, .int vv), (5, .int (Int32.ofNat (16 - (q + 1)) + 1))] [] (SH, TA t0 n i, m4)) ∧ (¬ own ≤ vv → WP G (rmD (d + 1) 0 0) mX6_value (QC G SH (TA t0 n i) K) 0 0 20 [(0, .ref 75), (1, .int (Int32.ofNat ii)), (2, .int (Int32.ofNat (ii + (r + 1)))), (3, .int (Int32.ofNat (16 - (q + 1)))), (4, .int own), (5, .int (Int32.ofNat (16 - (q + 1)) + 1))] [] (SH, TA t0 n i, m4))) := by
          intro m4 own ho f4 g4 a1 a2
          rw [ec]
          simp only [mxl] at hres
          rw [← ho, ec] at hres
          refine ⟨fun z => ?_, fun z => ⟨fun y => ?_, fun y => ?_⟩⟩
          · rw [if_pos (Or.inl z)] at hres
            exact ihq (by omega) m4 _ _ f4 g4 a1 a2 hres
          · rw [if_neg (fun o => o.elim z (fun o => absurd y (Int32.not_le.mpr o)))] at hres
            exact ihq (by omega) m4 _ _ f4 g4 a1 a2 hres
          · rw [if_pos (Or.inr (Int32.not_le.mp y))] at hres
            exact ihq (by omega) m4 _ _ f4 g4 a1 a2 hres
        clear ihq hres
        generalize Int32.ofNat (16 - (q + 1)) = c at *
        have h76 : m' 76 = m 76 := hf 76 (by decide)
        have hp := pul_ok hw hc
        have c0 : 0 ≤ c ∧ c ≤ 15 := ⟨Int32.le_trans (by decide) hc.1, hc.2⟩
        refine rg_X6_value_20 hG 75 (Int32.ofNat ii) (Int32.ofNat (ii + (r + 1))) bb vv c ⟨fun z => absurd (Int32.le_trans z hc.2) (by decide), fun _ => ⟨rfl, ?_⟩⟩
        refine c_X6_pulls1 hG (by omega) (by rw [h76]; exact hw) hc (fun m2 hf2 e2 => ⟨_, rfl, ?_⟩)
        rw [h76] at e2 ⊢
        -- what is left when value's inner call has come back
        have rest : ∀ (m3 m5 : Mem), Fr [81, 82] m2 m3 → Fr [75, 78, 81, 82] m3 m5 → (∀ j, j ≠ 13 → m5 75 j = m3 75 j) → (∀ j, j < 168 * (ii + 1) → m5 78 j = m3 78 j) → cpN (m5 76) (m5 78) 0 (168 * ii) 168 = m 76 ∧ Fr [75, 78, 81, 82] m (set1 m5 76 (m 76)) ∧ (∀ j, j ≠ 13 → set1 m5 76 (m 76) 75 j = m 75 j) ∧ (∀ j, j < 168 * ii → set1 m5 76 (m 76) 78 j = m 78 j) ∧ (∀ j, j < 168 → set1 m5 76 (m 76) 78 (168 * ii + j) = m 76 j) := by
          intro m3 m5 h3 h5 h6 h7
          have e78 : m3 78 = m' 78 := by rw [h3 78 (by decide), hf2 78 (by decide)]
          have e75 : m3 75 = m' 75 := by rw [h3 75 (by decide), hf2 75 (by decide)]
          refine ⟨back_eq (fun j hj => ?_) (fun j hj => ?_), fun a ha => ?_, fun j hj => ?_, fun j hj => ?_, fun j hj => ?_⟩
          · rw [h7 _ (by omega), e78]; exact hl2 j hj
          · rw [h5 76 (by decide), h3 76 (by decide), e2]; exact hp.2.2.1 j hj
          · by_cases z : a = 76
            · rw [z, set1_eq]
            · rw [set1_ne z, h5 a ha, h3 a (by simp at ha ⊢; omega), hf2 a (by simp at ha ⊢; omega), hf a ha]
          · rw [set1_ne (by decide), h6 j hj, e75]; exact h75 j hj
          · rw [set1_ne (by decide), h7 j (by omega), e78]; exact hl1 j hj
          · rw [set1_ne (by decide), h7 _ (by omega), e78]; exact hl2 j hj
        have ei : Int32.ofNat ii + 1 = Int32.ofNat (ii + 1) := o_1 ii
        rw [ei, show ii + (r + 1) = ii + 1 + r by omega] at *
        by_cases d2 : doe (m 76) c = 2
        · obtain ⟨u1, u2, -, -⟩ := upm_ok hw.2.1 c0 (doe_u (Or.inr d2))
          have u16 : upm (m 76) c < 16 := ar_u16 u1.2 hw.1.1.2
          have hne : upm (m 76) c ≠ -1 := doe_u (Or.inr d2)
          rw [if_pos d2]
          refine ⟨fun _ => c_X6_likes hG (by omega) (by rw [e2]; exact hp.1) ⟨u1.1, by rw [e2, hp.2.1]; exact u1.2⟩ (fun m3 hf3 => ⟨_, rfl, ?_⟩), fun z => absurd z hne⟩
          rw [e2, lks_pul hw hc ⟨u1.1, u16⟩]
          refine ih (ii + 1) d m3 _ (by omega) (by omega) (by rw [hf3 76 (by decide), e2]; exact hp.1) (fun m5 hf5 g1 g2 _ => ⟨_, rfl, ?_⟩)
          rw [hf3 76 (by decide), e2]
          obtain ⟨z1, z2, z3, z4, z5⟩ := rest m3 m5 hf3 hf5 g1 g2
          refine c_X6_layBack hG (by omega) (by omega) ⟨rfl, ?_⟩
          rw [z1]
          exact nxt _ _ (by rw [gnA, if_pos d2]) z2 z3 z4 z5
        · rw [if_neg d2]
          refine ⟨fun z => absurd rfl z, fun _ => ?_⟩
          refine ih (ii + 1) d m2 _ (by omega) (by omega) (by rw [e2]; exact hp.1) (fun m5 hf5 g1 g2 _ => ⟨_, rfl, ?_⟩)
          rw [e2]
          obtain ⟨z1, z2, z3, z4, z5⟩ := rest m2 m5 Fr.rf hf5 g1 g2
          refine c_X6_layBack hG (by omega) (by omega) ⟨rfl, ?_⟩
          rw [z1]
          exact nxt _ _ (by rw [gnA, if_neg d2]) z2 z3 z4 z5
    refine Cal.of (by decide +kernel) rfl (Nat.le_of_ble_eq_true rfl) (rg_X6_value_0 hG 75 (Int32.ofNat ii) (Int32.ofNat (ii + (r + 1))) ⟨fun _ => ⟨rfl, c_X6_layDown hG (by omega) (by omega) ⟨rfl, ?_⟩⟩, fun c => ?_⟩)
    · refine hloop 15 (Nat.le_refl _) _ (-1) 0 (Fr.s1 (by decide)) (fun j hj => by rw [set1_ne (by decide)]) (fun j hj => ?_) (fun j hj => ?_) rfl
      · rw [set1_eq]; unfold cpN; rw [if_neg (by omega)]
      · rw [set1_eq]; unfold cpN; rw [if_pos (by omega)]; congr 1; omega
    · exfalso
      rw [o_eq (by omega) (by omega)] at c
      omega

