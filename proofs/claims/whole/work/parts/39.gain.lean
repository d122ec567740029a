-- 39.gain
def GainC (G : Gm) (t n i r d : Nat) : Prop := ∀ (f : Nat → Int32) (c : Int32) (m : Mem) (K : Option Value → Mem → Prop), RB m 67 68 f → RT m 36 40 f → WF f → (1 ≤ c ∧ c ≤ 15) → (∀ m', Fr [36, 39, 40, 43, 67, 71, 72, 73, 74] m m' → RB m' 67 68 f → K (some (.int (gnA r f c))) m') → Cal G mX5_gainAt d [.ref 67, .int c, .int (Int32.ofNat (r + 1))] SH (TA t n i) m K
def BestC (G : Gm) (t n i r d : Nat) : Prop := ∀ (f : Nat → Int32) (m : Mem) (K : Option Value → Mem → Prop), RB m 67 68 f → RT m 36 40 f → WF f → (∀ m', Fr [36, 39, 40, 43, 67, 71, 72, 73, 74] m m' → RB m' 67 68 f → K (some (.int (vbA (r + 1) f).2)) m') → Cal G mX5_bestGain d [.ref 67, .int (Int32.ofNat (r + 1))] SH (TA t n i) m K
set_option maxHeartbeats 4000000 in
theorem gnA_e {r : Nat} {f : Nat → Int32} {c e : Int32} (h1 : sz f c = 0) (h2 : sz f e = 0) : gnA r f c = gnA r f e := by
  have hd : ∀ x, sz f x = 0 → doe f x = 0 := fun x h => by rw [doe, if_pos (by rw [upm, if_pos h])]
  unfold gnA
  rw [hd c h1, hd e h2, empt h1, empt h2]
  rw [if_neg (by decide), if_neg (by decide)]
set_option maxHeartbeats 4000000 in
theorem mxl_1 {g : Int32 → Int32} {v c : Int32} {k : Nat} : mxl g (-1) v c (k + 1) = mxl g c (g c) (c + 1) k := if_pos (Or.inl rfl)
set_option maxHeartbeats 4000000 in
theorem best_of {G : Gm} {t n i r d : Nat} (hG : fl G = false) (hd : 4 ≤ d) (h : GainC G t n i r d) : BestC G t n i r (d + 1) := by
  intro f m K hb ht hw k
  have hloop : ∀ (q : Nat), q ≤ 14 → ∀ (m' : Mem) (bb vv : Int32), Fr [36, 39, 40, 43, 67, 71, 72, 73, 74] m m' → RB m' 67 68 f → bb ≠ -1 → vbA (r + 1) f = mxl (gnA r f) bb vv (Int32.ofNat (16 - q)) q → (∀ j : Nat, 1 ≤ j → j < 16 - q → gnA r f (Int32.ofNat j) ≤ vv) → WP G (rmD (d + 1) 0 0) mX5_bestGain (QC G SH (TA t n i) K) 0 0 9 [(0, .ref 67), (1, .int (Int32.ofNat (r + 1))), (2, .int vv), (3, .int (Int32.ofNat (16 - q)))] [] (SH, TA t n i, m') := by
    intro q
    induction q with
    | zero =>
      intro _ m' bb vv hf hb' _ hres _
      have hn : vbA (r + 1) f = (bb, vv) := hres
      have := k m' hf hb'
      rw [hn] at this
      exact rg_X5_bestGain_9 hG 67 (Int32.ofNat (r + 1)) vv _ ⟨fun _ => this, fun c => absurd (Int32.le_refl _) c⟩
    | succ q ihq =>
      intro hq m' bb vv hf hb' hbb hres hle
      have hc : 1 ≤ Int32.ofNat (16 - (q + 1)) ∧ Int32.ofNat (16 - (q + 1)) ≤ 15 := ⟨(o_le (a := 1) (by decide) (by omega)).mpr (by omega), (o_le (b := 15) (by omega) (by decide)).mpr (by omega)⟩
      have ec : Int32.ofNat (16 - (q + 1)) + 1 = Int32.ofNat (16 - q) := by rw [o_1]; congr 1; omega
      have hle2 : ∀ e, 1 ≤ e → e < Int32.ofNat (16 - (q + 1)) → gnA r f e ≤ vv := by
        intro e he1 he2
        have eo := o_of (Int32.le_trans (by decide) he1)
        have hbd : e.toNatClampNeg < 2147483648 := by
          have := Int32.toInt_lt e
          show e.toInt.toNat < _
          omega
        rw [eo, show (1 : Int32) = Int32.ofNat 1 from rfl, o_le (by decide) hbd] at he1
        rw [eo, o_lt hbd (by omega)] at he2
        have := hle e.toNatClampNeg he1 he2
        rw [← eo] at this
        exact this
      have nx : ∀ v2 : Int32, vv ≤ v2 → gnA r f (Int32.ofNat (16 - (q + 1))) ≤ v2 → ∀ j : Nat, 1 ≤ j → j < 16 - q → gnA r f (Int32.ofNat j) ≤ v2 := by
        intro v2 h1 h2 j a b
        by_cases e : j = 16 - (q + 1)
        · rw [e]; exact h2
        · exact Int32.le_trans (hle j a (by omega)) h1
      have ht' : RT m' 36 40 f := ht.fr hf (by decide) (by decide) (by decide) (by decide)
      simp only [mxl] at hres
      rw [ec] at hres
      generalize Int32.ofNat (16 - (q + 1)) = c at *
      refine rg_X5_bestGain_9 hG 67 (Int32.ofNat (r + 1)) vv c ⟨fun z => absurd (Int32.le_trans z hc.2) (by decide), fun _ => c_X5_isLikeOneAhead hG (by omega) hb' hw.2.1 hc (fun v hv => ⟨_, rfl, fun v0 => ?_, fun v0 => ?_⟩)⟩
      · rcases hv with z | ⟨-, z0, e, e1, e2, e3⟩
        · exact absurd z v0
        · have hlt : gnA r f c ≤ vv := by rw [gnA_e z0 e3]; exact hle2 e e1 e2
          rw [if_neg (fun o => o.elim hbb (fun o => absurd hlt (Int32.not_le.mpr o)))] at hres
          rw [ec]
          exact ihq (by omega) m' bb vv hf hb' hbb hres (nx vv (Int32.le_refl _) hlt)
      · refine h f c m' _ hb' ht' hw hc (fun m2 hf2 hb2 => ⟨_, rfl, ?_⟩)
        rw [ec]
        by_cases hlt : vv < gnA r f c
        · rw [if_pos (Or.inr hlt)] at hres
          rw [if_pos hlt]
          exact ihq (by omega) m2 c _ (hf.tr hf2) hb2 (fun z => by rw [z] at hc; exact absurd hc.1 (by decide)) hres (nx _ (Int32.le_of_lt hlt) (Int32.le_refl _))
        · rw [if_neg (fun o => o.elim hbb hlt)] at hres
          rw [if_neg hlt]
          exact ihq (by omega) m2 bb vv (hf.tr hf2) hb2 hbb hres (nx _ (Int32.le_refl _) (Int32.not_lt.mp hlt))
  refine Cal.of (by decide +kernel) rfl (Nat.le_of_ble_eq_true rfl) (rg_X5_bestGain_0 hG 67 (Int32.ofNat (r + 1)) ?_)
  refine h f 1 m _ hb ht hw (by decide) (fun m2 hf2 hb2 => ⟨_, rfl, ?_⟩)
  have e0 : vbA (r + 1) f = mxl (gnA r f) 1 (gnA r f 1) (1 + 1) 14 := mxl_1
  have e1 : (1 : Int32) + 1 = Int32.ofNat (16 - 14) := by decide
  rw [e1] at e0
  refine hloop 14 (Nat.le_refl _) m2 1 _ hf2 hb2 (by decide) e0 (fun j a b => ?_)
  have : j = 1 := by omega
  rw [this]
  exact Int32.le_refl _
set_option maxHeartbeats 4000000 in
theorem gain_of {G : Gm} {t n i r d : Nat} (hG : fl G = false) (hd : 8 ≤ d) (hr3 : r ≤ 3) (h : r ≠ 0 → BestC G t n i (r - 1) d) : GainC G t n i r (d + 1) := by
  intro f c m K hb ht hw hc k
  have c0 : 0 ≤ c ∧ c ≤ 15 := ⟨Int32.le_trans (by decide) hc.1, hc.2⟩
  have hp := pul_ok hw hc
  have r0 : ¬ (1 : Int32) < Int32.ofNat (r + 1) → r = 0 := by
    intro z
    rw [show (1 : Int32) = Int32.ofNat 1 from rfl, o_lt (by decide) (by omega)] at z
    omega
  -- the road with a pull, behind which the other one plays
  have deep : ∀ (m1 : Mem) (g : Int32) (K2 : Option Value → Mem → Prop), r ≠ 0 → Fr [36, 39, 40, 43] m m1 → (∀ m', Fr [36, 39, 40, 43, 67, 71, 72, 73, 74] m m' → RB m' 67 68 f → K2 (some (.int (g - (vbA r (pulA f c)).2))) m') → Cal G mX0_grip d [.ref 67, .int c] SH (TA t n i) m1 (fun v m9 => ∃ r10, v = some (.int r10) ∧ Cal G mX5_bestGain d [.ref 67, .int (Int32.ofNat (r + 1) - 1)] SH (TA t n i) m9 (fun v12 m13 => ∃ r14, v12 = some (.int r14) ∧ Cal G mX0_takeBack d [.ref 67, .int c, .int r10, .int (m9 67 15), .int (m1 67 12)] SH (TA t n i) m13 (fun v16 m17 => v16 = none ∧ K2 (some (.int (g - r14))) m17))) := by
    intro m1 g K2 hr h1 hk
    have hb1 : RB m1 67 68 f := hb.fr h1 (by decide) (by intro j hj; simp; omega)
    have ht1 : RT m1 36 40 f := ht.fr h1 (by decide) (by decide) (by decide) (by decide)
    refine c_X0_grip hG (by omega) B67 hb1 ht1 hw hc (fun m2 hf2 hr2 e13 e14 e15 => ⟨_, rfl, ?_⟩)
    have ht2 : RT m2 36 40 (pulA f c) := (ht1.fr hf2 (by decide) (by decide) (by decide) (by decide)).hi hp.2.2.1 hw.2.2.2.1 hw.2.2.2.2
    rw [o_s, show r = (r - 1) + 1 by omega]
    refine h hr (pulA f c) m2 _ hr2 ht2 hp.1 (fun m3 hf3 hr3 => ⟨_, rfl, ?_⟩)
    rw [e15, hb1.1.2.2.2]
    refine c_X0_takeBack hG (by omega) B67 hw hc hr3 rfl rfl rfl (fun m4 hf4 hr4 => ⟨rfl, ?_⟩)
    have := hk m4 ((h1.mo (by simp)).tr ((hf2.mo (by simp)).tr (hf3.tr (hf4.mo (by simp))))) hr4
    rw [show r = (r - 1) + 1 by omega] at this
    exact this
  refine Cal.of (by decide +kernel) rfl (Nat.le_of_ble_eq_true rfl) (rg_X5_gainAt_0 hG 67 c (Int32.ofNat (r + 1)) ⟨rfl, ?_⟩)
  refine c_X0_does hG (by omega) B67 hb ht hw c0 (fun m1 hf1 => ⟨_, rfl, fun d2 => ?_, fun d2 => ?_⟩)
  · have hg : gnA r f c = 0 - (vbA r (pulA f c)).2 := by rw [gnA, if_neg d2]
    rw [hg] at k
    refine ⟨fun z => deep m1 0 K ?_ (hf1.mo (by simp)) k, fun z => ?_⟩
    · rintro rfl; exact absurd z (by decide)
    · have hr0 := r0 z
      subst hr0
      exact kv (k m1 (hf1.mo (by simp)) (hb.fr hf1 (by decide) (by intro j hj; simp; omega))) (by show (0 : Int32) = 0 - 0; decide)
  · obtain ⟨u1, u2, -, -⟩ := upm_ok hw.2.1 c0 (doe_u (Or.inr d2))
    have hb1 : RB m1 67 68 f := hb.fr hf1 (by decide) (by intro j hj; simp; omega)
    have ht1 : RT m1 36 40 f := ht.fr hf1 (by decide) (by decide) (by decide) (by decide)
    have hg : gnA r f c = lks f (upm f c) - (vbA r (pulA f c)).2 := by rw [gnA, if_pos d2]
    rw [hg] at k
    refine c_X0_top hG (by omega) B67 hb1 hw.2.1 ⟨_, rfl, ?_⟩
    rw [if_pos c0]
    refine c_X0_likes hG (by omega) B67 hb1 ht1 hw u1 (fun m2 hf2 => ⟨_, rfl, fun z => ?_, fun z => ?_⟩)
    · exact deep m2 (lks f (upm f c)) K (by rintro rfl; exact absurd z (by decide)) ((hf1.mo (by simp)).tr (hf2.mo (by simp))) k
    · have hr0 := r0 z
      subst hr0
      exact kv (k m2 ((hf1.mo (by simp)).tr (hf2.mo (by simp))) (hb1.fr hf2 (by decide) (by intro j hj; simp; omega))) (by show lks f (upm f c) = lks f (upm f c) - 0; exact (Int32.sub_zero _).symm)
set_option maxHeartbeats 4000000 in
theorem gain_all {G : Gm} {t n i : Nat} (hG : fl G = false) : ∀ (r : Nat), r ≤ 3 → ∀ d, 9 + 2 * r ≤ d → GainC G t n i r d := by
  intro r
  induction r with
  | zero =>
    intro _ d hd
    obtain ⟨d, rfl⟩ : ∃ e, d = e + 1 := ⟨d - 1, by omega⟩
    exact gain_of hG (by omega) (by omega) (fun z => absurd rfl z)
  | succ r ih =>
    intro hr d hd
    obtain ⟨d, rfl⟩ : ∃ e, d = e + 1 := ⟨d - 1, by omega⟩
    refine gain_of hG (by omega) hr (fun _ => ?_)
    obtain ⟨d, rfl⟩ : ∃ e, d = e + 1 := ⟨d - 1, by omega⟩
    exact best_of hG (by omega) (ih (by omega) d (by omega))

