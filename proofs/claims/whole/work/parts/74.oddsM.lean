-- 74.oddsM
set_option maxHeartbeats 4000000 in
theorem sub_2 (a b : Int32) : a - (b + 1) = a - b - 1 := by
  apply Int32.toBitVec_inj.mp
  show a.toBitVec - (b.toBitVec + 1#32) = a.toBitVec - b.toBitVec - 1#32
  apply BitVec.eq_of_toNat_eq
  simp only [BitVec.toNat_sub, BitVec.toNat_add, BitVec.toNat_ofNat]
  have := a.toBitVec.isLt
  have := b.toBitVec.isLt
  omega
section
variable {G : Gm} {d t n i : Nat} {m : Mem} {K : Option Value → Mem → Prop} {f : Nat → Int32} {x y : Int32}
set_option maxHeartbeats 4000000 in
theorem lg_0 {b : Nat} (hb : b < 9223372036854775808) : lg_cmp (Int64.ofNat b) 0 = 0 ↔ b = 0 := by
  have e := l_toInt hb
  have z : (0 : Int64).toInt = 0 := rfl
  constructor
  · intro h
    unfold lg_cmp at h
    by_cases q : b = 0
    · exact q
    · exfalso
      have h1 : ¬ Int64.ofNat b < 0 := by
        rw [Int64.lt_iff_toInt_lt, e, z]; omega
      have h2 : ¬ Int64.ofNat b = 0 := fun o => q ((l_0 hb).mp o)
      revert h
      simp [h1, h2]
      split <;> decide
  · intro h
    subst h
    decide
set_option maxHeartbeats 4000000 in
theorem c_X6_divisor (hG : fl G = false) (hd : 1 ≤ d) {a b : Nat} (ha : a ≤ 1000000) (hb : b ≤ 1000000) (k : K (some (.long (Int64.ofNat (Nat.gcd a b)))) m) : Cal G mX6_divisor d [.long (Int64.ofNat a), .long (Int64.ofNat b)] SH (TA t n i) m K := by
  obtain ⟨d, rfl⟩ : ∃ e, d = e + 1 := ⟨d - 1, by omega⟩
  refine Cal.of (by decide +kernel) rfl (Nat.le_of_ble_eq_true rfl) (rg_X6_divisor_0 hG _ _ ?_)
  have loop : ∀ (q b a : Nat), b ≤ q → a ≤ 1000000 → b ≤ 1000000 → K (some (.long (Int64.ofNat (Nat.gcd a b)))) m → WP G (rmD (d + 1) 0 0) mX6_divisor (QC G SH (TA t n i) K) 0 0 6 [(4, .long (Int64.ofNat a)), (6, .long (Int64.ofNat b))] [] (SH, TA t n i, m) := by
    intro q
    induction q with
    | zero =>
      intro b a hq ha hb kk
      have : b = 0 := by omega
      subst this
      rw [Nat.gcd_zero_right] at kk
      exact rg_X6_divisor_6 hG _ _ ⟨fun _ => kk, fun o => absurd ((lg_0 (by omega)).mpr rfl) o⟩
    | succ q ih =>
      intro b a hq ha hb kk
      by_cases h0 : b = 0
      · subst h0
        rw [Nat.gcd_zero_right] at kk
        exact rg_X6_divisor_6 hG _ _ ⟨fun _ => kk, fun o => absurd ((lg_0 (by omega)).mpr rfl) o⟩
      · refine rg_X6_divisor_6 hG _ _ ⟨fun o => absurd ((lg_0 (by omega)).mp o) h0, fun _ => ⟨fun o => h0 ((l_0 (by omega)).mp o), ?_⟩⟩
        have hlt : a % b < b := Nat.mod_lt _ (by omega)
        have hm : a / b * b ≤ a := Nat.div_mul_le_self a b
        have e : Int64.ofNat a - Int64.ofNat a / Int64.ofNat b * Int64.ofNat b = Int64.ofNat (a % b) := by
          rw [l_div (by omega) (by omega), l_mul, l_sub (by omega) hm]
          congr 1
          have := Nat.div_add_mod a b
          rw [Nat.mul_comm] at this
          omega
        rw [e]
        refine ih (a % b) b (by omega) (by omega) (by omega) ?_
        rw [Nat.gcd_comm, ← Nat.gcd_rec, Nat.gcd_comm]
        exact kk
  exact loop b b a (Nat.le_refl _) ha hb k
set_option maxHeartbeats 4000000 in
theorem c_X6_odds (hG : fl G = false) (hd : 20 ≤ d) (hz : ShZ (m 86)) (hw : WF (m 76)) (k : AnL [81, 82] 79 m K (odE (m 85) (m 86) (m 87) x y) (odV (m 86) (m 87) (m 76) x y)) : Cal G mX6_odds d [.ref 75, .int x, .int y] SH (TA t n i) m K := by
  obtain ⟨d, rfl⟩ : ∃ e, d = e + 1 := ⟨d - 1, by omega⟩
  refine Cal.of (by decide +kernel) rfl (Nat.le_of_ble_eq_true rfl) (rg_X6_odds_0 hG 75 x y (c_X6_in hG (by omega) ⟨_, rfl, fun q => ⟨rfl, c_X6_error hG (by omega) (by decide) ⟨_, rfl, k.no (by rw [odE, if_neg (b0 q)]) (by decide)⟩⟩, fun q => ?_⟩))
  have hy := b1 q
  rw [odE, if_pos hy] at k
  refine ⟨rfl, c_X6_lacks hG (by omega) ⟨_, rfl, fun q2 => ?_, fun q2 => ?_⟩⟩
  · have q2 := lkS_p.mp q2
    rw [if_pos q2] at k
    obtain ⟨xx, h4, rfl, -⟩ := lkS_0 q2
    obtain ⟨zz, hzz, ez⟩ := hz xx h4
    unfold odV at k
    rw [tn_o (by omega), rd_o (by omega), ez, tn_o (by omega)] at k
    refine ⟨86, rfl, 4, rfl, ib_o h4 (by decide), ?_⟩
    rw [rd_o (by omega), ez]
    refine c_X6_in hG (by omega) ⟨_, rfl, fun q5 => c_X6_error hG (by omega) (by decide) ⟨_, rfl, k.no (by rw [if_neg (b0 q5)]) (by decide)⟩, fun q5 => ?_⟩
    have q5 := b1 q5
    have z4 : zz ≤ 4 := (o_le (b := 4) (by omega) (by decide)).mp q5.2
    rw [if_pos q5] at k
    refine c_X6_rowOf hG (by omega) h4 ez hzz ⟨_, rfl, ?_⟩
    have hin := rwf_in (w := fun j => m 87 (24 * xx + j)) zz 0
    have hle := rwf_le (w := fun j => m 87 (24 * xx + j)) zz 0
    generalize hW : (fun j => m 87 (24 * xx + j)) = W at *
    have hu : ∀ j, m 87 (24 * xx + j) = W j := fun j => by rw [← hW]
    refine ⟨fun q6 => ?_, fun q6 => c_X6_error hG (by omega) (by decide) ⟨_, rfl, k.no (by rw [if_neg (fun o => q6 ((o_le (by omega) (by omega)).mpr o))]) (by decide)⟩⟩
    have q6 := (o_le (by omega) (by omega)).mp q6
    rw [if_pos q6] at k
    have hin : ∀ j, j < zz → 1 ≤ W j ∧ W j ≤ 15 := fun j hj => by
      have := hin j (by omega) (by omega)
      rw [← hW]
      exact this
    have hA := abN_le (m 76) W
    have prod : ∀ (e j : Nat), j + e = zz → ∀ (m' : Mem), Fr [81, 82] m m' → WP G (rmD (d + 1) 0 0) mX6_odds (QC G SH (TA t n i) K) 0 0 74 [(0, .ref 75), (1, .int (Int32.ofNat xx)), (2, .int y), (4, .int (Int32.ofNat zz)), (5, .long (Int64.ofNat (abN (m 76) W j))), (7, .long (Int64.ofNat (16 ^ j))), (9, .int (Int32.ofNat j))] [] (SH, TA t n i, m') := by
      intro e
      induction e with
      | zero =>
        intro j hj m' hf
        have : j = zz := by omega
        subst this
        have hB := p16 z4
        have hA := hA j
        have hg : 0 < Nat.gcd (abN (m 76) W j) (16 ^ j) := Nat.gcd_pos_of_pos_right _ (Nat.pow_pos (by decide))
        have hg2 : Nat.gcd (abN (m 76) W j) (16 ^ j) ≤ 16 ^ j := Nat.gcd_le_right _ (Nat.pow_pos (by decide))
        have ng : ¬ Int64.ofNat (Nat.gcd (abN (m 76) W j) (16 ^ j)) = 0 := fun o => by have := (l_0 (by omega)).mp o; omega
        refine rg_X6_odds_74 hG 75 _ y _ _ _ _ ⟨fun _ => c_X6_divisor hG (by omega) (by omega) (by omega) ⟨_, rfl, fun y0 => ⟨ng, k.ok rfl hf ?_⟩, fun y0 => ⟨ng, k.ok rfl hf ?_⟩⟩, fun o => absurd (Int32.le_refl _) o⟩
        · rw [if_neg y0, l_div (by omega) (by omega)]
        · rw [if_pos y0, l_div (by omega) (by omega)]
      | succ e ih =>
        intro j hj m' hf
        have u76 : m' 76 = m 76 := hf 76 (by decide)
        have u87 : m' 87 = m 87 := hf 87 (by decide)
        have c1 := hin j (by omega)
        have c0 : 0 ≤ W j ∧ W j ≤ 15 := ⟨Int32.le_trans (by decide) c1.1, c1.2⟩
        refine rg_X6_odds_74 hG 75 _ y _ _ _ _ ⟨fun o => ?_, fun _ => ⟨rfl, 87, rfl, 96, rfl, ?_⟩⟩
        · rw [o_le (by omega) (by omega)] at o; omega
        rw [e24, rd_o (by omega), u87, hu]
        refine ⟨ib_o (by omega) (by decide), c_X6_size hG (by omega) c0 ⟨_, rfl, ?_⟩⟩
        rw [u76]
        obtain ⟨hh, h5, eh⟩ := oN' (N := 5) (hw.2.1 _ c0.1 c0.2).1.1 (hw.2.1 _ c0.1 c0.2).1.2 (by decide)
        rw [eh]
        have next : ∀ v, cvN (m 76) W j = v → ∀ m2, Fr [81, 82] m m2 → ∀ l : Int64, l = Int64.ofNat (abN (m 76) W j * v) → WP G (rmD (d + 1) 0 0) mX6_odds (QC G SH (TA t n i) K) 0 0 74 [(0, .ref 75), (1, .int (Int32.ofNat xx)), (2, .int y), (4, .int (Int32.ofNat zz)), (5, .long l), (7, .long (Int64.ofNat (16 ^ j) * 16)), (9, .int (Int32.ofNat j + 1))] [] (SH, TA t n i, m2) := by
          intro v ev m2 hf2 l el
          have := ih (j + 1) (by omega) m2 hf2
          simp only [abN, ev] at this
          rw [el, show (16 : Int64) = Int64.ofNat 16 from rfl, l_mul, o_1, ← Nat.pow_succ]
          exact this
        have inner : ∀ (q l : Nat), l + q = j → WP G (rmD (d + 1) 0 0) mX6_odds (QC G SH (TA t n i) K) 0 0 108 [(0, .ref 75), (1, .int (Int32.ofNat xx)), (2, .int y), (4, .int (Int32.ofNat zz)), (5, .long (Int64.ofNat (abN (m 76) W j))), (7, .long (Int64.ofNat (16 ^ j))), (9, .int (Int32.ofNat j)), (10, .int (W j)), (11, .int (Int32.ofNat hh - 1 - Int32.ofNat (dpN W (W j) l))), (12, .int (Int32.ofNat l))] [] (SH, TA t n i, m') := by
          intro q
          induction q with
          | zero =>
            intro l hl
            have : l = j := by omega
            subst this
            have dl := dpN_le (w := W) (c := W l) l
            unfold cvN at next
            rw [eh, tn_o (by omega)] at next
            refine rg_X6_odds_108 hG 75 _ y _ _ _ _ _ _ _ ⟨fun _ => ⟨fun h0 => ⟨rfl, ?_⟩, fun h0 => ?_⟩, fun o => absurd (Int32.le_refl _) o⟩
            · have hq : ¬ hh ≤ dpN W (W l) l := fun hq => by
                rw [Int32.le_iff_toInt_le, Int32.toInt_sub, Int32.toInt_sub, Int32.toInt_ofNat_of_lt (by omega), Int32.toInt_ofNat_of_lt (by omega), show (1 : Int32).toInt = 1 from rfl, show (0 : Int32).toInt = 0 from rfl, Int.bmod_eq_of_le (n := (hh : Int) - 1) (by omega) (by omega), Int.bmod_eq_of_le (by omega) (by omega)] at h0
                omega
              have eq : Int32.ofNat hh - 1 - Int32.ofNat (dpN W (W l) l) = Int32.ofNat (hh - 1 - dpN W (W l) l) := by
                rw [show (1 : Int32) = Int32.ofNat 1 from rfl, o_sub (by omega) (by omega), o_sub (by omega) (by omega)]
              rw [eq]
              have hr : 0 ≤ Int32.ofNat (hh - 1 - dpN W (W l) l) ∧ Int32.ofNat (hh - 1 - dpN W (W l) l) < sz (m 76) (W l) := ⟨o_0 _ (by omega), by rw [eh]; exact (o_lt (by omega) (by omega)).mpr (by omega)⟩
              have hp := (hw.2.1 _ c0.1 c0.2).2 _ hr.1 hr.2
              refine c_X6_strengthBehind hG (by omega) ⟨_, rfl, c_X6_at1 hG (by omega) c0 ⟨hr.1, (o_lt (b := 5) (by omega) (by decide)).mpr (by omega)⟩ ⟨_, rfl, ?_⟩⟩
              rw [u76]
              refine c_X6_needs hG (by omega) (by rw [u76]; exact hw) (by rw [u76]; exact hp.1) (fun m2 hf2 => ⟨_, rfl, ?_⟩)
              rw [u76]
              obtain ⟨⟨s, hs, es⟩, -⟩ := stg_o hw.2.2.1 (i := l) (by omega)
              obtain ⟨nk, n1, n2, en⟩ := nds_o (m 76) (pl (m 76) (W l) (Int32.ofNat (hh - 1 - dpN W (W l) l)))
              rw [es, en]
              have n00 : ¬ Int32.ofNat nk = 0 := fun o => by have := (o_eq (b := 0) (by omega) (by decide)).mp o; omega
              refine ⟨n00, ?_⟩
              rw [show (16 : Int32) = Int32.ofNat 16 from rfl, o_mul, o_div (by omega) (by omega)]
              have hdv : s * 16 / nk ≤ s * 16 := Nat.div_le_self _ _
              have nx := next (min 16 (s * 16 / nk)) (by rw [if_neg hq, es, en, tn_o (by omega), tn_o (by omega)]) m2 (hf.tr hf2)
              refine c_X6_held hG (by omega) ⟨_, rfl, ?_⟩
              rw [if_neg (Int32.not_lt.mpr (o_0 _ (by omega)))]
              by_cases h16 : 16 < s * 16 / nk
              · rw [if_pos ((o_lt (by omega) (by omega)).mpr h16)]
                refine nx _ ?_
                rw [o_l (by omega), l_mul, Nat.min_eq_left (by omega)]
              · rw [if_neg (fun o => h16 ((o_lt (by omega) (by omega)).mp o))]
                refine nx _ ?_
                rw [o_l (by omega), l_mul, Nat.min_eq_right (by omega)]
            · have hq : hh ≤ dpN W (W l) l := Decidable.byContradiction fun hq => by
                apply h0
                rw [show (1 : Int32) = Int32.ofNat 1 from rfl, o_sub (by omega) (by omega), o_sub (by omega) (by omega)]
                exact o_0 _ (by omega)
              refine next 0 (if_pos hq) m' hf _ ?_
              rw [show (0 : Int64) = Int64.ofNat 0 from rfl, l_mul]
          | succ q ihq =>
            intro l hl
            refine rg_X6_odds_108 hG 75 _ y _ _ _ _ _ _ _ ⟨fun o => ?_, fun _ => ⟨rfl, 87, rfl, 96, rfl, ?_⟩⟩
            · rw [o_le (by omega) (by omega)] at o; omega
            have := ihq (l + 1) (by omega)
            rw [e24, rd_o (by omega), u87, hu, o_1]
            refine ⟨ib_o (by omega) (by decide), fun h => ?_, fun h => ?_⟩
            · simp only [dpN, if_neg h, Nat.add_zero] at this
              rw [Int32.sub_zero]
              exact this
            · simp only [dpN, if_pos h] at this
              have e1 : Int32.ofNat hh - 1 - Int32.ofNat (dpN W (W j) l + 1) = Int32.ofNat hh - 1 - Int32.ofNat (dpN W (W j) l) - 1 := by
                rw [← o_1]
                exact sub_2 _ _
              rw [e1] at this
              exact this
        have := inner j 0 (by omega)
        simp only [dpN] at this
        rw [show Int32.ofNat hh - 1 - Int32.ofNat 0 = Int32.ofNat hh - 1 from Int32.sub_zero _] at this
        exact this
    exact prod zz 0 (by omega) m Fr.rf
  · have q2 : lkS (m 85) x ≠ 0 := fun e => q2 (lkS_p.mpr e)
    have hn := lkS_n q2
    exact c_X6_error hG (by omega) ⟨Int32.le_trans (by decide) hn.1, hn.2⟩ ⟨_, rfl, k.no (by rw [if_neg q2]) q2⟩
def JL (G : Gm) (d t n i : Nat) (y1 y2 : Mi) (as : List Value) (m : Mem) : Prop := Cal G y1 d (.ref 0 :: as) SH (TA t n i) m (fun v1 m1 => ∃ r, v1 = some (.long r) ∧ Cal G y2 d (.ref 75 :: as) SH (TA t n i) m1 (fun v2 m2 => v2 = some (.long r) ∧ jV m2))
set_option maxHeartbeats 4000000 in
theorem odE_r {g z u : Nat → Int32} : odE g z u x y = 0 ∨ (1 ≤ odE g z u x y ∧ odE g z u x y ≤ 6) := by
  unfold odE
  split
  · split
    · split
      · split
        · exact Or.inl rfl
        · exact Or.inr (by decide)
      · exact Or.inr (by decide)
    · rename_i h
      have := lkS_n h
      refine Or.inr ⟨this.1, ?_⟩
      have a := Int32.lt_iff_toInt_lt.mp this.2
      rw [Int32.le_iff_toInt_le, show (6 : Int32).toInt = 6 from rfl]
      rw [show (7 : Int32).toInt = 7 from rfl] at a
      omega
  · exact Or.inr (by decide)
set_option maxHeartbeats 4000000 in
theorem J_odds (hG : fl G = false) (hd : 20 ≤ d) (hV : jV m) : JL G d t n i mX5_odds mX6_odds [.int x, .int y] m := by
  have hV' := hV
  obtain ⟨⟨⟨hb, ht, hw⟩, -, -, -⟩, -, ⟨hs, hz, -⟩, -, -⟩ := hV
  have s : ∀ a ∈ [36, 39], a ∈ (75 :: jO) := by decide
  have s2 : ∀ a ∈ [81, 82], a ∈ (75 :: jO) := by decide
  refine c_X5_odds hG hd hs hz hb ht hw ⟨fun e m1 hf => ⟨_, rfl, c_X6_odds hG hd (by rw [hf 86 (by decide)]; exact hz) (by rw [hf 76 (by decide)]; exact hw) ?_⟩, fun ne => ⟨_, rfl, c_X6_odds hG hd (by rw [set1_ne (by decide)]; exact hz) (by rw [set1_ne (by decide)]; exact hw) ?_⟩⟩
  · rw [hf 85 (by decide), hf 86 (by decide), hf 87 (by decide), hf 76 (by decide)]
    refine ⟨fun _ m2 hf2 => ⟨rfl, ?_⟩, fun o => absurd e o⟩
    exact hV'.fr ((hf.mo s).tr (hf2.mo s2)) (by rw [hf2 75 (by decide), hf 75 (by decide)]) (by rw [hf2 75 (by decide), hf 75 (by decide)])
  · have u : ∀ a, 75 ≤ a → ∀ F, set1 m 34 F a = m a := fun a ha F => set1_ne (by omega)
    rw [u 85 (by decide), u 86 (by decide), u 87 (by decide), u 76 (by decide)]
    refine ⟨fun o => absurd o ne, fun _ => ⟨rfl, ?_⟩⟩
    exact hV'.e2 (odE_r.resolve_left ne) Fr.rf Fr.rf (by rw [set1_ne (by decide)]) (by rw [set1_ne (by decide)])
end

