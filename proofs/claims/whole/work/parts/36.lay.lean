-- 36.lay
def cpN (g h : Nat → Int32) (dp sp n : Nat) : Nat → Int32 := fun j => if dp ≤ j ∧ j < dp + n then h (sp + (j - dp)) else g j
set_option maxHeartbeats 4000000 in
theorem cpN_0 {g h : Nat → Int32} {dp sp : Nat} : cpN g h dp sp 0 = g := by
  funext j
  unfold cpN
  rw [if_neg (by omega)]
set_option maxHeartbeats 4000000 in
theorem cpN_s {g h : Nat → Int32} {dp sp k : Nat} (hb : dp + k < 2147483648) : wr (cpN g h dp sp k) (Int32.ofNat (dp + k)) (h (sp + k)) = cpN g h dp sp (k + 1) := by
  funext j
  unfold wr cpN
  rw [tn_o hb]
  by_cases e : j = dp + k
  · rw [if_pos e, if_pos (by omega), e, show sp + (dp + k - dp) = sp + k by omega]
  · rw [if_neg e]
    by_cases e2 : dp ≤ j ∧ j < dp + k
    · rw [if_pos e2, if_pos (by omega)]
    · rw [if_neg e2, if_neg (by omega)]
set_option maxHeartbeats 4000000 in
theorem o_mul (a b : Nat) : Int32.ofNat a * Int32.ofNat b = Int32.ofNat (a * b) := (Int32.ofNat_mul a b).symm
set_option maxHeartbeats 4000000 in
theorem o_add (a b : Nat) : Int32.ofNat a + Int32.ofNat b = Int32.ofNat (a + b) := (Int32.ofNat_add a b).symm
set_option maxHeartbeats 4000000 in
theorem rd_o {g : Nat → Int32} {k : Nat} (h : k < 2147483648) : rd g (Int32.ofNat k) = g k := by
  unfold rd
  rw [tn_o h]
section
variable {G : Gm} {d t n i : Nat} {m : Mem} {K : Option Value → Mem → Prop}
set_option maxHeartbeats 4000000 in
theorem c_X6_layDown (hG : fl G = false) (hd : 1 ≤ d) {ii : Nat} (h1 : ii ≤ 3) (k : K none (set1 m 78 (cpN (m 78) (m 76) (168 * ii) 0 168))) : Cal G mX6_layDown d [.ref 75, .int (Int32.ofNat ii)] SH (TA t n i) m K := by
  have hloop : ∀ (r k : Nat), k + r = 168 → WP G (rmD d 0 0) mX6_layDown (QC G SH (TA t n i) K) 0 0 2 [(0, .ref 75), (1, .int (Int32.ofNat ii)), (2, .int (Int32.ofNat k))] [] (SH, TA t n i, set1 m 78 (cpN (m 78) (m 76) (168 * ii) 0 k)) := by
    obtain ⟨d, rfl⟩ : ∃ e, d = e + 1 := ⟨d - 1, by omega⟩
    intro r
    induction r with
    | zero =>
      intro k hk
      have : k = 168 := by omega
      subst this
      exact rg_X6_layDown_2 hG 75 (Int32.ofNat ii) (Int32.ofNat 168) ⟨fun _ => k, fun c => absurd (Int32.le_refl _) c⟩
    | succ r ih =>
      intro kk hk
      have ei : (168 : Int32) * Int32.ofNat ii + Int32.ofNat kk = Int32.ofNat (168 * ii + kk) := by
        rw [show (168 : Int32) = Int32.ofNat 168 from rfl, o_mul, o_add]
      refine rg_X6_layDown_2 hG 75 (Int32.ofNat ii) (Int32.ofNat kk) ⟨fun c => ?_, fun _ => ⟨rfl, _, rfl, _, rfl, _, rfl, ib_o (by omega) (by decide), _, rfl, ?_, ?_⟩⟩
      · exfalso
        rw [show (168 : Int32) = Int32.ofNat 168 from rfl, o_le (by decide) (by omega)] at c
        omega
      · rw [ei]; exact ib_o (by omega) (by decide)
      · rintro _ rfl
        rw [ei, upa_set, set1_set, set1_eq, set1_ne (by decide), rd_o (by omega), o_1]
        have e2 := cpN_s (g := m 78) (h := m 76) (dp := 168 * ii) (sp := 0) (k := kk) (by omega)
        rw [Nat.zero_add] at e2
        rw [e2]
        exact ih (kk + 1) (by omega)
  obtain ⟨d, rfl⟩ : ∃ e, d = e + 1 := ⟨d - 1, by omega⟩
  refine Cal.of (by decide +kernel) rfl (Nat.le_of_ble_eq_true rfl) (rg_X6_layDown_0 hG 75 ((Int32.ofNat ii)) ?_)
  have := hloop 168 0 rfl
  rw [cpN_0, set1_self] at this
  exact this
set_option maxHeartbeats 4000000 in
theorem c_X6_layBack (hG : fl G = false) (hd : 1 ≤ d) {ii : Nat} (h1 : ii ≤ 3) (k : K none (set1 m 76 (cpN (m 76) (m 78) 0 (168 * ii) 168))) : Cal G mX6_layBack d [.ref 75, .int (Int32.ofNat ii)] SH (TA t n i) m K := by
  have hloop : ∀ (r k : Nat), k + r = 168 → WP G (rmD d 0 0) mX6_layBack (QC G SH (TA t n i) K) 0 0 2 [(0, .ref 75), (1, .int (Int32.ofNat ii)), (2, .int (Int32.ofNat k))] [] (SH, TA t n i, set1 m 76 (cpN (m 76) (m 78) 0 (168 * ii) k)) := by
    obtain ⟨d, rfl⟩ : ∃ e, d = e + 1 := ⟨d - 1, by omega⟩
    intro r
    induction r with
    | zero =>
      intro k hk
      have : k = 168 := by omega
      subst this
      exact rg_X6_layBack_2 hG 75 (Int32.ofNat ii) (Int32.ofNat 168) ⟨fun _ => k, fun c => absurd (Int32.le_refl _) c⟩
    | succ r ih =>
      intro kk hk
      have ei : (168 : Int32) * Int32.ofNat ii + Int32.ofNat kk = Int32.ofNat (168 * ii + kk) := by
        rw [show (168 : Int32) = Int32.ofNat 168 from rfl, o_mul, o_add]
      refine rg_X6_layBack_2 hG 75 (Int32.ofNat ii) (Int32.ofNat kk) ⟨fun c => ?_, fun _ => ⟨rfl, _, rfl, _, rfl, _, rfl, ?_, _, rfl, ib_o (by omega) (by decide), ?_⟩⟩
      · exfalso
        rw [show (168 : Int32) = Int32.ofNat 168 from rfl, o_le (by decide) (by omega)] at c
        omega
      · rw [ei]; exact ib_o (by omega) (by decide)
      · rintro _ rfl
        rw [ei, upa_set, set1_set, set1_eq, set1_ne (by decide), rd_o (by omega), o_1]
        have e2 := cpN_s (g := m 76) (h := m 78) (dp := 0) (sp := 168 * ii) (k := kk) (by omega)
        rw [Nat.zero_add] at e2
        rw [e2]
        exact ih (kk + 1) (by omega)
  obtain ⟨d, rfl⟩ : ∃ e, d = e + 1 := ⟨d - 1, by omega⟩
  refine Cal.of (by decide +kernel) rfl (Nat.le_of_ble_eq_true rfl) (rg_X6_layBack_0 hG 75 ((Int32.ofNat ii)) ?_)
  have := hloop 168 0 rfl
  rw [cpN_0, set1_self] at this
  exact this
set_option maxHeartbeats 4000000 in
theorem c_X6_carry (hG : fl G = false) (hd : 1 ≤ d) {b c : Nat} (h1 : SH[b]? = some (.inr (0, 502))) (h2 : SH[c]? = some (.inr (0, 502))) (h3 : b ≠ c) (k : K none (set1 m c (cpN (m c) (m b) 0 0 502))) : Cal G mX6_carry d [.ref b, .ref c] SH (TA t n i) m K := by
  have hloop : ∀ (r k : Nat), k + r = 502 → WP G (rmD d 0 0) mX6_carry (QC G SH (TA t n i) K) 0 0 2 [(0, .ref b), (1, .ref c), (2, .int (Int32.ofNat k))] [] (SH, TA t n i, set1 m c (cpN (m c) (m b) 0 0 k)) := by
    obtain ⟨d, rfl⟩ : ∃ e, d = e + 1 := ⟨d - 1, by omega⟩
    intro r
    induction r with
    | zero =>
      intro k hk
      have : k = 502 := by omega
      subst this
      exact rg_X6_carry_2 hG b c (Int32.ofNat 502) ⟨fun _ => k, fun c => absurd (Int32.le_refl _) c⟩
    | succ r ih =>
      intro kk hk
      refine rg_X6_carry_2 hG b c (Int32.ofNat kk) ⟨fun c => ?_, fun _ => ⟨_, h1, ib_o (by omega) (by decide), _, h2, ib_o (by omega) (by decide), ?_⟩⟩
      · exfalso
        rw [show (502 : Int32) = Int32.ofNat 502 from rfl, o_le (by decide) (by omega)] at c
        omega
      · rintro _ rfl
        rw [upa_set, set1_set, set1_eq, set1_ne h3, rd_o (by omega), o_1]
        have e2 := cpN_s (g := m c) (h := m b) (dp := 0) (sp := 0) (k := kk) (by omega)
        rw [Nat.zero_add] at e2
        rw [e2]
        exact ih (kk + 1) (by omega)
  obtain ⟨d, rfl⟩ : ∃ e, d = e + 1 := ⟨d - 1, by omega⟩
  refine Cal.of (by decide +kernel) rfl (Nat.le_of_ble_eq_true rfl) (rg_X6_carry_0 hG b c ?_)
  have := hloop 502 0 rfl
  rw [cpN_0, set1_self] at this
  exact this
end
-- the first cell from c on, of k cells, that gives something
def fsm (F : Int32 → Option (List Int32)) (c : Int32) (k : Nat) : Option (List Int32) := match k with
  | 0 => none
  | j + 1 => match F c with
    | some x => some x
    | none => fsm F (c + 1) j
def wnA (t : Int32) (n : Nat) (f : Nat → Int32) : Option (List Int32) := match n with
  | 0 => if its f t 3 = -1 then some [] else none
  | k + 1 => fsm (fun c => (wnA t k (pulA f c)).map (c :: ·)) 1 15
def ob (o : Option (List Int32)) : Int32 := match o with
  | some _ => 1
  | none => 0
set_option maxHeartbeats 4000000 in
theorem back_eq {f g L : Nat → Int32} {ii : Nat} (h : ∀ j, j < 168 → L (168 * ii + j) = f j) (h2 : ∀ j, 168 ≤ j → g j = f j) : cpN g L 0 (168 * ii) 168 = f := by
  funext j
  unfold cpN
  by_cases e : j < 168
  · rw [if_pos ⟨Nat.zero_le _, by omega⟩, Nat.sub_zero, h j e]
  · rw [if_neg (by omega), h2 j (by omega)]
set_option maxHeartbeats 4000000 in
theorem c_X6_wins {G : Gm} {n i t0 : Nat} (hG : fl G = false) (t : Int32) : ∀ (r ii d : Nat) (m : Mem) (K : Option Value → Mem → Prop), 9 + r ≤ d → ii + r ≤ 3 → WF (m 76) → (0 ≤ t ∧ t < rd (m 76) 0) → (∀ m', Fr [78, 81, 82, 83] m m' → (∀ j, j < 168 * ii → m' 78 j = m 78 j) → (∀ j, j < ii → m' 83 j = m 83 j) → (∀ l, wnA t r (m 76) = some l → ∀ j c, l[j]? = some c → m' 83 (ii + j) = c) → K (some (.int (ob (wnA t r (m 76))))) m') → Cal G mX6_wins d [.ref 75, .int t, .int (Int32.ofNat ii), .int (Int32.ofNat (ii + r))] SH (TA t0 n i) m K := by
  intro r
  induction r with
  | zero =>
    intro ii d m K hd hr hw ht k
    obtain ⟨d, rfl⟩ : ∃ e, d = e + 1 := ⟨d - 1, by omega⟩
    have t16 : t < 16 := ar_u16 ht.2 hw.1.1.2
    have k0 := k m Fr.rf (fun _ _ => rfl) (fun _ _ => rfl) (by
      intro l hl j c hc
      simp only [wnA] at hl
      split at hl
      · cases hl; simp at hc
      · cases hl)
    refine Cal.of (by decide +kernel) rfl (Nat.le_of_ble_eq_true rfl) (rg_X6_wins_0 hG 75 t (Int32.ofNat ii) (Int32.ofNat (ii + 0)) ⟨fun c => absurd rfl c, fun _ => ⟨rfl, c_X6_its hG (by omega) ⟨ht.1, t16⟩ (by decide) ⟨_, rfl, fun c => kv k0 ?_, fun c => kv k0 ?_⟩⟩⟩)
    · rw [show wnA t 0 (m 76) = none from if_neg c]; rfl
    · rw [show wnA t 0 (m 76) = some [] from if_pos c]; rfl
  | succ r ih =>
    intro ii d m K hd hr hw ht k
    obtain ⟨d, rfl⟩ : ∃ e, d = e + 1 := ⟨d - 1, by omega⟩
    have hloop : ∀ (q : Nat), q ≤ 15 → ∀ m', Fr [78, 81, 82, 83] m m' → (∀ j, j < 168 * ii → m' 78 j = m 78 j) → (∀ j, j < 168 → m' 78 (168 * ii + j) = m 76 j) → (∀ j, j < ii → m' 83 j = m 83 j) → wnA t (r + 1) (m 76) = fsm (fun c => (wnA t r (pulA (m 76) c)).map (c :: ·)) (Int32.ofNat (16 - q)) q → WP G (rmD (d + 1) 0 0) mX6_wins (QC G SH (TA t0 n i) K) 0 0 29 [(0, .ref 75), (1, .int t), (2, .int (Int32.ofNat ii)), (3, .int (Int32.ofNat (ii + (r + 1)))), (4, .int (Int32.ofNat (16 - q)))] [] (SH, TA t0 n i, m') := by
      intro q
      induction q with
      | zero =>
        intro _ m' hf hl1 hl2 hwy hres
        have hn : wnA t (r + 1) (m 76) = none := hres
        refine rg_X6_wins_29 hG 75 t (Int32.ofNat ii) (Int32.ofNat (ii + (r + 1))) _ ⟨fun _ => ?_, fun c => absurd (Int32.le_refl _) c⟩
        refine kv (k m' hf hl1 hwy (fun l h => by rw [hn] at h; cases h)) ?_
        rw [hn]; rfl
      | succ q ihq =>
        intro hq m' hf hl1 hl2 hwy hres
        have hc : 1 ≤ Int32.ofNat (16 - (q + 1)) ∧ Int32.ofNat (16 - (q + 1)) ≤ 15 := ⟨(o_le (a := 1) (by decide) (by omega)).mpr (by omega), (o_le (b := 15) (by omega) (by decide)).mpr (by omega)⟩
        have ec : Int32.ofNat (16 - (q + 1)) + 1 = Int32.ofNat (16 - q) := by rw [o_1]; congr 1; omega
        generalize Int32.ofNat (16 - (q + 1)) = c at *
        have h76 : m' 76 = m 76 := hf 76 (by decide)
        have hp := pul_ok hw hc
        refine rg_X6_wins_29 hG 75 t (Int32.ofNat ii) (Int32.ofNat (ii + (r + 1))) c ⟨fun z => absurd (Int32.le_trans z hc.2) (by decide), fun _ => ⟨rfl, _, rfl, _, rfl, ib_o (by omega) (by decide), ?_⟩⟩
        rintro _ rfl
        have f1 : Fr [78, 81, 82, 83] m (upa m' 83 (Int32.ofNat ii) c) := hf.tr (Fr.ua (by decide))
        refine c_X6_pulls1 hG (by omega) (by rw [upa_ne (by decide), h76]; exact hw) hc (fun m2 hf2 e2 => ⟨_, rfl, ?_⟩)
        rw [upa_ne (by decide), h76] at e2
        have f2 : ∀ a, a ∉ [76, 78, 81, 82, 83] → m2 a = m a := fun a ha => (hf2 a (by simp at ha ⊢; omega)).trans (f1 a (by simp at ha ⊢; omega))
        have e83 : m2 83 = wr (m' 83) (Int32.ofNat ii) c := by rw [hf2 83 (by decide), upa_eq]
        have e78 : m2 78 = m' 78 := by rw [hf2 78 (by decide), upa_ne (by decide)]
        rw [o_1, show ii + (r + 1) = ii + 1 + r by omega]
        refine ih (ii + 1) d m2 _ (by omega) (by omega) (by rw [e2]; exact hp.1) ⟨ht.1, by rw [e2, hp.2.1]; exact ht.2⟩ (fun m3 hf3 g1 g2 g3 => ⟨_, rfl, ?_⟩)
        rw [e2] at g3 ⊢
        refine c_X6_layBack hG (by omega) (by omega) ⟨rfl, ?_⟩
        have e4 : cpN (m3 76) (m3 78) 0 (168 * ii) 168 = m 76 := by
          refine back_eq (fun j hj => ?_) (fun j hj => ?_)
          · rw [g1 _ (by omega), e78]; exact hl2 j hj
          · rw [hf3 76 (by decide), e2]; exact hp.2.2.1 j hj
        rw [e4]
        have f4 : Fr [78, 81, 82, 83] m (set1 m3 76 (m 76)) := by
          intro a ha
          by_cases z : a = 76
          · rw [z, set1_eq]
          · rw [set1_ne z, hf3 a ha, f2 a (by simp at ha ⊢; omega)]
        have l1 : ∀ j, j < 168 * ii → set1 m3 76 (m 76) 78 j = m 78 j := fun j hj => by rw [set1_ne (by decide), g1 j (by omega), e78, hl1 j hj]
        have l2 : ∀ j, j < 168 → set1 m3 76 (m 76) 78 (168 * ii + j) = m 76 j := fun j hj => by rw [set1_ne (by decide), g1 _ (by omega), e78, hl2 j hj]
        have w1 : ∀ j, j < ii → set1 m3 76 (m 76) 83 j = m 83 j := fun j hj => by
          rw [set1_ne (by decide), g2 j (by omega), e83]
          unfold wr
          rw [tn_o (by omega), if_neg (by omega), hwy j hj]
        refine ⟨fun z => ?_, fun z => ?_⟩
        · rw [show ii + 1 + r = ii + (r + 1) by omega, ec]
          refine ihq (by omega) _ f4 l1 l2 w1 ?_
          rw [hres]
          simp only [fsm]
          cases hx : wnA t r (pulA (m 76) c) with
          | some l => rw [hx] at z; exact absurd z (by show ¬ (1 : Int32) = 0; decide)
          | none => simp only [Option.map_none]; rw [ec]
        · cases hx : wnA t r (pulA (m 76) c) with
          | none => rw [hx] at z; exact absurd rfl z
          | some l =>
            have hr2 : wnA t (r + 1) (m 76) = some (c :: l) := by rw [hres]; simp only [fsm, hx, Option.map_some]
            refine kv (k _ f4 l1 w1 (fun l2 h2 j x hjx => ?_)) (by rw [hr2]; rfl)
            rw [hr2] at h2
            cases h2
            cases j with
            | zero =>
              simp only [List.getElem?_cons_zero, Option.some.injEq] at hjx
              rw [set1_ne (by decide), g2 _ (by omega), e83, ← hjx]
              unfold wr
              rw [tn_o (by omega), if_pos (by omega)]
            | succ j =>
              rw [set1_ne (by decide), show ii + (j + 1) = ii + 1 + j by omega]
              exact g3 l hx j x (by simpa using hjx)
    refine Cal.of (by decide +kernel) rfl (Nat.le_of_ble_eq_true rfl) (rg_X6_wins_0 hG 75 t (Int32.ofNat ii) (Int32.ofNat (ii + (r + 1))) ⟨fun _ => ⟨rfl, c_X6_layDown hG (by omega) (by omega) ⟨rfl, ?_⟩⟩, fun c => ?_⟩)
    · refine hloop 15 (Nat.le_refl _) _ (Fr.s1 (by decide)) (fun j hj => ?_) (fun j hj => ?_) (fun j hj => by rw [set1_ne (by decide)]) rfl
      · rw [set1_eq]; unfold cpN; rw [if_neg (by omega)]
      · rw [set1_eq]; unfold cpN; rw [if_pos (by omega)]; congr 1; omega
    · exfalso
      rw [o_eq (by omega) (by omega)] at c
      omega

