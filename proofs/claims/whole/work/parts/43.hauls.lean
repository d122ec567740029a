-- 43.hauls
def pls (w : Nat → Int32) (f : Nat → Int32) (c : Nat) (k : Nat) : Nat → Int32 := match k with
  | 0 => f
  | j + 1 => pls w (pulA f (w c)) (c + 1) j
def hls (w : Nat → Int32) (f : Nat → Int32) (s : Int32) (c : Nat) (k : Nat) : Int32 := match k with
  | 0 => s
  | j + 1 => hls w (pulA f (w c)) (if doe f (w c) = 2 then s + lks f (upm f (w c)) else s) (c + 1) j
set_option maxHeartbeats 4000000 in
theorem hls_eq {w v : Nat → Int32} : ∀ (k c : Nat) (f : Nat → Int32) (s : Int32), (∀ j, c ≤ j → j < c + k → w j = v j) → hls w f s c k = hls v f s c k := by
  intro k
  induction k with
  | zero => intro c f s _; rfl
  | succ k ih =>
    intro c f s h
    simp only [hls]
    rw [h c (Nat.le_refl _) (by omega), ih (c + 1) _ _ (fun j a b => h j (by omega) (by omega))]
set_option maxHeartbeats 4000000 in
theorem pls_eq {w v : Nat → Int32} : ∀ (k c : Nat) (f : Nat → Int32), (∀ j, c ≤ j → j < c + k → w j = v j) → pls w f c k = pls v f c k := by
  intro k
  induction k with
  | zero => intro c f _; rfl
  | succ k ih =>
    intro c f h
    simp only [pls]
    rw [h c (Nat.le_refl _) (by omega), ih (c + 1) _ (fun j a b => h j (by omega) (by omega))]
set_option maxHeartbeats 4000000 in
theorem c_X6_hauls {G : Gm} {t n i : Nat} (hG : fl G = false) {d x z : Nat} {m : Mem} {K : Option Value → Mem → Prop} (hd : 9 ≤ d) (hx : x < 4) (h4 : m 86 x = Int32.ofNat z) (hz : z ≤ 24) (hw : WF (m 76)) (k : ∀ m', Fr [78, 81, 82] m m' → (∀ j, 168 ≤ j → m' 78 j = m 78 j) → K (some (.int (hls (fun j => m 87 (24 * x + j)) (m 76) 0 0 (rwf (fun j => m 87 (24 * x + j)) 0 z)))) m') : Cal G mX6_hauls d [.ref 75, .int (Int32.ofNat x)] SH (TA t n i) m K := by
  obtain ⟨d, rfl⟩ : ∃ e, d = e + 1 := ⟨d - 1, by omega⟩
  have e24 : ∀ c : Nat, (24 : Int32) * Int32.ofNat x + Int32.ofNat c = Int32.ofNat (24 * x + c) := fun c => by
    rw [show (24 : Int32) = Int32.ofNat 24 from rfl, o_mul, Int32.ofNat_add]
  have hN := rwf_le (w := fun j => m 87 (24 * x + j)) z 0
  have hin := rwf_in (w := fun j => m 87 (24 * x + j)) z 0
  refine Cal.of (by decide +kernel) rfl (Nat.le_of_ble_eq_true rfl) (rg_X6_hauls_0 hG 75 (Int32.ofNat x) ⟨rfl, c_X6_rowOf hG (by omega) hx h4 hz ⟨_, rfl, c_X6_layDown hG (by omega) (ii := 0) (by omega) ⟨rfl, ?_⟩⟩⟩)
  generalize hNe : rwf (fun j => m 87 (24 * x + j)) 0 z = N at *
  have hloop : ∀ (r c : Nat), c + r = N → ∀ (m' : Mem) (s : Int32), Fr [76, 78, 81, 82] m m' → m' 78 = cpN (m 78) (m 76) (168 * 0) 0 168 → WF (m' 76) → (∀ j, 168 ≤ j → m' 76 j = m 76 j) → hls (fun j => m 87 (24 * x + j)) (m 76) 0 0 N = hls (fun j => m 87 (24 * x + j)) (m' 76) s c r → WP G (rmD (d + 1) 0 0) mX6_hauls (QC G SH (TA t n i) K) 0 0 16 [(0, .ref 75), (1, .int (Int32.ofNat x)), (2, .int s), (3, .int (Int32.ofNat N)), (4, .int (Int32.ofNat c))] [] (SH, TA t n i, m') := by
    intro r
    induction r with
    | zero =>
      intro c hc m' s hf h78 _ h168 hres
      have hb : cpN (m' 76) (m' 78) 0 (168 * 0) 168 = m 76 := back_eq (fun j hj => by
        rw [h78, cpN, if_pos (by omega)]
        congr 1
        omega) h168
      refine rg_X6_hauls_16 hG 75 _ s _ _ ⟨fun _ => ⟨rfl, c_X6_layBack hG (by omega) (ii := 0) (by omega) ⟨rfl, ?_⟩⟩, fun q => absurd ?_ q⟩
      · rw [hb]
        have := k (set1 m' 76 (m 76)) (fun a ha => ?_) (fun j hj => ?_)
        · rw [hres] at this
          exact this
        · by_cases e : a = 76
          · rw [e, set1_eq]
          · rw [set1_ne e]
            exact hf a (by simp at ha ⊢; omega)
        · rw [set1_ne (by decide), h78, cpN, if_neg (by omega)]
      · rw [o_le (by omega) (by omega)]
        omega
    | succ r ih =>
      intro c hc m' s hf h78 hw' h168 hres
      have hlt : ¬ Int32.ofNat N ≤ Int32.ofNat c := fun q => by
        rw [o_le (by omega) (by omega)] at q
        omega
      have hp0 : 1 ≤ m 87 (24 * x + c) ∧ m 87 (24 * x + c) ≤ 15 := hin c (by omega) (by omega)
      simp only [hls] at hres
      refine rg_X6_hauls_16 hG 75 _ s _ _ ⟨fun q => absurd q hlt, fun _ => ⟨rfl, 87, rfl, 96, rfl, ?_⟩⟩
      rw [e24, rd_o (by omega), hf 87 (by decide), o_1]
      refine ⟨ib_o (by omega) (by decide), ?_⟩
      generalize m 87 (24 * x + c) = p at *
      have hp := pul_ok hw' hp0
      have c0 : 0 ≤ p ∧ p ≤ 15 := ⟨Int32.le_trans (by decide) hp0.1, hp0.2⟩
      refine c_X6_pulls1 hG (by omega) hw' hp0 (fun m2 hf2 e2 => ⟨_, rfl, ?_⟩)
      have go : ∀ (m3 : Mem) (s3 : Int32), Fr [81, 82] m2 m3 → s3 = (if doe (m' 76) p = 2 then s + lks (m' 76) (upm (m' 76) p) else s) → WP G (rmD (d + 1) 0 0) mX6_hauls (QC G SH (TA t n i) K) 0 0 16 [(0, .ref 75), (1, .int (Int32.ofNat x)), (2, .int s3), (3, .int (Int32.ofNat N)), (4, .int (Int32.ofNat (c + 1)))] [] (SH, TA t n i, m3) := by
        intro m3 s3 h3 hs3
        have e3 : m3 76 = pulA (m' 76) p := by rw [h3 76 (by decide), e2]
        refine ih (c + 1) (by omega) m3 s3 (hf.tr ((hf2.mo (by simp)).tr (h3.mo (by simp)))) ?_ ?_ ?_ ?_
        · rw [h3 78 (by decide), hf2 78 (by decide), h78]
        · rw [e3]; exact hp.1
        · intro j hj
          rw [e3, hp.2.2.1 j hj, h168 j hj]
        · rw [e3, hs3]; exact hres
      by_cases dd : doe (m' 76) p = 2
      · have hu := doe_u (Or.inr dd)
        have hu2 := upm_ok hw'.2.1 c0 hu
        rw [if_pos dd]
        refine ⟨fun _ => c_X6_likes hG (by omega) (by rw [e2]; exact hp.1) (by rw [e2, hp.2.1]; exact hu2.1) (fun m3 hf3 => ⟨_, rfl, ?_⟩), fun q => absurd q hu⟩
        refine go m3 _ hf3 ?_
        rw [if_pos dd, e2, lks_pul hw' hp0 ⟨hu2.1.1, Int32.lt_of_lt_of_le hu2.1.2 hw'.1.1.2⟩]
      · rw [if_neg dd]
        refine ⟨fun q => absurd rfl q, fun _ => go m2 _ Fr.rf ?_⟩
        rw [if_neg dd, Int32.add_zero]
  refine hloop N 0 (by omega) _ 0 (fun a ha => set1_ne (fun e => by rw [e] at ha; simp at ha)) set1_eq ?_ ?_ ?_
  · rw [set1_ne (by decide)]; exact hw
  · intro j _; rw [set1_ne (by decide)]
  · rw [set1_ne (by decide)]
set_option maxHeartbeats 4000000 in
theorem c_X5_haulOf {G : Gm} {t n i : Nat} (hG : fl G = false) {d b z : Nat} {m : Mem} {K : Option Value → Mem → Prop} {f : Nat → Int32} (hd : 9 ≤ d) (hb0 : 24 ≤ b ∧ b ≤ 30) (s1 : SH[b]? = some (.inl 2)) (s2 : TA t n i b 0 = some (b + 1)) (s3 : SH[b + 1]? = some (.inr (0, 24))) (h4 : m b 1 = Int32.ofNat z) (hz : z ≤ 24) (hb : RB m 67 68 f) (ht : RT m 36 40 f) (hw : WF f) (k : ∀ m', Fr [36, 39, 40, 43, 67, 71, 72, 73, 74] m m' → K (some (.int (hls (m (b + 1)) f 0 0 (rwf (m (b + 1)) 0 z)))) m') : Cal G mX5_haulOf d [.ref 67, .ref b] SH (TA t n i) m K := by
  obtain ⟨d, rfl⟩ : ∃ e, d = e + 1 := ⟨d - 1, by omega⟩
  have hN := rwf_le (w := m (b + 1)) z 0
  have hin := rwf_in (w := m (b + 1)) z 0
  refine Cal.of (by decide +kernel) rfl (Nat.le_of_ble_eq_true rfl) (rg_X5_haulOf_0 hG 67 b (c_X5_pullsIn hG (by omega) s1 s2 s3 h4 hz ⟨_, rfl, ?_⟩))
  generalize hNe : rwf (m (b + 1)) 0 z = N at *
  have hloop : ∀ (r c : Nat), c + r = N → ∀ (m' : Mem) (s : Int32) (g : Nat → Int32), Fr [36, 39, 40, 43, 67, 71, 72, 73, 74] m m' → RB m' 67 68 g → RT m' 36 40 g → WF g → hls (m (b + 1)) f 0 0 N = hls (m (b + 1)) g s c r → WP G (rmD (d + 1) 0 0) mX5_haulOf (QC G SH (TA t n i) K) 0 0 10 [(0, .ref 67), (1, .ref b), (2, .int (Int32.ofNat N)), (3, .int s), (4, .int (Int32.ofNat c))] [] (SH, TA t n i, m') := by
    intro r
    induction r with
    | zero =>
      intro c hc m' s g hf _ _ _ hres
      refine rg_X5_haulOf_10 hG 67 b _ s _ ⟨fun _ => ?_, fun q => absurd ?_ q⟩
      · have := k m' hf
        rw [hres] at this
        exact this
      · rw [o_le (by omega) (by omega)]
        omega
    | succ r ih =>
      intro c hc m' s g hf hb' ht' hw' hres
      have hlt : ¬ Int32.ofNat N ≤ Int32.ofNat c := fun q => by
        rw [o_le (by omega) (by omega)] at q
        omega
      have hp0 : 1 ≤ m (b + 1) c ∧ m (b + 1) c ≤ 15 := hin c (by omega) (by omega)
      have e0 : m' b = m b := hf b (by simp; omega)
      have e1 : m' (b + 1) = m (b + 1) := hf (b + 1) (by simp; omega)
      simp only [hls] at hres
      refine rg_X5_haulOf_10 hG 67 b _ s _ ⟨fun q => absurd q hlt, fun _ => ⟨s1, c_X2_at hG (by omega) s1 s2 s3 (by rw [e0, h4]; exact (o_le (by omega) (by omega)).mpr hz) (by decide) ⟨_, rfl, rfl, ?_⟩⟩⟩
      rw [if_pos ⟨o_0 c (by omega), by rw [e0, h4]; exact (o_lt (by omega) (by omega)).mpr (by omega)⟩, rd_o (by omega), e1, o_1]
      generalize m (b + 1) c = p at *
      have hp := pul_ok hw' hp0
      have c0 : 0 ≤ p ∧ p ≤ 15 := ⟨Int32.le_trans (by decide) hp0.1, hp0.2⟩
      refine c_X0_grip hG (by omega) B67 hb' ht' hw' hp0 (fun m2 hf2 hr2 _ _ e15 => ⟨_, rfl, ?_⟩)
      have ht2 : RT m2 36 40 (pulA g p) := (ht'.fr hf2 (by decide) (by decide) (by decide) (by decide)).hi hp.2.2.1 hw'.2.2.2.1 hw'.2.2.2.2
      have hf3 : Fr [36, 39, 40, 43, 67, 71, 72, 73, 74] m m2 := hf.tr (hf2.mo (by simp))
      refine ⟨fun dd => ?_, fun dd => ?_⟩
      · rw [if_neg dd] at hres
        exact ih (c + 1) (by omega) m2 s _ hf3 hr2 ht2 hp.1 hres
      · have hu := doe_u (Or.inr dd)
        have hu2 := upm_ok hw'.2.1 c0 hu
        rw [if_pos dd] at hres
        rw [e15]
        refine c_X0_likes hG (by omega) B67 hr2 ht2 hp.1 (by rw [hp.2.1]; exact hu2.1) (fun m3 h3 => ⟨_, rfl, ?_⟩)
        rw [lks_pul hw' hp0 ⟨hu2.1.1, Int32.lt_of_lt_of_le hu2.1.2 hw'.1.1.2⟩]
        exact ih (c + 1) (by omega) m3 _ _ (hf3.tr (h3.mo (by simp))) (hr2.fr h3 (by decide) (by intro j hj; simp; omega)) (ht2.fr h3 (by decide) (by decide) (by decide) (by decide)) hp.1 hres
  exact hloop N 0 (by omega) m 0 f Fr.rf hb ht hw rfl

