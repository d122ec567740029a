theorem c16 {P : Int32 → Prop} (h : ∀ k, k < 16 → P (Int32.ofNat k)) {c : Int32} (h0 : 0 ≤ c) (h1 : c ≤ 15) : P c := by
  have h2 := Int32.le_iff_toInt_le.mp h0
  have h3 := Int32.le_iff_toInt_le.mp h1
  rw [show (0 : Int32).toInt = 0 from rfl] at h2
  rw [show (15 : Int32).toInt = 15 from rfl] at h3
  have : c = Int32.ofNat c.toInt.toNat := by
    apply Int32.toInt_inj.mp
    rw [Int32.toInt_ofNat_of_lt (by omega)]
    omega
  rw [this]
  exact h _ (by omega)
def hld (x lo hi : Int32) : Int32 := if x < lo then lo else if hi < x then hi else x
def WN (f : Nat → Int32) : Prop := (0 ≤ rd f 1 ∧ rd f 1 ≤ 99999) ∧ (0 ≤ rd f 2 ∧ rd f 2 ≤ 9999) ∧ (0 ≤ rd f 3 ∧ rd f 3 ≤ 99) ∧ (0 ≤ rd f 4 ∧ rd f 4 ≤ 9) ∧ (0 ≤ rd f 5 ∧ rd f 5 ≤ 60) ∧ (0 ≤ rd f 6 ∧ rd f 6 ≤ 24)
def WF (f : Nat → Int32) : Prop := WT f ∧ WC f ∧ WN f ∧ WX f 0 ∧ WX f 1
def ndT (f : Nat → Int32) (t : Int32) : Int32 := if tN f 0 ≤ 0 then 20 + its f t 1 else tE f 0 (nmC 0 (its f t 1) (if its f t 3 < 0 then 0 else upn f t) (if its f t 3 < 0 then 0 else und f t) (its f t 3))
def nd0 (f : Nat → Int32) (t : Int32) : Int32 := if its f t 0 = 1 then 20 + its f t 1 + 10 else if its f t 0 = 2 then 20 + its f t 1 - 8 else if its f t 0 = 3 then 2 * (20 + its f t 1) else if its f t 0 = 4 then 20 + its f t 1 + 10 + its f t 1 else if its f t 0 = 5 then 20 + its f t 1 - 8 + 2 * (if its f t 3 < 0 then 0 else upn f t) else if its f t 0 = 6 then ndT f t else 20 + its f t 1
def nds (f : Nat → Int32) (t : Int32) : Int32 := hld (nd0 f t) 1 99
def lks (f : Nat → Int32) (t : Int32) : Int32 := hld (if tN f 1 ≤ 0 then its f t 2 else tE f 1 (nmC 1 (its f t 2) (its f t 0) (its f t 1) 0)) (-999) 999
def doe (f : Nat → Int32) (c : Int32) : Int32 := if upm f c = -1 then 0 else if nds f (upm f c) ≤ stg f 0 then 2 else if 2 * stg f 0 < nds f (upm f c) then 0 else if nea c = 0 then 2 else if sz f (nea c) = 5 then 3 else 1
theorem evs_congr {u : Int32} {wh va : Nat → Int32} {nm nm' : Int32 → Int32} (h : ∀ v, nmOK u v → nm v = nm' v) : ∀ k, (∀ j, j < k → stOK u wh va j) → evs wh va nm k = evs wh va nm' k
  | 0, _ => rfl
  | k + 1, hs => by
    have ih := evs_congr h k (fun j hj => hs j (by omega))
    simp only [evs]
    rw [ih]
    rcases hs k (by omega) with ⟨hw, -⟩ | ⟨hw, hn⟩ | ⟨hw, -⟩ | ⟨hw, -⟩
    · rw [stp0 hw, stp0 hw]
    · rw [stp1 hw, stp1 hw, h _ hn]
    · rw [hw]; simp [stp]
    · rw [hw]; simp [stp]
theorem tE_congr {f : Nat → Int32} {u : Int32} {nm nm' : Int32 → Int32} (hx : WX f u) (h : ∀ v, nmOK u v → nm v = nm' v) : tE f u nm = tE f u nm' := by
  obtain ⟨N, hN, hw⟩ := hx
  have hb := hw.1
  rw [tE, tE, hN, tn_o (by omega), evs_congr h N (fun j hj => hw.2.1 j hj)]
theorem tN_pos {f : Nat → Int32} {u : Int32} (hx : WX f u) : 0 ≤ tN f u ∧ tN f u ≤ 60 := by
  obtain ⟨N, hN, hw⟩ := hx
  have hb := hw.1
  rw [hN]
  exact ⟨o_0 _ (by omega), (o_le (b := 60) (by omega) (by decide)).mpr hb⟩
theorem hgt_ok {f : Nat → Int32} {t : Int32} (h1 : WT f) (h2 : WC f) (h3 : 0 ≤ t ∧ t < rd f 0) (h4 : 0 ≤ its f t 3) : 0 ≤ hgt f t ∧ hgt f t < sz f (its f t 3) ∧ pl f (its f t 3) (hgt f t) = t ∧ sz f (its f t 3) ≤ 5 := by
  obtain ⟨-, -, -, ⟨-, e3, -⟩, e5⟩ := h1.2 t h3.1 h3.2
  obtain ⟨g, g0, g1, g2⟩ := e5 h4
  have g3 := (h2 _ h4 e3).1.2
  generalize ec : its f t 3 = c at *
  have hx : hgt f t = if pl f c 0 = t then 0 else if pl f c 1 = t then 1 else if pl f c 2 = t then 2 else if pl f c 3 = t then 3 else 4 := by rw [hgt, ec]
  rw [hx]
  clear hx h1 h2 e5
  have hg : g = 0 ∨ g = 1 ∨ g = 2 ∨ g = 3 ∨ g = 4 := by grind
  rcases hg with rfl | rfl | rfl | rfl | rfl <;> grind
theorem hgt_eq {f : Nat → Int32} {c h : Int32} (h1 : WT f) (h2 : WC f) (hc : 0 ≤ c ∧ c ≤ 15) (hh : 0 ≤ h ∧ h < sz f c) : hgt f (pl f c h) = h := by
  obtain ⟨a1, a2, a3⟩ := (h2 c hc.1 hc.2).2 h hh.1 hh.2
  have := hgt_ok h1 h2 a1 (by rw [a2]; exact hc.1)
  rw [a2] at this
  exact a3 _ this.1 this.2.1 this.2.2.1
theorem upm_ok {f : Nat → Int32} {c : Int32} (h2 : WC f) (hc : 0 ≤ c ∧ c ≤ 15) (hn : upm f c ≠ -1) : (0 ≤ upm f c ∧ upm f c < rd f 0) ∧ its f (upm f c) 3 = c ∧ 0 < sz f c ∧ upm f c = pl f c (sz f c - 1) := by
  have h3 := (h2 c hc.1 hc.2).1
  have h4 := (h2 c hc.1 hc.2).2 (sz f c - 1)
  unfold upm at hn ⊢
  by_cases h : sz f c = 0
  · rw [if_pos h] at hn; exact absurd rfl hn
  · rw [if_neg h] at hn ⊢
    have h5 := h4 (by grind) (by grind)
    exact ⟨h5.1, h5.2.1, by grind, rfl⟩
section
variable {G : Gm} {d t n i : Nat} {m : Mem} {K : Option Value → Mem → Prop}
theorem c_X6_needsTold (hG : fl G = false) (hd : 4 ≤ d) {x : Int32} (h1 : WT (m 76)) (h2 : WC (m 76)) (h3 : WX (m 76) 0) (h4 : 0 ≤ x ∧ x < rd (m 76) 0) (k : ∀ m', Fr [81, 82] m m' → K (some (.int (ndT (m 76) x))) m') : Cal G mX6_needsTold d [.ref 75, .int x] SH (TA t n i) m K := by
  have e0 := h1.1
  have e6 := tN_pos h3
  have hR : ∀ m2 : Mem, Fr [81] m m2 → Fr [81, 82] m m2 := fun m2 h => h.mo (by simp)
  have go : ∀ (y0 y1 y2 y3 : Int32) (m2 : Mem), Fr [81] m m2 → m2 81 = wr (wr (wr (wr (m 81) 109 y0) 111 y1) 117 y2) 99 y3 → ¬ tN (m 76) 0 ≤ 0 → K (some (.int (tE (m 76) 0 (nmC 0 y0 y1 y2 y3)))) = K (some (.int (ndT (m 76) x))) → Cal G mX6_worked (d - 1) [.ref 75, .int 0] SH (TA t n i) m2 (fun v m' => ∃ r, v = some (.int r) ∧ K (some (.int r)) m') := by
    intro y0 y1 y2 y3 m2 hf h81 hn hk
    have h76 : m2 76 = m 76 := hf 76 (by decide)
    refine c_X6_worked hG (by omega) (Or.inl rfl) (by rw [h76]; exact h3) (by rw [h76]; grind) (fun m3 hf3 => ⟨_, rfl, ?_⟩)
    rw [h76, h81, tE_congr (nm' := nmC 0 y0 y1 y2 y3) h3, hk]
    · exact k _ ((hR _ hf).tr (hf3.mo (by simp)))
    · intro v hv
      rcases hv with ⟨-, rfl | rfl | rfl | rfl⟩ | ⟨z, -⟩
      · rw [rd_wr (by decide) (by decide), if_neg (by decide), rd_wr (by decide) (by decide), if_neg (by decide), rd_wr (by decide) (by decide), if_neg (by decide), rd_wr (by decide) (by decide), if_pos rfl]; rfl
      · rw [rd_wr (by decide) (by decide), if_neg (by decide), rd_wr (by decide) (by decide), if_neg (by decide), rd_wr (by decide) (by decide), if_pos rfl]; rfl
      · rw [rd_wr (by decide) (by decide), if_neg (by decide), rd_wr (by decide) (by decide), if_pos rfl]; rfl
      · rw [rd_wr (by decide) (by decide), if_pos rfl]; rfl
      · exact absurd z (by decide)
  have F0 : ∀ {m2 : Mem} {j y : Int32}, Fr [81] m m2 → Fr [81] m (upa m2 81 j y) := fun h => h.tr (Fr.ua (by decide))
  have M6 : ∀ {m2 : Mem}, Fr [81] m m2 → m2 76 = m 76 := fun h => h 76 (by decide)
  obtain ⟨d, rfl⟩ : ∃ e, d = e + 1 := ⟨d - 1, by omega⟩
  refine Cal.of (by decide +kernel) rfl (Nat.le_of_ble_eq_true rfl) (rg_X6_needsTold_0 hG 75 x ?_)
  refine ⟨rfl, c_X6_hasText hG (by omega) (Or.inl rfl) ⟨_, rfl, fun c => ?_, fun c => ?_⟩⟩
  · have hn : ¬ tN (m 76) 0 ≤ 0 := fun e => c (if_pos e)
    refine c_X6_its hG (by omega) ⟨h4.1, by grind⟩ (by decide) ⟨_, rfl, fun c3 => ?_, fun c3 => ?_⟩
    · refine ⟨_, rfl, c_X6_its hG (by omega) ⟨h4.1, by grind⟩ (by decide) ⟨_, rfl, _, rfl, ib128 (by decide) (by decide), ?_⟩⟩
      rintro _ rfl
      refine ⟨ib128 (by decide) (by decide), ?_⟩
      rintro _ rfl
      refine ⟨ib128 (by decide) (by decide), ?_⟩
      rintro _ rfl
      have f3 := F0 (j := 117) (y := 0) (F0 (j := 111) (y := 0) (F0 (j := 109) (y := its (m 76) x 1) (Fr.rf (m := m))))
      refine c_X6_its hG (by omega) ⟨h4.1, by grind⟩ (by decide) ⟨_, rfl, ib128 (by decide) (by decide), ?_⟩
      rintro _ rfl
      rw [M6 f3]
      refine go (its (m 76) x 1) 0 0 (its (m 76) x 3) _ (F0 f3) (by simp only [upa_eq]) hn ?_
      rw [ndT, if_neg hn, if_pos c3, if_pos c3]
    · have hu : upn (m 76) x = upn (m 76) x := rfl
      refine ⟨_, rfl, c_X6_its hG (by omega) ⟨h4.1, by grind⟩ (by decide) ⟨_, rfl, _, rfl, ib128 (by decide) (by decide), ?_⟩⟩
      rintro _ rfl
      have f1 := F0 (j := 109) (y := its (m 76) x 1) (Fr.rf (m := m))
      refine c_X6_upon hG (by omega) (by rw [M6 f1]; exact h1) (by rw [M6 f1]; exact h2) (by rw [M6 f1]; exact h4) ⟨_, rfl, ib128 (by decide) (by decide), ?_⟩
      rintro _ rfl
      rw [M6 f1]
      have f2 := F0 (j := 111) (y := upn (m 76) x) f1
      refine c_X6_under hG (by omega) (by rw [M6 f2]; exact h1) (by rw [M6 f2]; exact h2) (by rw [M6 f2]; exact h4) ⟨_, rfl, ib128 (by decide) (by decide), ?_⟩
      rintro _ rfl
      rw [M6 f2]
      have f3 := F0 (j := 117) (y := und (m 76) x) f2
      refine c_X6_its hG (by omega) ⟨h4.1, by grind⟩ (by decide) ⟨_, rfl, ib128 (by decide) (by decide), ?_⟩
      rintro _ rfl
      rw [M6 f3]
      refine go (its (m 76) x 1) (upn (m 76) x) (und (m 76) x) (its (m 76) x 3) _ (F0 f3) (by simp only [upa_eq]) hn ?_
      rw [ndT, if_neg hn, if_neg c3, if_neg c3]
  · have hn : tN (m 76) 0 ≤ 0 := by
      by_cases e : tN (m 76) 0 ≤ 0
      · exact e
      · rw [if_neg e] at c; exact absurd c (by decide)
    refine c_X6_its hG (by omega) ⟨h4.1, by grind⟩ (by decide) ⟨_, rfl, ?_⟩
    have := k m Fr.rf
    rwa [ndT, if_pos hn] at this
theorem c_X6_needs (hG : fl G = false) (hd : 5 ≤ d) {x : Int32} (h1 : WF (m 76)) (h2 : 0 ≤ x ∧ x < rd (m 76) 0) (k : ∀ m', Fr [81, 82] m m' → K (some (.int (nds (m 76) x))) m') : Cal G mX6_needs d [.ref 75, .int x] SH (TA t n i) m K := by
  obtain ⟨w1, w2, w3, w4, w5⟩ := h1
  have e0 := w1.1
  have e1 := (w1.2 x h2.1 h2.2).1
  have k0 := k m Fr.rf
  simp only [nds] at k k0
  have e2 : its (m 76) x 0 = 0 ∨ its (m 76) x 0 = 1 ∨ its (m 76) x 0 = 2 ∨ its (m 76) x 0 = 3 ∨ its (m 76) x 0 = 4 ∨ its (m 76) x 0 = 5 ∨ its (m 76) x 0 = 6 := by clear k k0 w1 w2; grind
  obtain ⟨d, rfl⟩ : ∃ e, d = e + 1 := ⟨d - 1, by omega⟩
  refine Cal.of (by decide +kernel) rfl (Nat.le_of_ble_eq_true rfl) (rg_X6_needs_0 hG 75 x ?_)
  refine ⟨rfl, c_X6_its hG (by omega) ⟨h2.1, by clear k k0; grind⟩ (by decide) ⟨_, rfl, c_X6_its hG (by omega) ⟨h2.1, by clear k k0; grind⟩ (by decide) ⟨_, rfl, fun c => ?_, fun c => ?_, fun c => ?_, fun c => ?_, fun c => ?_, fun c => ?_, fun c => ?_⟩⟩⟩
  · have e : its (m 76) x 0 = 0 := by rcases e2 with e | e | e | e | e | e | e <;> first | exact e | (rw [e] at c; exact absurd c (by decide))
    exact c_X6_held hG (by omega) ⟨_, rfl, kv k0 (by rw [show nd0 (m 76) x = 20 + its (m 76) x 1 by simp [nd0, e]]; rfl)⟩
  · exact c_X6_held hG (by omega) ⟨_, rfl, kv k0 (by rw [show nd0 (m 76) x = 20 + its (m 76) x 1 + 10 by simp [nd0, c]]; rfl)⟩
  · exact c_X6_held hG (by omega) ⟨_, rfl, kv k0 (by rw [show nd0 (m 76) x = 20 + its (m 76) x 1 - 8 by simp [nd0, c]]; rfl)⟩
  · exact c_X6_held hG (by omega) ⟨_, rfl, kv k0 (by rw [show nd0 (m 76) x = 2 * (20 + its (m 76) x 1) by simp [nd0, c]]; rfl)⟩
  · exact c_X6_held hG (by omega) ⟨_, rfl, kv k0 (by rw [show nd0 (m 76) x = 20 + its (m 76) x 1 + 10 + its (m 76) x 1 by simp [nd0, c]]; rfl)⟩
  · refine c_X6_its hG (by omega) ⟨h2.1, by clear k k0; grind⟩ (by decide) ⟨_, rfl, fun c3 => ?_, fun c3 => ?_⟩
    · refine c_X6_upon hG (by omega) w1 w2 h2 ⟨_, rfl, ?_⟩
      exact c_X6_held hG (by omega) ⟨_, rfl, kv k0 (by rw [show nd0 (m 76) x = 20 + its (m 76) x 1 - 8 + 2 * upn (m 76) x by simp [nd0, c]; rw [if_neg (Int32.not_lt.mpr c3)]]; rfl)⟩
    · exact c_X6_held hG (by omega) ⟨_, rfl, kv k0 (by rw [show nd0 (m 76) x = 20 + its (m 76) x 1 - 8 + 2 * 0 by simp [nd0, c]; rw [if_pos (Int32.not_le.mp c3)]; rfl]; rfl)⟩
  · refine c_X6_needsTold hG (by omega) w1 w2 w4 h2 (fun m2 hf => ⟨_, rfl, ?_⟩)
    exact c_X6_held hG (by omega) ⟨_, rfl, kv (k _ hf) (by rw [show nd0 (m 76) x = ndT (m 76) x by simp [nd0, c]]; rfl)⟩
theorem c_X6_likes (hG : fl G = false) (hd : 4 ≤ d) {x : Int32} (h1 : WF (m 76)) (h2 : 0 ≤ x ∧ x < rd (m 76) 0) (k : ∀ m', Fr [81, 82] m m' → K (some (.int (lks (m 76) x))) m') : Cal G mX6_likes d [.ref 75, .int x] SH (TA t n i) m K := by
  obtain ⟨w1, w2, w3, w4, w5⟩ := h1
  have e0 := w1.1
  have e6 := tN_pos w5
  have hx : 0 ≤ x ∧ x < 16 := ⟨h2.1, by clear k; grind⟩
  have F0 : ∀ {m2 : Mem} {j y : Int32}, Fr [81] m m2 → Fr [81] m (upa m2 81 j y) := fun h => h.tr (Fr.ua (by decide))
  have M6 : ∀ {m2 : Mem}, Fr [81] m m2 → m2 76 = m 76 := fun h => h 76 (by decide)
  obtain ⟨d, rfl⟩ : ∃ e, d = e + 1 := ⟨d - 1, by omega⟩
  refine Cal.of (by decide +kernel) rfl (Nat.le_of_ble_eq_true rfl) (rg_X6_likes_0 hG 75 x ?_)
  refine ⟨rfl, c_X6_its hG (by omega) hx (by decide) ⟨_, rfl, c_X6_hasText hG (by omega) (Or.inr rfl) ⟨_, rfl, fun c => ?_, fun c => ?_⟩⟩⟩
  · have hn : tN (m 76) 1 ≤ 0 := by
      by_cases e : tN (m 76) 1 ≤ 0
      · exact e
      · rw [if_neg e] at c; exact absurd c (by decide)
    exact c_X6_held hG (by omega) ⟨_, rfl, kv (k m Fr.rf) (by rw [lks, if_pos hn]; rfl)⟩
  · have hn : ¬ tN (m 76) 1 ≤ 0 := fun e => c (if_pos e)
    refine ⟨_, rfl, _, rfl, ib128 (by decide) (by decide), ?_⟩
    rintro _ rfl
    have f1 := F0 (j := 119) (y := its (m 76) x 2) (Fr.rf (m := m))
    refine c_X6_its hG (by omega) hx (by decide) ⟨_, rfl, ib128 (by decide) (by decide), ?_⟩
    rintro _ rfl
    rw [M6 f1]
    have f2 := F0 (j := 107) (y := its (m 76) x 0) f1
    refine c_X6_its hG (by omega) hx (by decide) ⟨_, rfl, ib128 (by decide) (by decide), ?_⟩
    rintro _ rfl
    rw [M6 f2]
    have f3 := F0 (j := 109) (y := its (m 76) x 1) f2
    refine c_X6_worked hG (by omega) (Or.inr rfl) (by rw [M6 f3]; exact w5) (by rw [M6 f3]; clear k; grind) (fun m3 hf3 => ⟨_, rfl, ?_⟩)
    refine c_X6_held hG (by omega) ⟨_, rfl, kv (k m3 ((f3.mo (by simp)).tr (hf3.mo (by simp)))) ?_⟩
    rw [M6 f3, lks, if_neg hn]
    rw [tE_congr (nm' := nmC 1 (its (m 76) x 2) (its (m 76) x 0) (its (m 76) x 1) 0) w5]
    · rfl
    · intro v hv
      simp only [upa_eq]
      rcases hv with ⟨z, -⟩ | ⟨-, rfl | rfl | rfl⟩
      · exact absurd z (by decide)
      · rw [rd_wr (by decide) (by decide), if_neg (by decide), rd_wr (by decide) (by decide), if_neg (by decide), rd_wr (by decide) (by decide), if_pos rfl]; rfl
      · rw [rd_wr (by decide) (by decide), if_neg (by decide), rd_wr (by decide) (by decide), if_pos rfl]; rfl
      · rw [rd_wr (by decide) (by decide), if_pos rfl]; rfl
theorem nea_ok : ∀ {c : Int32}, 1 ≤ c → c ≤ 15 → 0 ≤ nea c ∧ nea c ≤ 14 ∧ (if c - c / 4 * 4 = 0 then c - 4 else c - 1) = nea c ∧ nea c < c := by
  intro c h0 h1
  exact c16 (P := fun c => 1 ≤ c → 0 ≤ nea c ∧ nea c ≤ 14 ∧ (if c - c / 4 * 4 = 0 then c - 4 else c - 1) = nea c ∧ nea c < c) (by decide +kernel) (Int32.le_trans (by decide) h0) h1 h0
theorem upm_0 {f : Nat → Int32} (h1 : WT f) (h2 : WC f) : upm f 0 = -1 := by
  by_cases h : upm f 0 = -1
  · exact h
  · obtain ⟨a1, a2, -⟩ := upm_ok h2 (c := 0) (by decide) h
    exact absurd a2 (h1.2 _ a1.1 a1.2).2.2.2.1.2.2
theorem c_X6_does (hG : fl G = false) (hd : 6 ≤ d) {x : Int32} (h1 : WF (m 76)) (h2 : 0 ≤ x ∧ x ≤ 15) (k : ∀ m', Fr [81, 82] m m' → K (some (.int (doe (m 76) x))) m') : Cal G mX6_does d [.ref 75, .int x] SH (TA t n i) m K := by
  obtain ⟨w1, w2, w3, w4, w5⟩ := id h1
  have e0 := (w2 x h2.1 h2.2).1
  obtain ⟨d, rfl⟩ : ∃ e, d = e + 1 := ⟨d - 1, by omega⟩
  refine Cal.of (by decide +kernel) rfl (Nat.le_of_ble_eq_true rfl) (rg_X6_does_0 hG 75 x ?_)
  refine ⟨rfl, c_X6_uppermost hG (by omega) h2 e0 ⟨_, rfl, fun c => ?_, fun c => kv (k m Fr.rf) (by rw [doe, if_pos c])⟩⟩
  have hu := upm_ok w2 h2 c
  have hx1 : 1 ≤ x := by
    by_cases z : x = 0
    · rw [z, upm_0 w1 w2] at c; exact absurd rfl c
    · clear k e0 hu; grind
  have hne := nea_ok hx1 h2.2
  refine c_X6_strengthBehind hG (by omega) ⟨_, rfl, c_X6_needs hG (by omega) h1 hu.1 (fun m2 hf2 => ⟨_, rfl, fun c2 => ?_, fun c2 => ?_⟩)⟩
  · have h76 : m2 76 = m 76 := hf2 76 (by decide)
    refine c_X6_needs hG (by omega) (by rw [h76]; exact h1) (by rw [h76]; exact hu.1) (fun m3 hf3 => ⟨_, rfl, ?_⟩)
    have h77 : m3 76 = m 76 := (hf3 76 (by decide)).trans h76
    rw [h76]
    have e1 : ¬ nds (m 76) (upm (m 76) x) ≤ stg (m 76) 0 := Int32.not_le.mpr c2
    refine ⟨fun c3 => ?_, fun c3 => kv (k m3 (hf2.tr hf3)) (by rw [doe, if_neg c, if_neg e1, if_pos (Int32.not_le.mp c3)])⟩
    have e2 : ¬ 2 * stg (m 76) 0 < nds (m 76) (upm (m 76) x) := Int32.not_lt.mpr c3
    refine c_X6_nearer hG (by omega) ⟨_, rfl, fun c4 => ?_, fun c4 => kv (k m3 (hf2.tr hf3)) (by rw [doe, if_neg c, if_neg e1, if_neg e2, if_pos c4])⟩
    refine c_X6_size hG (by omega) ⟨hne.1, Int32.le_trans hne.2.1 (by decide)⟩ ⟨_, rfl, fun c5 => ?_, fun c5 => ?_⟩
    · rw [h77] at c5
      exact kv (k m3 (hf2.tr hf3)) (by rw [doe, if_neg c, if_neg e1, if_neg e2, if_neg c4, if_neg c5])
    · rw [h77] at c5
      exact kv (k m3 (hf2.tr hf3)) (by rw [doe, if_neg c, if_neg e1, if_neg e2, if_neg c4, if_pos c5])
  · exact kv (k m2 hf2) (by rw [doe, if_neg c, if_pos (Int32.not_lt.mp c2)])
end

