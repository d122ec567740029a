-- 37.few
set_option maxHeartbeats 4000000 in
theorem fsm_none {F : Int32 → Option (List Int32)} : ∀ (k s : Nat), (∀ j, s ≤ j → j < s + k → F (Int32.ofNat j) = none) → fsm F (Int32.ofNat s) k = none
  | 0, _, _ => rfl
  | k + 1, s, h => by
    simp only [fsm]
    rw [h s (Nat.le_refl _) (by omega)]
    simp only
    rw [o_1]
    exact fsm_none k (s + 1) (fun j a b => h j (by omega) (by omega))
set_option maxHeartbeats 4000000 in
theorem fsm_all {F : Int32 → Option (List Int32)} : ∀ (k s : Nat), fsm F (Int32.ofNat s) k = none → ∀ j, s ≤ j → j < s + k → F (Int32.ofNat j) = none
  | 0, _, _ => fun j a b => by omega
  | k + 1, s, h => fun j a b => by
    simp only [fsm] at h
    cases hf : F (Int32.ofNat s) with
    | some x => rw [hf] at h; cases h
    | none =>
      rw [hf] at h
      simp only at h
      rw [o_1] at h
      by_cases e : j = s
      · rw [e]; exact hf
      · exact fsm_all k (s + 1) h j (by omega) (by omega)
set_option maxHeartbeats 4000000 in
theorem fsm_some {F : Int32 → Option (List Int32)} {x : List Int32} : ∀ (k s e : Nat), s ≤ e → e < s + k → F (Int32.ofNat e) = some x → (∀ j, s ≤ j → j < e → F (Int32.ofNat j) = none) → fsm F (Int32.ofNat s) k = some x
  | 0, s, e, h1, h2, _, _ => by omega
  | k + 1, s, e, h1, h2, h3, h4 => by
    simp only [fsm]
    by_cases z : s = e
    · rw [z, h3]
    · rw [h4 s (Nat.le_refl _) (by omega)]
      simp only
      rw [o_1]
      exact fsm_some k (s + 1) e (by omega) (by omega) h3 (fun j a b => h4 j (by omega) b)
set_option maxHeartbeats 4000000 in
theorem o_of {c : Int32} (h : 0 ≤ c) : c = Int32.ofNat c.toNatClampNeg := by
  have h2 := Int32.le_iff_toInt_le.mp h
  rw [show (0 : Int32).toInt = 0 from rfl] at h2
  have h3 := Int32.toInt_lt c
  have e : (c.toNatClampNeg : Int) = c.toInt := by show (c.toInt.toNat : Int) = _; omega
  apply Int32.toInt_inj.mp
  rw [Int32.toInt_ofNat_of_lt (by omega), e]
set_option maxHeartbeats 4000000 in
theorem won_iff {f : Nat → Int32} {t c : Int32} (w : WF f) (ht : 0 ≤ t ∧ t < rd f 0) (hc : 1 ≤ c ∧ c ≤ 15) (hn : its f t 3 ≠ -1) : its (pulA f c) t 3 = -1 ↔ (doe f c = 2 ∧ upm f c = t) := by
  obtain ⟨w1, w2, -, -, -⟩ := w
  have c0 : 0 ≤ c ∧ c ≤ 15 := ⟨by lia, hc.2⟩
  have t16 : t < 16 := ar_u16 ht.2 w1.1.2
  unfold pulA
  rw [fin_its ⟨ht.1, t16⟩ (by decide)]
  unfold midA
  by_cases d2 : doe f c = 2
  · rw [if_pos d2]
    obtain ⟨a1, a2, a3, a4⟩ := upm_ok w2 c0 (doe_u (Or.inr d2))
    have T1 := takA_ok (to := -1) w1 w2 a1 (by rw [a2]; exact c0.1)
    rw [T1.2.2.1 t 3 ht.1 t16 (by decide) (by decide)]
    by_cases e : t = upm f c
    · rw [if_pos ⟨e, rfl⟩]; exact ⟨fun _ => ⟨d2, e.symm⟩, fun _ => rfl⟩
    · rw [if_neg (fun z => e z.1)]; exact ⟨fun z => absurd z hn, fun z => absurd z.2.symm e⟩
  · rw [if_neg d2]
    by_cases d1 : doe f c = 1
    · rw [if_pos d1]
      obtain ⟨a1, a2, a3, a4⟩ := upm_ok w2 c0 (doe_u (Or.inl d1))
      have hq := nea_ok hc.1 hc.2
      have T1 := takA_ok (to := -2) w1 w2 a1 (by rw [a2]; exact c0.1)
      have hne : nea c ≠ c := fun z => by have q := hq.2.2.2; rw [z] at q; exact Int32.lt_irrefl q
      have n15 : nea c ≤ 15 := Int32.le_trans hq.2.1 (by decide)
      have hs := (T1.2.2.2 (nea c) hq.1 n15).1
      rw [a2, if_neg hne] at hs
      have hb := (w2 (nea c) hq.1 n15).1
      have L1 := layA_ok (f := takA f (upm f c) (-2)) (t := upm f c) (c := nea c) ⟨a1.1, ar_u16 a1.2 w1.1.2⟩ ⟨hq.1, n15⟩ ⟨by rw [hs]; exact hb.1, by rw [hs]; exact ar_s5 hb (doe_1 d1).2⟩
      rw [L1.2.2.1 t 3 ht.1 t16 (by decide) (by decide)]
      by_cases e : t = upm f c
      · rw [if_pos ⟨e, rfl⟩]
        refine ⟨fun z => ?_, fun z => absurd z.1 d2⟩
        rw [z] at hq; exact absurd hq.1 (by decide)
      · rw [if_neg (fun z => e z.1), T1.2.2.1 t 3 ht.1 t16 (by decide) (by decide), if_neg (fun z => e z.1)]
        exact ⟨fun z => absurd z hn, fun z => absurd z.1 d2⟩
    · rw [if_neg d1]
      exact ⟨fun z => absurd z hn, fun z => absurd z.1 d2⟩
set_option maxHeartbeats 4000000 in
theorem wn1 {f : Nat → Int32} {t : Int32} (w : WF f) (ht : 0 ≤ t ∧ t < rd f 0) (hn : its f t 3 ≠ -1) : wnA t 1 f = if 0 ≤ its f t 3 ∧ upm f (its f t 3) = t ∧ doe f (its f t 3) = 2 then some [its f t 3] else none := by
  have key : ∀ j : Nat, 1 ≤ j → j < 16 → 1 ≤ Int32.ofNat j ∧ Int32.ofNat j ≤ 15 := fun j a b => ⟨(o_le (a := 1) (by decide) (by omega)).mpr a, (o_le (b := 15) (by omega) (by decide)).mpr (by omega)⟩
  show fsm _ (Int32.ofNat 1) 15 = _
  have hF : ∀ j : Nat, 1 ≤ j → j < 16 → (wnA t 0 (pulA f (Int32.ofNat j))).map (Int32.ofNat j :: ·) = if doe f (Int32.ofNat j) = 2 ∧ upm f (Int32.ofNat j) = t then some [Int32.ofNat j] else none := by
    intro j a b
    have := won_iff w ht (key j a b) hn
    by_cases e : doe f (Int32.ofNat j) = 2 ∧ upm f (Int32.ofNat j) = t
    · rw [if_pos e, show wnA t 0 (pulA f (Int32.ofNat j)) = some [] from if_pos (this.mpr e)]; rfl
    · rw [if_neg e, show wnA t 0 (pulA f (Int32.ofNat j)) = none from if_neg (fun z => e (this.mp z))]; rfl
  have hcell : ∀ c, 1 ≤ c → c ≤ 15 → doe f c = 2 ∧ upm f c = t → its f t 3 = c := by
    intro c a b e
    obtain ⟨a1, a2, -⟩ := upm_ok w.2.1 ⟨Int32.le_trans (by decide) a, b⟩ (doe_u (Or.inr e.1))
    rw [← e.2]; exact a2
  by_cases h : 0 ≤ its f t 3 ∧ upm f (its f t 3) = t ∧ doe f (its f t 3) = 2
  · rw [if_pos h]
    have b := (w.1.2 t ht.1 ht.2).2.2.2.1
    have e := o_of h.1
    have hj : 1 ≤ (its f t 3).toNatClampNeg ∧ (its f t 3).toNatClampNeg < 16 := by
      have h1 := ar_n1 h.1 b.2.2
      have h2 := b.2.1
      rw [e, show (15 : Int32) = Int32.ofNat 15 from rfl] at h2
      rw [e, show (1 : Int32) = Int32.ofNat 1 from rfl] at h1
      have hb : (its f t 3).toNatClampNeg < 2147483648 := by
        have := Int32.toInt_lt (its f t 3)
        show (its f t 3).toInt.toNat < _
        omega
      rw [o_le (by decide) hb] at h1
      rw [o_le hb (by decide)] at h2
      omega
    refine fsm_some 15 1 (its f t 3).toNatClampNeg hj.1 (by omega) ?_ (fun j a c => ?_)
    · rw [hF _ hj.1 hj.2, ← e, if_pos ⟨h.2.2, h.2.1⟩]
    · rw [hF j a (by omega), if_neg (fun z => ?_)]
      have hj16 : j < 16 := by omega
      have := hcell _ (key j a hj16).1 (key j a hj16).2 z
      rw [this, tn_o (by omega)] at c
      omega
  · rw [if_neg h]
    refine fsm_none 15 1 (fun j a b => ?_)
    rw [hF j a (by omega), if_neg (fun z => h ?_)]
    have := hcell _ (key j a (by omega)).1 (key j a (by omega)).2 z
    rw [this]
    exact ⟨Int32.le_trans (by decide) (key j a (by omega)).1, z.2, z.1⟩
set_option maxHeartbeats 4000000 in
theorem empt {f : Nat → Int32} {c : Int32} (h : sz f c = 0) : pulA f c = fin f := by
  have hu : upm f c = -1 := by rw [upm, if_pos h]
  have hd : doe f c = 0 := by rw [doe, if_pos hu]
  rw [pulA, midA, hd, if_neg (by decide), if_neg (by decide)]
set_option maxHeartbeats 4000000 in
theorem B67 {t n i : Nat} : BXo SH (TA t n i) 67 68 36 40 := ⟨rfl, rfl, rfl, ⟨rfl, rfl, rfl, rfl, rfl, rfl, rfl⟩, ⟨rfl, rfl, rfl, rfl, rfl, rfl, rfl⟩, ⟨rfl, rfl, rfl, rfl, rfl, rfl, rfl⟩, ⟨rfl, rfl, rfl, rfl, rfl, rfl, rfl⟩, rfl, by decide, by decide, by decide⟩
set_option maxHeartbeats 4000000 in
theorem B35 {t n i : Nat} : BXo SH (TA t n i) 35 44 36 40 := ⟨rfl, rfl, rfl, ⟨rfl, rfl, rfl, rfl, rfl, rfl, rfl⟩, ⟨rfl, rfl, rfl, rfl, rfl, rfl, rfl⟩, ⟨rfl, rfl, rfl, rfl, rfl, rfl, rfl⟩, ⟨rfl, rfl, rfl, rfl, rfl, rfl, rfl⟩, rfl, by decide, by decide, by decide⟩
set_option maxHeartbeats 4000000 in
theorem B51 {t n i : Nat} : BXo SH (TA t n i) 51 60 52 56 := ⟨rfl, rfl, rfl, ⟨rfl, rfl, rfl, rfl, rfl, rfl, rfl⟩, ⟨rfl, rfl, rfl, rfl, rfl, rfl, rfl⟩, ⟨rfl, rfl, rfl, rfl, rfl, rfl, rfl⟩, ⟨rfl, rfl, rfl, rfl, rfl, rfl, rfl⟩, rfl, by decide, by decide, by decide⟩
section
variable {G : Gm} {d t n i : Nat} {m : Mem} {K : Option Value → Mem → Prop}
set_option maxHeartbeats 4000000 in
theorem c_X5_isLikeOneAhead (hG : fl G = false) (hd : 3 ≤ d) {f : Nat → Int32} {c : Int32} (h1 : RB m 67 68 f) (h2 : WC f) (h3 : 1 ≤ c ∧ c ≤ 15) (k : ∀ r, (r = 0 ∨ (r = 1 ∧ sz f c = 0 ∧ ∃ e, 1 ≤ e ∧ e < c ∧ sz f e = 0)) → K (some (.int r)) m) : Cal G mX5_isLikeOneAhead d [.ref 67, .int c] SH (TA t n i) m K := by
  have c0 : 0 ≤ c ∧ c ≤ 15 := ⟨Int32.le_trans (by decide) h3.1, h3.2⟩
  have hb := (h2 c c0.1 c0.2).1
  have hloop : sz f c = 0 → ∀ x : Int32, x ≤ c → 1 ≤ x → WP G (rmD d 0 0) mX5_isLikeOneAhead (QC G SH (TA t n i) K) 0 0 12 [(0, .ref 67), (1, .int c), (2, .int x)] [] (SH, TA t n i, m) := by
    obtain ⟨d, rfl⟩ : ∃ e, d = e + 1 := ⟨d - 1, by omega⟩
    intro hz
    refine i32_down ?_ ?_
    · intro _
      exact rg_X5_isLikeOneAhead_12 hG 67 c c ⟨fun _ => k 0 (Or.inl rfl), fun z => absurd (Int32.le_refl _) z⟩
    · intro x hx ih h1x
      have hx0 : 0 ≤ x ∧ x ≤ 15 := ⟨Int32.le_trans (by decide) h1x, Int32.le_trans (Int32.le_of_lt hx) h3.2⟩
      refine rg_X5_isLikeOneAhead_12 hG 67 c x ⟨fun z => absurd hx (Int32.not_lt.mpr z), fun _ => ⟨rfl, c_X0_highOf hG (by omega) B67 h1 ⟨_, rfl, ?_⟩⟩⟩
      rw [if_pos hx0]
      refine ⟨fun _ => ih ?_, fun z => k 1 (Or.inr ⟨rfl, hz, x, h1x, hx, z⟩)⟩
      have := h3.2
      clear ih h2 k hb h1
      lia
  obtain ⟨d, rfl⟩ : ∃ e, d = e + 1 := ⟨d - 1, by omega⟩
  refine Cal.of (by decide +kernel) rfl (Nat.le_of_ble_eq_true rfl) (rg_X5_isLikeOneAhead_0 hG 67 c ?_)
  refine ⟨rfl, c_X0_highOf hG (by omega) B67 h1 ⟨_, rfl, ?_⟩⟩
  rw [if_pos c0]
  refine ⟨fun z => hloop (Int32.le_antisymm z hb.1) 1 h3.1 (by decide), fun _ => k 0 (Or.inl rfl)⟩
end
set_option maxHeartbeats 4000000 in
theorem wn_sub {f : Nat → Int32} {t : Int32} {r : Nat} (h : ∀ j, j < r + 1 → wnA t j f = none) {c : Int32} (hc : 1 ≤ c ∧ c ≤ 15) : ∀ j, j < r → wnA t j (pulA f c) = none := by
  intro j hj
  have h1 := h (j + 1) (by omega)
  have hc0 : 0 ≤ c := Int32.le_trans (by decide) hc.1
  have e := o_of hc0
  have hb : c.toNatClampNeg < 2147483648 := by
    have := Int32.toInt_lt c
    show c.toInt.toNat < _
    omega
  have g1 := hc.1
  have g2 := hc.2
  rw [e, show (1 : Int32) = Int32.ofNat 1 from rfl, o_le (by decide) hb] at g1
  rw [e, show (15 : Int32) = Int32.ofNat 15 from rfl, o_le hb (by decide)] at g2
  have h2 := fsm_all 15 1 h1 c.toNatClampNeg g1 (by omega)
  rw [← e] at h2
  cases hx : wnA t j (pulA f c) with
  | none => rfl
  | some x => rw [hx] at h2; cases h2
set_option maxHeartbeats 4000000 in
theorem c_X5_leadsToWin {G : Gm} {n i t0 : Nat} (hG : fl G = false) (t : Int32) : ∀ (r ii d : Nat) (f : Nat → Int32) (m : Mem) (K : Option Value → Mem → Prop), 9 + r ≤ d → ii + (r + 1) ≤ 3 → RB m 67 68 f → RT m 36 40 f → WF f → (0 ≤ t ∧ t < rd f 0) → (∀ j, j < r + 1 → wnA t j f = none) → (∀ m', Fr [33, 36, 39, 67, 71, 72, 73, 74] m m' → RB m' 67 68 f → (∀ j, j < ii → m' 33 j = m 33 j) → (∀ l, wnA t (r + 1) f = some l → ∀ j c, l[j]? = some c → m' 33 (ii + j) = c) → K (some (.int (ob (wnA t (r + 1) f)))) m') → Cal G mX5_leadsToWin d [.ref 67, .int t, .ref 33, .int (Int32.ofNat ii), .int (Int32.ofNat (ii + (r + 1)))] SH (TA t0 n i) m K := by
  intro r
  induction r with
  | zero =>
    intro ii d f m K hd hr hb ht hw htt hwn k
    obtain ⟨d, rfl⟩ : ∃ e, d = e + 1 := ⟨d - 1, by omega⟩
    have hnw : its f t 3 ≠ -1 := fun z => by
      have := hwn 0 (by omega)
      rw [show wnA t 0 f = some [] from if_pos z] at this
      cases this
    have e1 := wn1 hw htt hnw
    have i3 : InB (Int32.ofNat ii) 3 := ib_o (by omega) (by decide)
    have et : Int32.ofNat (ii + (0 + 1)) - 1 = Int32.ofNat ii := o_s ii
    have hb2 : ∀ x, RB (upa m 33 (Int32.ofNat ii) x) 67 68 f := fun x => hb.fr (L := [33]) (Fr.ua (by decide)) (by decide) (by intro j hj; simp; omega)
    have ht2 : ∀ x, RT (upa m 33 (Int32.ofNat ii) x) 36 40 f := fun x => ht.fr (L := [33]) (Fr.ua (by decide)) (by decide) (by decide) (by decide) (by decide)
    have hrd : ∀ x, rd (upa m 33 (Int32.ofNat ii) x 33) (Int32.ofNat ii) = x := fun x => by rw [upa_eq, rd_wr (o_0 _ (by omega)) (o_0 _ (by omega)), if_pos rfl]
    have hlow : ∀ x j, j < ii → upa m 33 (Int32.ofNat ii) x 33 j = m 33 j := fun x j hj => by
      rw [upa_eq]; unfold wr; rw [tn_o (by omega), if_neg (by omega)]
    refine Cal.of (by decide +kernel) rfl (Nat.le_of_ble_eq_true rfl) (rg_X5_leadsToWin_0 hG 67 t 33 (Int32.ofNat ii) (Int32.ofNat (ii + (0 + 1))) ⟨fun z => absurd (o_0 ii (by omega)) (Int32.not_le.mpr z), fun _ => ⟨fun z => ?_, fun _ => ⟨_, rfl, fun _ => ⟨fun z => absurd et.symm z, fun _ => ⟨rfl, c_X0_cellOf hG (by omega) B67 hb hw.1.1.2 ⟨_, rfl, i3, ?_⟩⟩⟩, fun z => absurd ?_ z⟩⟩⟩)
    · exfalso; rw [o_le (by omega) (by omega)] at z; omega
    · rintro _ rfl
      rw [if_pos htt, hrd]
      refine ⟨i3, fun z => ?_, fun z => ⟨i3, ?_⟩⟩
      · have : ¬ (0 ≤ its f t 3 ∧ upm f (its f t 3) = t ∧ doe f (its f t 3) = 2) := fun q => absurd q.1 (Int32.not_le.mpr z)
        rw [if_neg this] at e1
        refine kv (k _ (Fr.ua (by decide)) (hb2 _) (hlow _) (fun l h => by rw [e1] at h; cases h)) (by rw [e1]; rfl)
      · have hcell := (hw.1.2 t htt.1 htt.2).2.2.2.1
        have z0 := Int32.not_lt.mp z
        refine c_X0_top hG (by omega) B67 (hb2 _) hw.2.1 ⟨_, rfl, ?_⟩
        rw [if_pos ⟨z0, hcell.2.1⟩]
        refine ⟨fun z2 => ?_, fun z2 => ⟨i3, ?_⟩⟩
        · have : ¬ (0 ≤ its f t 3 ∧ upm f (its f t 3) = t ∧ doe f (its f t 3) = 2) := fun q => z2 q.2.1
          rw [if_neg this] at e1
          refine kv (k _ (Fr.ua (by decide)) (hb2 _) (hlow _) (fun l h => by rw [e1] at h; cases h)) (by rw [e1]; rfl)
        · rw [hrd]
          refine c_X0_does hG (by omega) B67 (hb2 _) (ht2 _) hw ⟨z0, hcell.2.1⟩ (fun m2 hf2 => ⟨_, rfl, fun z3 => ?_, fun z3 => ?_⟩)
          · have : ¬ (0 ≤ its f t 3 ∧ upm f (its f t 3) = t ∧ doe f (its f t 3) = 2) := fun q => z3 q.2.2
            rw [if_neg this] at e1
            refine kv (k m2 ((Fr.ua (by decide)).tr (hf2.mo (by simp))) ((hb2 _).fr hf2 (by decide) (by intro j hj; simp; omega)) (fun j hj => by rw [hf2 33 (by decide)]; exact hlow _ j hj) (fun l h => by rw [e1] at h; cases h)) (by rw [e1]; rfl)
          · rw [if_pos ⟨z0, z2, z3⟩] at e1
            refine kv (k m2 ((Fr.ua (by decide)).tr (hf2.mo (by simp))) ((hb2 _).fr hf2 (by decide) (by intro j hj; simp; omega)) (fun j hj => by rw [hf2 33 (by decide)]; exact hlow _ j hj) (fun l h j c hjc => ?_)) (by rw [e1]; rfl)
            rw [e1] at h
            cases h
            cases j with
            | zero =>
              simp only [List.getElem?_cons_zero, Option.some.injEq] at hjc
              rw [hf2 33 (by decide), ← hjc, upa_eq]
              unfold wr
              rw [tn_o (by omega), if_pos (by omega)]
            | succ j => simp at hjc
    · exact (o_le (by omega) (by decide)).mpr (by omega)
  | succ r ih =>
    intro ii d f m K hd hr hb ht hw htt hwn k
    obtain ⟨d, rfl⟩ : ∃ e, d = e + 1 := ⟨d - 1, by omega⟩
    have hloop : ∀ (q : Nat), q ≤ 15 → ∀ m', Fr [33, 36, 39, 67, 71, 72, 73, 74] m m' → RB m' 67 68 f → (∀ j, j < ii → m' 33 j = m 33 j) → wnA t (r + 1 + 1) f = fsm (fun c => (wnA t (r + 1) (pulA f c)).map (c :: ·)) (Int32.ofNat (16 - q)) q → (∀ j, 1 ≤ j → j < 16 - q → (wnA t (r + 1) (pulA f (Int32.ofNat j))).map (Int32.ofNat j :: ·) = none) → WP G (rmD (d + 1) 0 0) mX5_leadsToWin (QC G SH (TA t0 n i) K) 0 0 72 [(0, .ref 67), (1, .int t), (2, .ref 33), (3, .int (Int32.ofNat ii)), (4, .int (Int32.ofNat (ii + (r + 1 + 1)))), (5, .int (Int32.ofNat (16 - q)))] [] (SH, TA t0 n i, m') := by
      intro q
      induction q with
      | zero =>
        intro _ m' hf hb' hwy hres _
        have hn : wnA t (r + 1 + 1) f = none := hres
        refine rg_X5_leadsToWin_72 hG 67 t 33 (Int32.ofNat ii) (Int32.ofNat (ii + (r + 1 + 1))) _ ⟨fun _ => ?_, fun c => absurd (Int32.le_refl _) c⟩
        exact kv (k m' hf hb' hwy (fun l h => by rw [hn] at h; cases h)) (by rw [hn]; rfl)
      | succ q ihq =>
        intro hq m' hf hb' hwy hres hbef
        have hc : 1 ≤ Int32.ofNat (16 - (q + 1)) ∧ Int32.ofNat (16 - (q + 1)) ≤ 15 := ⟨(o_le (a := 1) (by decide) (by omega)).mpr (by omega), (o_le (b := 15) (by omega) (by decide)).mpr (by omega)⟩
        have ec : Int32.ofNat (16 - (q + 1)) + 1 = Int32.ofNat (16 - q) := by rw [o_1]; congr 1; omega
        have ht' : RT m' 36 40 f := ht.fr hf (by decide) (by decide) (by decide) (by decide)
        have hlt : ∀ e, 1 ≤ e → e < Int32.ofNat (16 - (q + 1)) → (wnA t (r + 1) (pulA f e)).map (e :: ·) = none := by
          intro e he1 he2
          have e0 : 0 ≤ e := Int32.le_trans (by decide) he1
          have eo := o_of e0
          have hbd : e.toNatClampNeg < 2147483648 := by
            have := Int32.toInt_lt e
            show e.toInt.toNat < _
            omega
          rw [eo, show (1 : Int32) = Int32.ofNat 1 from rfl, o_le (by decide) hbd] at he1
          rw [eo, o_lt hbd (by omega)] at he2
          have := hbef e.toNatClampNeg he1 he2
          rw [← eo] at this
          exact this
        have hnx : (wnA t (r + 1) (pulA f (Int32.ofNat (16 - (q + 1))))).map (Int32.ofNat (16 - (q + 1)) :: ·) = none → wnA t (r + 1 + 1) f = fsm (fun c => (wnA t (r + 1) (pulA f c)).map (c :: ·)) (Int32.ofNat (16 - q)) q ∧ ∀ j, 1 ≤ j → j < 16 - q → (wnA t (r + 1) (pulA f (Int32.ofNat j))).map (Int32.ofNat j :: ·) = none := by
          intro z
          refine ⟨?_, fun j a b => ?_⟩
          · rw [hres]; simp only [fsm]; rw [z]; simp only; rw [ec]
          · by_cases e : j = 16 - (q + 1)
            · rw [e]; exact z
            · exact hbef j a (by omega)
        generalize hcq : Int32.ofNat (16 - (q + 1)) = c at *
        have hp := pul_ok hw hc
        refine rg_X5_leadsToWin_72 hG 67 t 33 (Int32.ofNat ii) (Int32.ofNat (ii + (r + 1 + 1))) c ⟨fun z => absurd (Int32.le_trans z hc.2) (by decide), fun _ => c_X5_isLikeOneAhead hG (by omega) hb' hw.2.1 hc (fun v hv => ⟨_, rfl, fun _ => ?_, fun v0 => ?_⟩)⟩
        · refine ⟨rfl, c_X0_grip hG (by omega) B67 hb' ht' hw hc (fun m2 hf2 hr2 e13 e14 e15 => ⟨_, rfl, ?_⟩)⟩
          have ht2 : RT m2 36 40 (pulA f c) := (ht'.fr hf2 (by decide) (by decide) (by decide) (by decide)).hi hp.2.2.1 hw.2.2.2.1 hw.2.2.2.2
          rw [o_1, show ii + (r + 1 + 1) = ii + 1 + (r + 1) by omega]
          refine ih (ii + 1) d (pulA f c) m2 _ (by omega) (by omega) hr2 ht2 hp.1 ⟨htt.1, by rw [hp.2.1]; exact htt.2⟩ (wn_sub hwn hc) (fun m3 hf3 hr3 g2 g3 => ⟨_, rfl, ?_⟩)
          rw [e15, hb'.1.2.2.2]
          refine c_X0_takeBack hG (by omega) B67 hw hc hr3 rfl rfl rfl (fun m4 hf4 hr4 => ⟨rfl, ?_⟩)
          have f4 : Fr [33, 36, 39, 67, 71, 72, 73, 74] m m4 := hf.tr ((hf2.mo (by simp)).tr (hf3.tr (hf4.mo (by simp))))
          have w1 : ∀ j, j < ii → m4 33 j = m 33 j := fun j hj => by rw [hf4 33 (by decide), g2 j (by omega), hf2 33 (by decide), hwy j hj]
          refine ⟨fun z => ?_, fun z => ?_⟩
          · have hno : (wnA t (r + 1) (pulA f c)).map (c :: ·) = none := by
              cases hx : wnA t (r + 1) (pulA f c) with
              | some l => rw [hx] at z; exact absurd z (by show ¬ (1 : Int32) = 0; decide)
              | none => rfl
            rw [show ii + 1 + (r + 1) = ii + (r + 1 + 1) by omega, ec]
            exact ihq (by omega) m4 f4 hr4 w1 (hnx hno).1 (hnx hno).2
          · refine ⟨_, rfl, ib_o (by omega) (by decide), ?_⟩
            rintro _ rfl
            cases hx : wnA t (r + 1) (pulA f c) with
            | none => rw [hx] at z; exact absurd rfl z
            | some l =>
              have hr5 : wnA t (r + 1 + 1) f = some (c :: l) := by rw [hres]; simp only [fsm, hx, Option.map_some]
              refine kv (k _ (f4.tr (Fr.ua (by decide))) (hr4.fr (L := [33]) (Fr.ua (by decide)) (by decide) (by intro j hj; simp; omega)) (fun j hj => ?_) (fun l2 h2 j x hjx => ?_)) (by rw [hr5]; rfl)
              · rw [upa_eq]; unfold wr; rw [tn_o (by omega), if_neg (by omega)]; exact w1 j hj
              · rw [hr5] at h2
                cases h2
                rw [upa_eq]
                unfold wr
                rw [tn_o (by omega)]
                cases j with
                | zero =>
                  simp only [List.getElem?_cons_zero, Option.some.injEq] at hjx
                  rw [if_pos (by omega), hjx]
                | succ j =>
                  rw [if_neg (by omega), hf4 33 (by decide), show ii + (j + 1) = ii + 1 + j by omega]
                  exact g3 l hx j x (by simpa using hjx)
        · rcases hv with z | ⟨-, z0, e, e1, e2, e3⟩
          · exact absurd z v0
          · have hno : (wnA t (r + 1) (pulA f c)).map (c :: ·) = none := by
              have := hlt e e1 e2
              rw [empt e3] at this
              rw [empt z0]
              cases hx : wnA t (r + 1) (fin f) with
              | none => rfl
              | some l => rw [hx] at this; cases this
            rw [ec]
            exact ihq (by omega) m' hf hb' hwy (hnx hno).1 (hnx hno).2
    refine Cal.of (by decide +kernel) rfl (Nat.le_of_ble_eq_true rfl) (rg_X5_leadsToWin_0 hG 67 t 33 (Int32.ofNat ii) (Int32.ofNat (ii + (r + 1 + 1))) ⟨fun z => absurd (o_0 ii (by omega)) (Int32.not_le.mpr z), fun _ => ⟨fun z => ?_, fun _ => ⟨_, rfl, fun _ => ⟨fun z => ?_, fun z => ?_⟩, fun z => absurd ?_ z⟩⟩⟩)
    · exfalso; rw [o_le (by omega) (by omega)] at z; omega
    · exact hloop 15 (Nat.le_refl _) m Fr.rf hb (fun _ _ => rfl) rfl (fun j a b => by omega)
    · exfalso
      rw [show ii + (r + 1 + 1) = ii + r + 1 + 1 by omega, o_s, o_eq (by omega) (by omega)] at z
      omega
    · exact (o_le (by omega) (by decide)).mpr (by omega)

