-- 81.text
set_option maxHeartbeats 4000000 in
theorem gd_a {F X : List (Int32 × Int32)} {j : Nat} (h : j < F.length) : (F ++ X).getD j (0, 0) = F.getD j (0, 0) := by simp [List.getElem?_append, h]
set_option maxHeartbeats 4000000 in
theorem gd_b {F X : List (Int32 × Int32)} {j : Nat} : (F ++ X).getD (F.length + j) (0, 0) = X.getD j (0, 0) := by rw [List.getD_eq_getElem?_getD, List.getElem?_append_right (Nat.le_add_right _ _), Nat.add_sub_cancel_left, ← List.getD_eq_getElem?_getD]
set_option maxHeartbeats 4000000 in
theorem PFx.wt {u : Nat} {F : List (Int32 × Int32)} (h : PFx u F) : ∀ (wh va : Nat → Int32) (k0 : Nat), (∀ j, j < F.length → wh (k0 + j) = (F.getD j (0, 0)).1 ∧ va (k0 + j) = (F.getD j (0, 0)).2) → (∀ j, j < F.length → stOK (Int32.ofNat u) wh va (k0 + j)) ∧ dps wh (k0 + F.length) = dps wh k0 + 1 := by
  refine h (fun F => ∀ (wh va : Nat → Int32) (k0 : Nat), (∀ j, j < F.length → wh (k0 + j) = (F.getD j (0, 0)).1 ∧ va (k0 + j) = (F.getD j (0, 0)).2) → (∀ j, j < F.length → stOK (Int32.ofNat u) wh va (k0 + j)) ∧ dps wh (k0 + F.length) = dps wh k0 + 1) ?_ ?_ ?_ ?_
  · intro v h0 h1 wh va k0 e
    have e0 : wh k0 = 0 ∧ va k0 = v := e 0 (Nat.zero_lt_one)
    refine ⟨fun j hj => ?_, ?_⟩
    · have hj : j < 1 := hj
      rw [show k0 + j = k0 by omega]
      exact Or.inl ⟨e0.1, by rw [e0.2]; exact ⟨h0, h1⟩⟩
    · show dps wh (k0 + 1) = _
      simp only [dps]
      rw [if_pos (Or.inl e0.1)]
  · intro v h0 wh va k0 e
    have e0 : wh k0 = 1 ∧ va k0 = v := e 0 (Nat.zero_lt_one)
    refine ⟨fun j hj => ?_, ?_⟩
    · have hj : j < 1 := hj
      rw [show k0 + j = k0 by omega]
      exact Or.inr (Or.inl ⟨e0.1, by rw [e0.2]; exact h0⟩)
    · show dps wh (k0 + 1) = _
      simp only [dps]
      rw [if_pos (Or.inr e0.1)]
  · intro F ih wh va k0 e
    have hlen : (F ++ [((2 : Int32), (0 : Int32))]).length = F.length + 1 := by rw [List.length_append]; rfl
    have ih := ih wh va k0 (fun j hj => by have := e j (by rw [hlen]; omega); rw [gd_a hj] at this; exact this)
    have e1 := e F.length (by rw [hlen]; omega)
    rw [gd_r] at e1
    rw [hlen]
    refine ⟨fun j hj => ?_, ?_⟩
    · by_cases c : j < F.length
      · exact ih.1 j c
      · rw [show j = F.length by omega]
        exact Or.inr (Or.inr (Or.inl ⟨e1.1, by rw [ih.2]; omega⟩))
    · show dps wh (k0 + F.length + 1) = _
      rw [dps, if_neg (by rw [e1.1]; decide), if_pos e1.1, ih.2]
  · intro F H c ihF ihH hc wh va k0 e
    have hlen : (F ++ (H ++ [((3 : Int32), c)])).length = F.length + H.length + 1 := by rw [List.length_append, List.length_append, Nat.add_assoc]; rfl
    have ihF := ihF wh va k0 (fun j hj => by have := e j (by rw [hlen]; omega); rw [gd_a hj] at this; exact this)
    have ihH := ihH wh va (k0 + F.length) (fun j hj => by have := e (F.length + j) (by rw [hlen]; omega); rw [gd_b, gd_a hj, ← Nat.add_assoc] at this; exact this)
    have e1 := e (F.length + H.length) (by rw [hlen]; omega)
    rw [gd_b, gd_r, ← Nat.add_assoc] at e1
    have e1 : wh (k0 + F.length + H.length) = 3 ∧ va (k0 + F.length + H.length) = c := e1
    rw [hlen]
    refine ⟨fun j hj => ?_, ?_⟩
    · by_cases c1 : j < F.length
      · exact ihF.1 j c1
      · by_cases c2 : j < F.length + H.length
        · have := ihH.1 (j - F.length) (by omega)
          rw [show k0 + F.length + (j - F.length) = k0 + j by omega] at this
          exact this
        · rw [show k0 + j = k0 + F.length + H.length by omega]
          exact Or.inr (Or.inr (Or.inr ⟨e1.1, by rw [e1.2]; exact hc, by rw [ihH.2, ihF.2]; omega⟩))
    · rw [show k0 + (F.length + H.length + 1) = k0 + F.length + H.length + 1 by omega, dps, if_neg (by rw [e1.1]; decide), if_neg (by rw [e1.1]; decide), ihH.2, ihF.2]
      rfl
set_option maxHeartbeats 4000000 in
theorem TA_upt {t a i : Nat} {x y z : Nat} : upt (upt (upt (TA t a i) 9 0 (some x)) 9 1 (some y)) 9 2 (some z) = TA x y z := by
  funext k j
  by_cases hk : k = 9
  · subst hk
    by_cases h0 : j = 0
    · subst h0; rfl
    · by_cases h1 : j = 1
      · subst h1; rfl
      · by_cases h2 : j = 2
        · subst h2; rfl
        · obtain ⟨j, rfl⟩ : ∃ e, j = e + 3 := ⟨j - 3, by omega⟩
          simp [upt, TA, TAL]
  · have e : ∀ t a i, TA t a i k j = TA 0 0 0 k j := by
      intro t a i
      unfold TA
      have : (TAL t a i) = (TAL 0 0 0).set 9 [some t, some a, some i] := rfl
      have e2 : ((TAL 0 0 0).set 9 [some t, some a, some i]).getD k [] = (TAL 0 0 0).getD k [] := by rw [List.getD_eq_getElem?_getD, List.getElem?_set, if_neg (fun e => hk e.symm), ← List.getD_eq_getElem?_getD]
      rw [this, e2]
    unfold upt
    rw [if_neg (fun q => hk q.1), if_neg (fun q => hk q.1), if_neg (fun q => hk q.1), e t a i, e x y z]
-- the model's row behind a good text
def txG (f : Nat → Int32) (u N K : Nat) (s : Nat → Int32) : Nat → Int32 := fun j => if 169 + 125 * u ≤ j ∧ j < 169 + 125 * u + K then s (j - (169 + 125 * u)) else if j = 168 + 125 * u then Int32.ofNat N else if j = 5 then 0 else f j
set_option maxHeartbeats 4000000 in
theorem txG_s {f : Nat → Int32} {u N K : Nat} {s : Nat → Int32} : (fun j => if j = 169 + 125 * u + K then s K else txG f u N K s j) = txG f u N (K + 1) s := by
  funext j
  unfold txG
  by_cases c : j = 169 + 125 * u + K
  · rw [if_pos c, if_pos ⟨by omega, by omega⟩, show j - (169 + 125 * u) = K by omega]
  · rw [if_neg c]
    by_cases c2 : 169 + 125 * u ≤ j ∧ j < 169 + 125 * u + K
    · rw [if_pos c2, if_pos ⟨c2.1, by omega⟩]
    · rw [if_neg c2, if_neg (show ¬ (169 + 125 * u ≤ j ∧ j < 169 + 125 * u + (K + 1)) from fun q => c2 ⟨q.1, by omega⟩)]
section
variable {G : Gm} {d n u t a i : Nat} {w f : Nat → Int32} {m : Mem} {K : Option Value → Mem → Prop} {r : pRs}
set_option maxHeartbeats 4000000 in
theorem tx_loop (hG : fl G = false) (hu : u < 2) {N : Nat} (hN : N ≤ 60) {m0 : Mem} (e7 : m0 75 7 = Int32.ofNat N) (k : ∀ m', Fr [76] m0 m' → m' 76 = txG f u N (2 * N) (m0 80) → K (some (.int 1)) m') : ∀ (e j : Nat), j + e = 2 * N → ∀ m, Fr [76] m0 m → m 76 = txG f u N j (m0 80) → WP G (rmD (d + 1) 0 0) mX6_text (QC G SH (TA t a i) K) 0 0 102 [(0, .ref 75), (3, .int (168 + 125 * Int32.ofNat u)), (4, .int (Int32.ofNat j))] [] (SH, TA t a i, m) := by
  intro e
  induction e with
  | zero =>
    intro j hj m hf h6
    refine rg_X6_text_102 hG 75 _ _ ⟨rfl, fun _ => k m hf (by rw [h6, show j = 2 * N by omega]), fun c => absurd ?_ c⟩
    rw [hf 75 (by decide), e7, show (2 : Int32) * Int32.ofNat N = Int32.ofNat (2 * N) from o_mul 2 N]
    exact (o_le (by omega) (by omega)).mpr (by omega)
  | succ e ih =>
    intro j hj m hf h6
    have a0 : (168 : Int32) + 125 * Int32.ofNat u = Int32.ofNat (168 + 125 * u) := by
      rw [show (125 : Int32) * Int32.ofNat u = Int32.ofNat (125 * u) from o_mul 125 u]
      exact o_add 168 (125 * u)
    have a1 : (168 : Int32) + 125 * Int32.ofNat u + 1 + Int32.ofNat j = Int32.ofNat (169 + 125 * u + j) := by
      rw [a0, o_1, o_add]
      congr 1
      omega
    refine rg_X6_text_102 hG 75 _ _ ⟨rfl, fun c => ?_, fun _ => ⟨76, rfl, 80, rfl, 124, rfl, ib_o (by omega) (by decide), 502, rfl, by rw [a1]; exact ib_o (by omega) (by decide), ?_⟩⟩
    · rw [hf 75 (by decide), e7, show (2 : Int32) * Int32.ofNat N = Int32.ofNat (2 * N) from o_mul 2 N, o_le (by omega) (by omega)] at c
      omega
    · rintro _ rfl
      rw [a1, show Int32.ofNat j + 1 = Int32.ofNat (j + 1) from o_1 j]
      refine ih (j + 1) (by omega) _ (hf.tr (Fr.ua (by decide))) ?_
      rw [rd_o (by omega), hf 80 (by decide)]
      funext b
      show up2 m 76 _ _ 76 b = _
      rw [up2_eq, tn_o (by omega), h6, ← txG_s]
set_option maxHeartbeats 4000000 in
theorem tx_M (hG : fl G = false) (hd : 43 ≤ d) (hx : psX n w u f) (w1 : psWR n u 0 r) (mm : qsC G f u mX6_whole 0 42 0 r) (e6 : m 76 = f)
    (k1 : r.1 = true → r.2.1 = n → ∀ m' s, Fr [75, 80, 76] m m' → m' 75 3 = m 75 3 → m' 75 15 = m 75 15 → (∀ k, k < r.2.2.length → s (2 * k) = (r.2.2.getD k (0, 0)).1 ∧ s (2 * k + 1) = (r.2.2.getD k (0, 0)).2) → m' 76 = txG f u r.2.2.length (2 * r.2.2.length) s → K (some (.int 1)) m')
    (k2 : ¬ (r.1 = true ∧ r.2.1 = n) → ∀ m', Fr [75, 80, 76] m m' → m' 75 3 = m 75 3 → m' 75 15 = m 75 15 → m' 76 = wr f 5 0 → K (some (.int (-10 - Int32.ofNat r.2.1))) m') : Cal G mX6_text d [.ref 75, .int (Int32.ofNat u)] SH (TA t a i) m K := by
  have hu := hx.2.2.2.2
  have hn := hx.1
  have x1 := w1.2.1
  obtain ⟨d, rfl⟩ : ∃ e, d = e + 1 := ⟨d - 1, by omega⟩
  have i0 : (0 : Int32) ≤ Int32.ofNat u ∧ Int32.ofNat u ≤ 1 := ⟨o_0 _ (by omega), (o_le (b := 1) (by omega) (by decide)).mpr (by omega)⟩
  refine Cal.of (by decide +kernel) rfl (Nat.le_of_ble_eq_true rfl) (rg_X6_text_0 hG 75 (Int32.ofNat u) (c_X6_in hG (by omega) ⟨_, rfl, fun _ => ⟨rfl, ?_⟩, fun q => absurd i0 (b0 q)⟩))
  rintro _ rfl _ rfl _ rfl _ rfl
  have hS : qsS f u 0 0 [] (up2 (up2 (up2 (up2 m 75 8 (Int32.ofNat u)) 75 5 0) 75 6 0) 75 7 0) := ⟨e6, rfl, rfl, rfl, rfl, fun k hk => absurd hk (Nat.not_lt_zero _)⟩
  have hF : ∀ {m'}, qsF (up2 (up2 (up2 (up2 m 75 8 (Int32.ofNat u)) 75 5 0) 75 6 0) 75 7 0) m' → Fr [75, 80, 76] m m' ∧ m' 75 3 = m 75 3 ∧ m' 75 15 = m 75 15 := fun {m'} h => ⟨fun z hz => by
    simp only [List.mem_cons, List.mem_nil_iff, or_false, not_or] at hz
    rw [h.1 z (by simp only [List.mem_cons, List.mem_nil_iff, or_false, not_or]; exact ⟨hz.1, hz.2.1⟩), up2_ne hz.1, up2_ne hz.1, up2_ne hz.1, up2_ne hz.1], h.2 3 (by decide) (by decide) (by decide), h.2 15 (by decide) (by decide) (by decide)⟩
  refine mm d t a i _ [] _ (by omega) (Nat.le_refl _) hS fun m' hf h => ⟨_, rfl, fun q => ?_, fun q => ?_⟩
  · have hr : ¬ r.1 = true := b0 q
    have hr' : r.1 = false := by
      cases h : r.1 with
      | false => rfl
      | true => exact absurd h hr
    obtain ⟨g1, g2⟩ := h.2 hr'
    obtain ⟨f1, f2, f3⟩ := hF hf
    refine ⟨76, rfl, 502, rfl, ib_o (k := 5) (by decide) (by decide), ?_⟩
    rintro _ rfl
    rw [show upa m' 76 5 0 75 5 = Int32.ofNat r.2.1 from g2]
    exact k2 (fun z => hr z.1) _ (f1.tr (Fr.ua (by decide))) f2 f3 (by rw [upa_eq, g1])
  · have hr : r.1 = true := b1 q
    have hQ := h.1 hr
    rw [List.nil_append] at hQ
    obtain ⟨f1, f2, f3⟩ := hF hf
    have hL : r.2.2.length ≤ 60 := by have := (w1.2.2 hr).2.1; omega
    have h5 : rd (m' 76) 5 = Int32.ofNat n := by rw [hQ.1]; exact hx.2.2.1
    refine ⟨76, rfl, 502, rfl, ib_o (k := 5) (by decide) (by decide), fun c => ⟨ib_o (k := 5) (by decide) (by decide), ?_⟩, fun c => ⟨ib_o (k := 5) (by decide) (by decide), ?_⟩⟩
    · rw [h5, hQ.2.1] at c
      rintro _ rfl
      rw [show upa m' 76 5 0 75 5 = Int32.ofNat r.2.1 from hQ.2.1]
      exact k2 (fun z => c (by rw [z.2])) _ (f1.tr (Fr.ua (by decide))) f2 f3 (by rw [upa_eq, hQ.1])
    · rw [h5, hQ.2.1, o_eq (by omega) (by omega)] at c
      rintro _ rfl
      have a0 : (168 : Int32) + 125 * Int32.ofNat u = Int32.ofNat (168 + 125 * u) := by
        rw [show (125 : Int32) * Int32.ofNat u = Int32.ofNat (125 * u) from o_mul 125 u]
        exact o_add 168 (125 * u)
      refine ⟨by rw [a0]; exact ib_o (by omega) (by decide), ?_⟩
      rintro _ rfl
      have e7 : upa m' 76 5 0 75 7 = Int32.ofNat r.2.2.length := hQ.2.2.2.1
      rw [e7]
      refine tx_loop (f := f) (N := r.2.2.length) (m0 := upa (upa m' 76 5 0) 76 (168 + 125 * Int32.ofNat u) (Int32.ofNat r.2.2.length)) hG hu hL e7 (fun m2 hf2 h2 => ?_) (2 * r.2.2.length) 0 (by omega) _ Fr.rf ?_
      · have ff : Fr [76] m' m2 := ((Fr.ua (by decide)).tr (Fr.ua (by decide))).tr hf2
        refine k1 hr c m2 (m' 80) (f1.tr (ff.mo (by decide))) ?_ ?_ ?_ h2
        · rw [ff 75 (by decide)]; exact f2
        · rw [ff 75 (by decide)]; exact f3
        · exact hQ.2.2.2.2.2
      · funext b
        show up2 (up2 m' 76 _ 0) 76 _ _ 76 b = _
        rw [a0, tn_o (by omega), up2_eq, up2_eq, hQ.1]
        unfold txG
        rw [if_neg (show ¬ (169 + 125 * u ≤ b ∧ b < 169 + 125 * u + 0) by omega)]
        rfl
set_option maxHeartbeats 4000000 in
theorem tx_C (hG : fl G = false) (hd : 46 ≤ d) (hx : psX n w u f) (w1 : psWR n u 0 r) (cc : psC G n w u mX1_readAny 0 42 0 r) {T : Nat} (hT : u = 0 ∧ T = 36 ∨ u = 1 ∧ T = 40) (ht : m 1 1 = Int32.ofNat n ∧ ∀ j, j < n → m 2 j = w j) {K : Option Value → (Nat → Nat → Option Nat) → Mem → Prop}
    (k1 : r.1 = true → r.2.1 = n → ∀ m', Fr [9, 17, 18, 1, T + 1, T + 2] m m' → m' 1 1 = 0 → TR m' T (Int32.ofNat u) (fun k => (r.2.2.getD k (0, 0)).1) (fun k => (r.2.2.getD k (0, 0)).2) r.2.2.length → K (some (.int 1)) (TA 1 (1003 + u) 16) m')
    (k2 : ¬ (r.1 = true ∧ r.2.1 = n) → ∀ m', Fr [9, 17, 18, 1] m m' → m' 1 1 = 0 → K (some (.int (-10 - Int32.ofNat r.2.1))) (TA 1 (1003 + u) 16) m') : CalT G mX5_text d [.ref 0, .int (Int32.ofNat u)] SH (TA t a i) m K := by
  have hu := hx.2.2.2.2
  have hn := hx.1
  have x1 := w1.2.1
  obtain ⟨d, rfl⟩ : ∃ e, d = e + 1 := ⟨d - 1, by omega⟩
  have tf : ∀ {d : Nat} {m : Mem} {K : Option Value → Mem → Prop}, 1 ≤ d → K (some (.ref T)) m → Cal G mX0_textFor d [.ref 35, .int (Int32.ofNat u)] SH (TA 1 (1003 + u) 16) m K := by
    intro d m K hd k
    obtain ⟨d, rfl⟩ : ∃ e, d = e + 1 := ⟨d - 1, by omega⟩
    rcases hT with ⟨rfl, rfl⟩ | ⟨rfl, rfl⟩
    · exact Cal.of (by decide +kernel) rfl (Nat.le_of_ble_eq_true rfl) (rg_X0_textFor_0 hG 35 (Int32.ofNat 0) ⟨fun z => absurd rfl z, fun _ => ⟨rfl, 36, rfl, k⟩⟩)
    · exact Cal.of (by decide +kernel) rfl (Nat.le_of_ble_eq_true rfl) (rg_X0_textFor_0 hG 35 (Int32.ofNat 1) ⟨fun _ => ⟨rfl, 40, rfl, k⟩, fun z => absurd z (by decide)⟩)
  have TXT : TXo SH (TA 1 (1003 + u) 16) T := by
    rcases hT with ⟨rfl, rfl⟩ | ⟨rfl, rfl⟩
    · exact TX36
    · exact TX40
  have TXs : SH[T]? = some (.inl 3) := TXT.1
  have go : CalT G mX1_read d [.ref 9, .ref 1, .ref (1003 + u), .ref 16] SH (TA t a i) m (fun v16 t20 m17 => ∃ r18, v16 = some (.int r18) ∧ ∃ i22, t20 0 3 = some i22 ∧ SH[i22]? = some (.inl 2) ∧ Cal G mX2_clear d [.ref i22] SH t20 m17 (fun v24 m25 => v24 = none ∧ ((r18 < 0 → ∃ i30, t20 0 0 = some i30 ∧ SH[i30]? = some (.inl 0) ∧ Cal G mX0_textFor d [.ref i30, .int (Int32.ofNat u)] SH t20 m25 (fun v32 m33 => ∃ r34, v32 = some (.ref r34) ∧ ∃ i37, t20 0 8 = some i37 ∧ SH[r34]? = some (.inl 3) ∧ Cal G mX3_copyFrom d [.ref r34, .ref i37] SH t20 m33 (fun v39 m40 => v39 = none ∧ K (some (.int 1)) t20 m40))) ∧ (¬ r18 < 0 → K (some (.int (((-10)) - r18))) t20 m25)))) := by
    obtain ⟨d, rfl⟩ : ∃ e, d = e + 1 := ⟨d - 1, by omega⟩
    refine CalT.of (by decide +kernel) rfl (Nat.le_of_ble_eq_true rfl) (rg_X1_read_0 hG 9 1 (1003 + u) 16 ?_)
    rw [TA_upt]
    refine ⟨rfl, 16, rfl, rfl, c_X3_clear hG (by omega) TX16 ⟨rfl, ?_⟩⟩
    rintro _ rfl _ rfl
    have hS : psS n w u 0 [] (up2 (up2 (up2 m 17 1 0) 9 3 0) 9 4 0) := ⟨⟨ht.1, ht.2, rfl⟩, rfl, rfl, fun k hk => absurd hk (Nat.not_lt_zero _)⟩
    have hF : ∀ {m'}, Fr [9, 17, 18] (up2 (up2 (up2 m 17 1 0) 9 3 0) 9 4 0) m' → Fr [9, 17, 18, 1] m (up2 m' 1 1 0) := fun {m'} h z hz => by
      simp only [List.mem_cons, List.mem_nil_iff, or_false, not_or] at hz
      rw [up2_ne hz.2.2.2, h z (by simp only [List.mem_cons, List.mem_nil_iff, or_false, not_or]; exact ⟨hz.1, hz.2.1, hz.2.2.1⟩), up2_ne hz.1, up2_ne hz.1, up2_ne hz.2.1]
    have bad : ∀ {m' : Mem}, ¬ (r.1 = true ∧ r.2.1 = n) → Fr [9, 17, 18] (up2 (up2 (up2 m 17 1 0) 9 3 0) 9 4 0) m' → m' 9 3 = Int32.ofNat r.2.1 → ∃ r18, some (Value.int (m' 9 3)) = some (.int r18) ∧ ∃ i22, (TA 1 (1003 + u) 16) 0 3 = some i22 ∧ SH[i22]? = some (.inl 2) ∧ Cal G mX2_clear (d + 1) [.ref i22] SH (TA 1 (1003 + u) 16) m' (fun v24 m25 => v24 = none ∧ ((r18 < 0 → ∃ i30, (TA 1 (1003 + u) 16) 0 0 = some i30 ∧ SH[i30]? = some (.inl 0) ∧ Cal G mX0_textFor (d + 1) [.ref i30, .int (Int32.ofNat u)] SH (TA 1 (1003 + u) 16) m25 (fun v32 m33 => ∃ r34, v32 = some (.ref r34) ∧ ∃ i37, (TA 1 (1003 + u) 16) 0 8 = some i37 ∧ SH[r34]? = some (.inl 3) ∧ Cal G mX3_copyFrom (d + 1) [.ref r34, .ref i37] SH (TA 1 (1003 + u) 16) m33 (fun v39 m40 => v39 = none ∧ K (some (.int 1)) (TA 1 (1003 + u) 16) m40))) ∧ (¬ r18 < 0 → K (some (.int (((-10)) - r18))) (TA 1 (1003 + u) 16) m25))) := by
      intro m' hb hf e
      refine ⟨_, rfl, 1, rfl, rfl, c_X2_clear hG (by omega) rfl ⟨rfl, fun c => ?_, fun _ => ?_⟩⟩
      · rw [e] at c
        exact absurd c (Int32.not_lt.mpr (o_0 _ (by omega)))
      · rw [e]
        exact k2 hb _ (hF hf) (by rw [up2_eq, if_pos rfl])
    refine cc d _ [] _ (by omega) (Nat.le_refl _) hS fun m' hf h => ⟨rfl, fun c => ?_, fun c => ⟨1, rfl, rfl, fun c2 => ?_, fun c2 => ?_⟩⟩
    · cases hr : r.1 with
      | true => exact absurd (h.1 hr).2.1 c
      | false => exact bad (fun z => by rw [hr] at z; exact bFT z.1) hf (h.2 hr).1.2.2
    · cases hr : r.1 with
      | false => exact absurd c (h.2 hr).2.1
      | true =>
        have hP := h.1 hr
        rw [List.nil_append] at hP
        rw [hP.1.1, hP.1.2.2, o_le (by omega) (by omega)] at c2
        have hL : r.2.2.length ≤ 60 := by have := (w1.2.2 hr).2.1; omega
        have hTR : TR (up2 m' 1 1 0) 16 (Int32.ofNat u) (fun k => (r.2.2.getD k (0, 0)).1) (fun k => (r.2.2.getD k (0, 0)).2) r.2.2.length := ⟨hP.2.2.1, fun k hk => by rw [rd_o (by omega)]; exact hP.2.2.2 k hk⟩
        refine ⟨_, rfl, 1, rfl, rfl, c_X2_clear hG (by omega) rfl ⟨rfl, fun _ => ⟨35, rfl, rfl, tf (by omega) ⟨_, rfl, 16, rfl, TXs, ?_⟩⟩, fun c => absurd (by decide) c⟩⟩
        refine c_X3_copyFrom hG (by omega) TXT TX16 (by rcases hT with ⟨rfl, rfl⟩ | ⟨rfl, rfl⟩ <;> decide) hL hTR fun m3 hf3 h3 => ⟨rfl, k1 hr (by omega) m3 ?_ ?_ h3⟩
        · refine ((hF hf).mo (fun z hz => ?_)).tr (hf3.mo (fun z hz => ?_))
          · simp only [List.mem_cons, List.mem_nil_iff, or_false] at hz ⊢
            rcases hz with h | h | h | h <;> simp [h]
          · simp only [List.mem_cons, List.mem_nil_iff, or_false] at hz ⊢
            rcases hz with h | h <;> simp [h]
        · rw [hf3 1 (by rcases hT with ⟨rfl, rfl⟩ | ⟨rfl, rfl⟩ <;> decide), up2_eq, if_pos rfl]
    · cases hr : r.1 with
      | false => exact absurd c (h.2 hr).2.1
      | true =>
        have hP := h.1 hr
        rw [hP.1.1, hP.1.2.2, o_le (by omega) (by omega)] at c2
        exact bad (fun z => c2 (by rw [z.2]; exact Nat.le_refl _)) hf hP.1.2.2
  refine CalT.of (by decide +kernel) rfl (Nat.le_of_ble_eq_true rfl) (rg_X5_text_0 hG 0 (Int32.ofNat u) ⟨fun c => absurd c (Int32.not_lt.mpr (o_0 _ (by omega))), fun _ => ⟨fun _ => ⟨rfl, 9, rfl, 1, rfl, ?_⟩, fun c => absurd ((o_le (b := 1) (by omega) (by decide)).mpr (by omega)) c⟩⟩)
  rcases hT with ⟨rfl, rfl⟩ | ⟨rfl, rfl⟩
  · exact ⟨fun c => absurd rfl c, fun _ => ⟨16, rfl, rfl, go⟩⟩
  · exact ⟨fun _ => ⟨16, rfl, rfl, go⟩, fun c => absurd c (by decide)⟩
end
-- one call of both sides, where the class's references may change
def JT (G : Gm) (d t n i : Nat) (y1 y2 : Mi) (as : List Value) (m : Mem) : Prop := CalT G y1 d (.ref 0 :: as) SH (TA t n i) m (fun v1 t1 m1 => ∃ r, v1 = some (.int r) ∧ ∃ t' n' i', t1 = TA t' n' i' ∧ Cal G y2 d (.ref 75 :: as) SH (TA t' n' i') m1 (fun v2 m2 => v2 = some (.int r) ∧ jV m2))
section
variable {G : Gm} {d t n i : Nat} {m : Mem} {x : Int32}
set_option maxHeartbeats 4000000 in
theorem J_text (hG : fl G = false) (hd : 46 ≤ d) (hV : jV m) : JT G d t n i mX5_text mX6_text [.int x] m := by
  have hV' := hV
  obtain ⟨⟨⟨hb, ht, hw⟩, h13, hta, hwa, hB⟩, hK, hS, hE, hT⟩ := hV
  by_cases hx01 : 0 ≤ x ∧ x ≤ 1
  · obtain ⟨u, hu, rfl⟩ := oN' (N := 1) hx01.1 hx01.2 (by decide)
    obtain ⟨N, hN, e5⟩ := oN' (N := 60) (show 0 ≤ rd (m 76) 5 from hw.2.2.1.2.2.2.2.1.1) hw.2.2.1.2.2.2.2.1.2 (by decide)
    have hta' : m 1 1 = Int32.ofNat N ∧ ∀ j, j < N → m 2 j = m 76 (418 + j) := ⟨by rw [hta.1, e5], fun j hj => hta.2 j (by omega) (by rw [e5]; exact (o_lt (by omega) (by omega)).mpr hj)⟩
    have hx : psX N (fun j => m 76 (418 + j)) u (m 76) := ⟨hN, fun j hj => hB j (by omega), e5, fun _ _ => rfl, by omega⟩
    obtain ⟨r, w1, cc, mm⟩ := (psp.go hG hx 5 0 rfl).2 0 (Nat.zero_le _)
    have tp : ∀ {m' : Mem}, Fr (1 :: 2 :: 5 :: 6 :: 76 :: 34 :: 79 :: 75 :: jO) m m' → m' 34 = m 34 → m' 79 = m 79 → m' 5 = m 5 → m' 6 = m 6 → m' 75 3 = m 75 3 → m' 75 15 = m 75 15 → m' 1 1 = 0 → m' 76 = wr (m 76) 5 0 → jV m' := by
      intro m' hf e34 e79 e5' e6' h3 h15 h1 h76
      have ne : ∀ j, j ≠ 5 → wr (m 76) 5 0 j = m 76 j := fun j hj => if_neg hj
      have r5 : rd (wr (m 76) 5 0) 5 = 0 := rfl
      have r6 : rd (wr (m 76) 5 0) 6 = rd (m 76) 6 := rfl
      refine hV'.tp hf h3 h15 (by unfold jE at hE ⊢; rw [e34, e79]; exact hE) (fun j _ h5 _ => by rw [h76]; exact ne j h5) ?_ ?_ ?_ ?_
      · rw [h76]
        have a := hw.2.2.1
        unfold WN at a ⊢
        exact ⟨a.1, a.2.1, a.2.2.1, a.2.2.2.1, by rw [r5]; decide, a.2.2.2.2.2⟩
      · rw [h76, r5]
        refine ⟨h1, fun j _ hj => ?_⟩
        exact absurd hj (Int32.not_lt.mpr (o_0 _ (by omega)))
      · rw [h76, r6]
        refine ⟨by rw [e5']; exact hwa.1, fun j hj hl => ?_⟩
        show m' 6 j = wr (m 76) 5 0 (478 + j)
        rw [e6', ne (478 + j) (by omega)]
        exact hwa.2 j hj hl
      · intro j hj
        rw [h76, ne (418 + j) (by omega)]
        exact hB j hj
    obtain ⟨T, hTT⟩ : ∃ T, u = 0 ∧ T = 36 ∨ u = 1 ∧ T = 40 := by
      rcases (show u = 0 ∨ u = 1 by omega) with rfl | rfl
      · exact ⟨36, Or.inl ⟨rfl, rfl⟩⟩
      · exact ⟨40, Or.inr ⟨rfl, rfl⟩⟩
    refine tx_C hG hd hx w1 cc hTT hta' (fun hr hn m1 hf1 h1 hTR => ⟨_, rfl, _, _, _, rfl, ?_⟩) (fun hb m1 hf1 h1 => ⟨_, rfl, _, _, _, rfl, ?_⟩)
    · have n76 : ∀ z, 60 ≤ z → z ∉ [9, 17, 18, 1, T + 1, T + 2] := by
        intro z hz q
        simp only [List.mem_cons, List.mem_nil_iff, or_false] at q
        omega
      have hx1 : psX N (fun j => m 76 (418 + j)) u (m 76) := hx
      refine tx_M hG (by omega) hx w1 mm (hf1 76 (n76 _ (by decide))) (fun _ _ m2 s hf2 e3 e15 hs h76 => ⟨rfl, ?_⟩) (fun c => absurd ⟨hr, hn⟩ c)
      have hL : r.2.2.length ≤ 60 := by have := (w1.2.2 hr).2.1; have := w1.2.1; omega
      have PF := (w1.2.2 hr).2.2
      rw [hf1 75 (n76 _ (by decide))] at e3 e15
      -- the tape first
      have i76 : set1 (set1 m 1 (m1 1)) 76 (wr (m 76) 5 0) 76 = wr (m 76) 5 0 := set1_eq
      have hI : jV (set1 (set1 m 1 (m1 1)) 76 (wr (m 76) 5 0)) := by
        refine tp (fun z hz => ?_) rfl rfl rfl rfl rfl rfl h1 set1_eq
        simp only [List.mem_cons, not_or] at hz
        rw [set1_ne hz.2.2.2.2.1, set1_ne hz.1]
      have hE0 : ∀ j, ¬ (168 + 125 * u ≤ j ∧ j < 169 + 125 * u + 2 * r.2.2.length) → m2 76 j = wr (m 76) 5 0 j := by
        intro j hj
        rw [h76]
        unfold txG
        rw [if_neg (fun q => hj ⟨by omega, q.2⟩), if_neg (fun q => hj ⟨by omega, by omega⟩)]
        rfl
      have hN0 : tN (m2 76) (Int32.ofNat u) = Int32.ofNat r.2.2.length ∧ ∀ k, k < r.2.2.length → tW (m2 76) (Int32.ofNat u) k = (r.2.2.getD k (0, 0)).1 ∧ tV (m2 76) (Int32.ofNat u) k = (r.2.2.getD k (0, 0)).2 := by
        have g0 : m2 76 (168 + 125 * u) = Int32.ofNat r.2.2.length := by
          rw [h76]
          unfold txG
          rw [if_neg (by omega), if_pos rfl]
        have g1 : ∀ k, k < 2 * r.2.2.length → m2 76 (169 + 125 * u + k) = s k := by
          intro k hk
          rw [h76]
          unfold txG
          rw [if_pos ⟨by omega, by omega⟩, show 169 + 125 * u + k - (169 + 125 * u) = k by omega]
        rcases hTT with ⟨rfl, -⟩ | ⟨rfl, -⟩
        · refine ⟨(tN_o (f := m2 76)).1.trans g0, fun k hk => ?_⟩
          have o := tW_o (f := m2 76) (k := k) (by omega)
          have a1 := g1 (2 * k) (by omega)
          have a2 := g1 (2 * k + 1) (by omega)
          refine ⟨o.1.trans ((a1 : m2 76 (169 + 2 * k) = _).trans (hs k hk).1), o.2.1.trans ?_⟩
          rw [show 170 + 2 * k = 169 + 125 * 0 + (2 * k + 1) by omega, a2]
          exact (hs k hk).2
        · refine ⟨(tN_o (f := m2 76)).2.trans g0, fun k hk => ?_⟩
          have o := tW_o (f := m2 76) (k := k) (by omega)
          have a1 := g1 (2 * k) (by omega)
          have a2 := g1 (2 * k + 1) (by omega)
          refine ⟨o.2.2.1.trans ?_, o.2.2.2.trans ?_⟩
          · rw [show 294 + 2 * k = 169 + 125 * 1 + 2 * k by omega, a1]
            exact (hs k hk).1
          · rw [show 295 + 2 * k = 169 + 125 * 1 + (2 * k + 1) by omega, a2]
            exact (hs k hk).2
      have wt := PF.wt (tW (m2 76) (Int32.ofNat u)) (tV (m2 76) (Int32.ofNat u)) 0 (fun j hj => by rw [Nat.zero_add]; exact hN0.2 j hj)
      have hTR2 : TR m2 T (Int32.ofNat u) (tW (m2 76) (Int32.ofNat u)) (tV (m2 76) (Int32.ofNat u)) (tN (m2 76) (Int32.ofNat u)).toNatClampNeg := by
        rw [hN0.1, tn_o (by omega)]
        have g := hTR.fr hf2 (by rcases hTT with ⟨rfl, rfl⟩ | ⟨rfl, rfl⟩ <;> decide) (by rcases hTT with ⟨rfl, rfl⟩ | ⟨rfl, rfl⟩ <;> decide)
        exact ⟨g.1, fun k hk => by rw [(hN0.2 k hk).1, (hN0.2 k hk).2]; exact g.2 k hk⟩
      have hff : Fr ((T + 1) :: (T + 2) :: 76 :: 75 :: jO) (set1 (set1 m 1 (m1 1)) 76 (wr (m 76) 5 0)) m2 := by
        intro z hz
        simp only [List.mem_cons, not_or] at hz
        have hjO : z ∉ jO := hz.2.2.2.2
        have h9 : z ≠ 9 := fun e => hjO (by rw [e]; decide)
        have h17 : z ≠ 17 := fun e => hjO (by rw [e]; decide)
        have h18 : z ≠ 18 := fun e => hjO (by rw [e]; decide)
        have h80 : z ≠ 80 := fun e => hjO (by rw [e]; decide)
        rw [set1_ne hz.2.2.1, hf2 z (by simp only [List.mem_cons, List.mem_nil_iff, or_false, not_or]; exact ⟨hz.2.2.2.1, h80, hz.2.2.1⟩)]
        by_cases c : z = 1
        · subst c
          exact set1_eq.symm
        · rw [set1_ne c, hf1 z (by simp only [List.mem_cons, List.mem_nil_iff, or_false, not_or]; exact ⟨h9, h17, h18, c, hz.1, hz.2.1⟩)]
      have hxe : TxE (Int32.ofNat u) (set1 (set1 m 1 (m1 1)) 76 (wr (m 76) 5 0) 76) (m2 76) := by
        rw [i76]
        intro j g0 g1
        refine hE0 j (fun q => ?_)
        rcases hTT with ⟨rfl, -⟩ | ⟨rfl, -⟩
        · have := g0 rfl; omega
        · have := g1 rfl; omega
      have hwx : WX (m2 76) (Int32.ofNat u) := ⟨r.2.2.length, hN0.1, hL, fun k hk => by have := wt.1 k hk; rw [Nat.zero_add] at this; exact this, fun _ => by have := wt.2; rw [Nat.zero_add] at this; exact this⟩
      rcases hTT with ⟨rfl, rfl⟩ | ⟨rfl, rfl⟩
      · exact hI.te (Or.inl ⟨rfl, rfl⟩) hff e3 e15 hxe hwx hTR2
      · exact hI.te (Or.inr ⟨rfl, rfl⟩) hff e3 e15 hxe hwx hTR2
    · refine tx_M hG (by omega) hx w1 mm (hf1 76 (by decide)) (fun a b => absurd ⟨a, b⟩ hb) (fun _ m2 hf2 e3 e15 h76 => ⟨rfl, ?_⟩)
      rw [hf1 75 (by decide)] at e3 e15
      have hff : Fr [9, 17, 18, 1, 75, 80, 76] m m2 := (hf1.mo (by decide)).tr (hf2.mo (by decide))
      exact tp (hff.mo (by decide)) (hff 34 (by decide)) (hff 79 (by decide)) (hff 5 (by decide)) (hff 6 (by decide)) e3 e15 (by rw [hf2 1 (by decide)]; exact h1) h76
  · have go : ∀ {t n i : Nat}, Cal G mX6_text d [.ref 75, .int x] SH (TA t n i) (set1 m 34 (wr (m 34) 1 (rd (m 34) 1 + 1))) (fun v2 m2 => v2 = some (.int (-1000000000 - 1)) ∧ jV m2) := by
      intro t n i
      obtain ⟨d, rfl⟩ : ∃ e, d = e + 1 := ⟨d - 1, by omega⟩
      exact Cal.of (by decide +kernel) rfl (Nat.le_of_ble_eq_true rfl) (rg_X6_text_0 hG 75 x (c_X6_in hG (by omega) ⟨_, rfl, fun q => absurd (b1 q) hx01, fun _ => ⟨rfl, c_X6_error hG (by omega) (by decide) ⟨_, rfl, rfl, hV'.e2 (by decide) Fr.rf Fr.rf (by rw [set1_ne (by decide)]) (by rw [set1_ne (by decide)])⟩⟩⟩))
    obtain ⟨d, rfl⟩ : ∃ e, d = e + 1 := ⟨d - 1, by omega⟩
    refine CalT.of (by decide +kernel) rfl (Nat.le_of_ble_eq_true rfl) (rg_X5_text_0 hG 0 x ⟨fun c => ⟨rfl, c_X5_refuse hG (by omega) (by decide) ⟨_, rfl, _, rfl, _, _, _, rfl, go⟩⟩, fun c => ⟨fun c2 => absurd ⟨Int32.not_lt.mp c, c2⟩ hx01, fun c2 => ⟨rfl, c_X5_refuse hG (by omega) (by decide) ⟨_, rfl, _, rfl, _, _, _, rfl, go⟩⟩⟩⟩)
end

