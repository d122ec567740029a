-- 80.one
-- the digits from a place on, at most so many
def dgt (n : Nat) (w : Nat → Int32) : Nat → Nat → Int32 → Nat × Int32
  | 0, p, v => (p, v)
  | k + 1, p, v => if 48 ≤ lkb n w p ∧ lkb n w p ≤ 57 then dgt n w k (p + 1) (10 * v + lkb n w p - 48) else (p, v)
set_option maxHeartbeats 4000000 in
theorem lk_in {n p : Nat} {w : Nat → Int32} (h : ¬ lkb n w p = -1) : p < n := by
  refine Decidable.by_contra fun q => h ?_
  rw [lkb, if_neg q]
set_option maxHeartbeats 4000000 in
theorem dgt_ok {n : Nat} {w : Nat → Int32} : ∀ k p a, (a + 1) * 10 ^ k ≤ 10000 → p ≤ n → ∃ q b, dgt n w k p (Int32.ofNat a) = (q, Int32.ofNat b) ∧ p ≤ q ∧ q ≤ n ∧ b ≤ 9999 ∧ (0 < k → 48 ≤ lkb n w p ∧ lkb n w p ≤ 57 → p < q) := by
  intro k
  induction k with
  | zero =>
    intro p a h hp
    rw [Nat.pow_zero] at h
    exact ⟨p, a, rfl, Nat.le_refl _, hp, by omega, fun q => absurd q (by omega)⟩
  | succ k ih =>
    intro p a h hp
    by_cases c : 48 ≤ lkb n w p ∧ lkb n w p ≤ 57
    · have hlt : p < n := lk_in (fun q => by rw [q] at c; exact absurd c.1 (by decide))
      obtain ⟨z, hz, e⟩ := oN' (N := 57) (Int32.le_trans (by decide) c.1) c.2 (by decide)
      have hz2 : 48 ≤ z := (o_le (a := 48) (by decide) (by omega)).mp (by rw [← e]; exact c.1)
      have ha : a + 1 ≤ 10000 := Nat.le_trans (Nat.le_mul_of_pos_right _ (Nat.pow_pos (by decide))) h
      have e1 : (10 : Int32) * Int32.ofNat a + lkb n w p - 48 = Int32.ofNat (10 * a + z - 48) := by
        rw [e, show (10 : Int32) * Int32.ofNat a = Int32.ofNat (10 * a) from o_mul 10 a, o_add]
        exact o_sub (a := 10 * a + z) (b := 48) (by omega) (by omega)
      have h2 : (10 * a + z - 48 + 1) * 10 ^ k ≤ 10000 := by
        refine Nat.le_trans (Nat.mul_le_mul_right _ (show 10 * a + z - 48 + 1 ≤ (a + 1) * 10 by omega)) ?_
        rw [Nat.mul_assoc, Nat.mul_comm 10, ← Nat.pow_succ]
        exact h
      obtain ⟨q, b, x1, x2, x3, x4, -⟩ := ih (p + 1) (10 * a + z - 48) h2 (by omega)
      refine ⟨q, b, ?_, by omega, x3, x4, fun _ _ => by omega⟩
      rw [dgt, if_pos c, e1]
      exact x1
    · refine ⟨p, a, by rw [dgt, if_neg c], Nat.le_refl _, hp, ?_, fun _ q => absurd q c⟩
      have ha : a + 1 ≤ 10000 := Nat.le_trans (Nat.le_mul_of_pos_right _ (Nat.pow_pos (by decide))) h
      omega
set_option maxHeartbeats 4000000 in
theorem psOf_nu {u : Nat} {v : Int32} : psOf u (0, v) = v := by
  show enc _ 0 v = v
  unfold enc
  exact if_pos rfl
set_option maxHeartbeats 4000000 in
theorem psOf_nm {u : Nat} {v : Int32} : psOf u (1, v) = plc (Int32.ofNat u) v := by
  show enc _ 1 v = _
  unfold enc
  rw [if_neg (by decide), if_pos rfl]
set_option maxHeartbeats 4000000 in
theorem psOf_no {u : Nat} : psOf u (2, 0) = -33 := by
  show enc _ 2 0 = _
  unfold enc
  rw [if_neg (by decide), if_neg (by decide), if_pos rfl]
set_option maxHeartbeats 4000000 in
theorem nm_ok {u : Nat} (hu : u < 2) {c : Int32} (h : 0 ≤ nmO u c) : nmOK (Int32.ofNat u) c ∧ plc (Int32.ofNat u) c = -1 - nmO u c := by
  rcases (show u = 0 ∨ u = 1 by omega) with rfl | rfl
  · have key : c = 109 ∨ c = 111 ∨ c = 117 ∨ c = 99 := by
      refine Decidable.by_contra fun q => ?_
      simp only [not_or] at q
      unfold nmO at h
      rw [if_pos rfl, if_neg q.1, if_neg q.2.1, if_neg q.2.2.1, if_neg q.2.2.2] at h
      exact absurd h (by decide)
    rcases key with rfl | rfl | rfl | rfl <;> exact ⟨Or.inl ⟨rfl, by decide⟩, by decide⟩
  · have key : c = 119 ∨ c = 107 ∨ c = 109 := by
      refine Decidable.by_contra fun q => ?_
      simp only [not_or] at q
      unfold nmO at h
      rw [if_neg (show ¬ (1 : Nat) = 0 by decide), if_neg q.1, if_neg q.2.1, if_neg q.2.2] at h
      exact absurd h (by decide)
    rcases key with rfl | rfl | rfl <;> exact ⟨Or.inr ⟨rfl, by decide⟩, by decide⟩
set_option maxHeartbeats 4000000 in
theorem nm_nd {u : Nat} {c : Int32} (h : c ≤ 57) : nmO u c = -1 := by
  have e : ∀ z : Int32, 57 < z → ¬ c = z := fun z hz q => by rw [q] at h; exact Int32.not_lt.mpr h hz
  unfold nmO
  rw [if_neg (e 109 (by decide)), if_neg (e 111 (by decide)), if_neg (e 117 (by decide)), if_neg (e 99 (by decide)), if_neg (e 119 (by decide)), if_neg (e 107 (by decide)), if_neg (e 109 (by decide))]
  split <;> rfl
set_option maxHeartbeats 4000000 in
theorem qsS.cls {f : Nat → Int32} {u p o : Nat} {E : List (Int32 × Int32)} {m : Mem} (h : qsS f u p (o + 1) E m) : qsS f u p o E (up2 m 75 6 (m 75 6 - 1)) := by
  obtain ⟨e6, e5, eo, e7, e8, hE⟩ := h
  exact ⟨e6, e5, by rw [up2_eq, if_pos rfl, eo]; exact o_s o, e7, e8, hE⟩
set_option maxHeartbeats 4000000 in
theorem qsS.opn {f : Nat → Int32} {u p o : Nat} {E : List (Int32 × Int32)} {m : Mem} (h : qsS f u p o E m) : qsS f u p (o + 1) E (up2 m 75 6 (m 75 6 + 1)) := by
  obtain ⟨e6, e5, eo, e7, e8, hE⟩ := h
  exact ⟨e6, e5, by rw [up2_eq, if_pos rfl, eo]; exact o_add o 1, e7, e8, hE⟩
set_option maxHeartbeats 4000000 in
theorem qfB {m : Mem} {x : Int32} : qsF m (up2 m 75 6 x) := ⟨fun z hz => by rw [up2_ne (fun e => hz (by rw [e]; decide))], fun j h5 h6 h7 => by rw [up2_eq, if_neg h6]⟩
set_option maxHeartbeats 4000000 in
theorem qfC {m : Mem} {x : Int32} : qsF m (up2 m 75 5 x) := ⟨fun z hz => by rw [up2_ne (fun e => hz (by rw [e]; decide))], fun j h5 h6 h7 => by rw [up2_eq, if_neg h5]⟩
set_option maxHeartbeats 4000000 in
theorem psF.mk' {n p : Nat} {w : Nat → Int32} {m : Mem} (h : psT n w p m) (h0 : 0 ≤ m 17 1) : psF n w p (up2 m 9 4 1) := ⟨h, by rw [up2_eq, if_pos rfl]; decide, h0⟩
section
variable {G : Gm} {d n p u o D t a i : Nat} {w f : Nat → Int32} {m : Mem} {K : Option Value → Mem → Prop} {E : List (Int32 × Int32)}
set_option maxHeartbeats 4000000 in
theorem rN_loop (hG : fl G = false) (hd : 4 ≤ d) (hx : psX n w u f) : ∀ (k p : Nat) (v : Int32) (m : Mem), k ≤ 4 → p ≤ n → psS n w u p E m → (∀ m1, Fr [9, 17, 18] m m1 → psS n w u (dgt n w k p v).1 E m1 → Cal G mX3_addNumber d [.ref 16, .int (dgt n w k p v).2] SH (TA 1 (1003 + u) 16) m1 (fun v2 m2 => v2 = none ∧ K none m2)) → WP G (rmD (d + 1) 0 0) mX1_readNumber (QC G SH (TA 1 (1003 + u) 16) K) 0 0 4 [(0, .ref 9), (1, .int v), (2, .int (Int32.ofNat (4 - k)))] [] (SH, TA 1 (1003 + u) 16, m) := by
  have hn := hx.1
  intro k
  induction k with
  | zero =>
    intro p v m _ hp hm hk
    exact rg_X1_readNumber_4 hG 9 v (Int32.ofNat 4) ⟨fun _ => ⟨rfl, 16, rfl, rfl, hk m Fr.rf hm⟩, fun c => absurd (by decide) c⟩
  | succ k ih =>
    intro p v m h4 hp hm hk
    refine rg_X1_readNumber_4 hG 9 v (Int32.ofNat (4 - (k + 1))) ⟨fun c => absurd ((o_le (a := 4) (by decide) (by omega)).mp c) (by omega), fun _ => ⟨rfl, c_isD hG hd hm.1 hn hp ⟨_, rfl, fun q => ?_, fun q => ?_⟩⟩⟩
    · have c : ¬ (48 ≤ lkb n w p ∧ lkb n w p ≤ 57) := fun z => (b0 q) ⟨hm.2.1, z.1, z.2⟩
      have e : dgt n w (k + 1) p v = (p, v) := by rw [dgt, if_neg c]
      rw [e] at hk
      exact ⟨16, rfl, rfl, hk m Fr.rf hm⟩
    · have c := (b1 q).2
      have hlt : p < n := lk_in (fun q => by rw [q] at c; exact absurd c.1 (by decide))
      have hl : lkb n w p = w p := if_pos hlt
      have e : dgt n w (k + 1) p v = dgt n w k (p + 1) (10 * v + w p - 48) := by rw [dgt, if_pos c, hl]
      rw [e] at hk
      refine ⟨1, rfl, rfl, c_tapeAt hG (by omega) hm.1 hn hlt ⟨_, rfl, ?_⟩⟩
      rintro _ rfl
      rw [show Int32.ofNat (4 - (k + 1)) + 1 = Int32.ofNat (4 - k) from (o_1 _).trans (congrArg Int32.ofNat (by omega))]
      exact ih (p + 1) _ _ (by omega) (by omega) hm.inc (fun m1 hf h1 => hk m1 (frA hf) h1)
set_option maxHeartbeats 4000000 in
theorem qN_loop (hG : fl G = false) (hd : 1 ≤ d) (hx : psX n w u f) : ∀ (k p : Nat) (v : Int32) (m : Mem), k ≤ 4 → p ≤ n → qsS f u p o E m → (∀ m1, qsF m m1 → qsS f u (dgt n w k p v).1 o E m1 → Cal G mX6_step1 d [.ref 75, .int 0, .int (dgt n w k p v).2] SH (TA t a i) m1 (fun v2 m2 => v2 = none ∧ K (some (.int 1)) m2)) → WP G (rmD (d + 1) 0 0) mX6_one (QC G SH (TA t a i) K) 0 0 46 [(0, .ref 75), (2, .int v), (3, .int (Int32.ofNat (4 - k)))] [] (SH, TA t a i, m) := by
  have hn := hx.1
  intro k
  induction k with
  | zero =>
    intro p v m _ hp hm hk
    exact rg_X6_one_46 hG 75 v (Int32.ofNat 4) ⟨fun _ => ⟨rfl, hk m qsF.rf hm⟩, fun c => absurd (by decide) c⟩
  | succ k ih =>
    intro p v m h4 hp hm hk
    refine rg_X6_one_46 hG 75 v (Int32.ofNat (4 - (k + 1))) ⟨fun c => absurd ((o_le (a := 4) (by decide) (by omega)).mp c) (by omega), fun _ => ⟨rfl, c_look hG hd hx hp hm.1 hm.2.1 ⟨_, rfl, c_X6_in hG hd ⟨_, rfl, fun q => ?_, fun q => ?_⟩⟩⟩⟩
    · have c : ¬ (48 ≤ lkb n w p ∧ lkb n w p ≤ 57) := b0 q
      have e : dgt n w (k + 1) p v = (p, v) := by rw [dgt, if_neg c]
      rw [e] at hk
      exact hk m qsF.rf hm
    · have c := b1 q
      have hlt : p < n := lk_in (fun q => by rw [q] at c; exact absurd c.1 (by decide))
      have e : dgt n w (k + 1) p v = dgt n w k (p + 1) (10 * v + lkb n w p - 48) := by rw [dgt, if_pos c]
      rw [e] at hk
      refine c_look hG hd hx hp hm.1 hm.2.1 ⟨_, rfl, ?_⟩
      rintro _ rfl
      rw [show Int32.ofNat (4 - (k + 1)) + 1 = Int32.ofNat (4 - k) from (o_1 _).trans (congrArg Int32.ofNat (by omega))]
      exact ih (p + 1) _ _ (by omega) (by omega) hm.inc (fun m1 hf h1 => hk m1 (qfA hf) h1)
set_option maxHeartbeats 4000000 in
theorem c_opn (hG : fl G = false) (hd : 1 ≤ d) (ho : o < 5) (h : qsS f u p o E m) (k : ∀ m', qsF m m' → qsS f u (p + 1) (o + 1) E m' → K (some (.int 1)) m') : Cal G mX6_opens d [.ref 75] SH (TA t a i) m K := by
  obtain ⟨d, rfl⟩ : ∃ e, d = e + 1 := ⟨d - 1, by omega⟩
  refine Cal.of (by decide +kernel) rfl (Nat.le_of_ble_eq_true rfl) (rg_X6_opens_0 hG 75 ⟨rfl, fun _ => ?_, fun c => ?_⟩)
  · rintro _ rfl _ rfl
    exact k _ (qfB.tr qfC) h.opn.inc
  · rw [h.2.2.1] at c
    exact absurd ((o_eq (b := 5) (by omega) (by decide)).mp c) (by omega)
set_option maxHeartbeats 4000000 in
theorem c_op5 (hG : fl G = false) (hd : 1 ≤ d) (h : qsS f u p 5 E m) (k : K (some (.int 0)) m) : Cal G mX6_opens d [.ref 75] SH (TA t a i) m K := by
  obtain ⟨d, rfl⟩ : ∃ e, d = e + 1 := ⟨d - 1, by omega⟩
  exact Cal.of (by decide +kernel) rfl (Nat.le_of_ble_eq_true rfl) (rg_X6_opens_0 hG 75 ⟨rfl, fun c => absurd h.2.2.1 c, fun _ => k⟩)
set_option maxHeartbeats 4000000 in
theorem psp.num (hG : fl G = false) (hx : psX n w u f) (hD : 6 ≤ D) (hp : p ≤ n) (c1 : 48 ≤ lkb n w p ∧ lkb n w p ≤ 57) : psp G n w u f mX1_readPart mX6_one o (D + 1) p := by
  have hn := hx.1
  have hu := hx.2.2.2.2
  have hno := nm_nd (u := u) c1.2
  obtain ⟨q, b, ed, g1, g2, g3, g4⟩ := dgt_ok (n := n) (w := w) 4 p 0 (by decide) hp
  have g4 := g4 (by decide) c1
  have ed : dgt n w 4 p 0 = (q, Int32.ofNat b) := ed
  refine ⟨(true, q, [(0, Int32.ofNat b)]), ⟨g1, g2, fun _ => ⟨g4, by show 1 + p ≤ q; omega, PFx.num _ (o_0 _ (by omega)) ((o_le (b := 9999) (by omega) (by decide)).mpr g3)⟩⟩, ?_, ?_⟩
  · intro d m E K hd hE hm k
    obtain ⟨d, rfl⟩ : ∃ e, d = e + 1 := ⟨d - 1, by omega⟩
    refine Cal.of (by decide +kernel) rfl (Nat.le_of_ble_eq_true rfl) (rg_X1_readPart_0 hG 9 (Int32.ofNat o) ⟨rfl, c_isD hG (by omega) hm.1 hn hp ⟨_, rfl, fun q => absurd ⟨hm.2.1, c1.1, c1.2⟩ (b0 q), fun _ => ?_⟩⟩)
    obtain ⟨d, rfl⟩ : ∃ e, d = e + 1 := ⟨d - 1, by omega⟩
    refine Cal.of (by decide +kernel) rfl (Nat.le_of_ble_eq_true rfl) (rg_X1_readNumber_0 hG 9 ?_)
    refine rN_loop hG (by omega) hx 4 p 0 m (by omega) hp hm (fun m1 hf h1 => ?_)
    rw [ed] at h1 ⊢
    refine c_nuAdd hG (by omega) (by rw [h1.2.2.1]; exact o_0 _ (by omega)) fun m2 hf2 _ e2 => ⟨rfl, rfl, k m2 (hf.tr (frB hf2)) ⟨fun _ => ?_, fun q => bTF q⟩⟩
    have e5 := e2 E.length (by omega) h1.2.2.1
    exact h1.app hf2 ⟨e5.1, by rw [psOf_nu]; exact e5.2.1, e5.2.2⟩
  · intro d t a i m E K hd hE hm k
    obtain ⟨d, rfl⟩ : ∃ e, d = e + 1 := ⟨d - 1, by omega⟩
    refine Cal.of (by decide +kernel) rfl (Nat.le_of_ble_eq_true rfl) (rg_X6_one_0 hG 75 ⟨rfl, c_look hG (by omega) hx hp hm.1 hm.2.1 ⟨_, rfl, c_mName hG (by omega) hu hm.2.2.2.2.1 ⟨_, rfl, fun _ => c_X6_in hG (by omega) ⟨_, rfl, fun q => absurd c1 (b0 q), fun _ => ?_⟩, fun q => absurd (b1 q) (by rw [hno]; decide)⟩⟩⟩)
    refine qN_loop hG (by omega) hx 4 p 0 m (by omega) hp hm (fun m1 hf h1 => ?_)
    rw [ed] at h1 ⊢
    exact c_step1 hG (by omega) h1 (by omega) fun m2 hf2 h2 => ⟨rfl, k m2 (hf.tr hf2) ⟨fun _ => h2, fun q => bTF q⟩⟩
set_option maxHeartbeats 4000000 in
theorem psp.nam (hG : fl G = false) (hx : psX n w u f) (hD : 6 ≤ D) (hp : p ≤ n) (c1 : ¬ (48 ≤ lkb n w p ∧ lkb n w p ≤ 57)) (c2 : 0 ≤ nmO u (lkb n w p)) : psp G n w u f mX1_readPart mX6_one o (D + 1) p := by
  have hn := hx.1
  have hu := hx.2.2.2.2
  have hlt : p < n := lk_in (fun q => by rw [q, nmO_no] at c2; exact absurd c2 (by decide))
  have hl : lkb n w p = w p := if_pos hlt
  have hb := hx.2.1 p hlt
  obtain ⟨k1, k2⟩ := nm_ok hu c2
  refine ⟨(true, p + 1, [(1, lkb n w p)]), ⟨by show p ≤ p + 1; omega, hlt, fun _ => ⟨Nat.lt_succ_self p, by show 1 + p ≤ p + 1; omega, PFx.nam _ k1⟩⟩, ?_, ?_⟩
  · intro d m E K hd hE hm k
    obtain ⟨d, rfl⟩ : ∃ e, d = e + 1 := ⟨d - 1, by omega⟩
    refine Cal.of (by decide +kernel) rfl (Nat.le_of_ble_eq_true rfl) (rg_X1_readPart_0 hG 9 (Int32.ofNat o) ⟨rfl, c_isD hG (by omega) hm.1 hn hp ⟨_, rfl, fun _ => c_isM hG (by omega) hm.1 hx hp ⟨_, rfl, fun q => absurd ⟨hm.2.1, c2⟩ (b0 q), fun _ => ?_⟩, fun q => absurd (b1 q).2 c1⟩⟩)
    refine ⟨16, rfl, 1003 + u, rfl, 1, rfl, rfl, c_tapeAt hG (by omega) hm.1 hn hlt ⟨_, rfl, isTx_k (by omega), c_names (by omega) hu hb.1 hb.2 ⟨_, rfl, rfl, ?_⟩⟩⟩
    refine c_nmAdd hG (by omega) (by rw [hm.2.2.1]; exact o_0 _ (by omega)) fun m2 hf2 _ e2 => ⟨rfl, ?_⟩
    rintro _ rfl
    have e5 := e2 E.length (by omega) hm.2.2.1
    rw [← hl] at e5
    exact k _ ((frB hf2).tr (Fr.u2 (by decide))) ⟨fun _ => (hm.app hf2 ⟨e5.1, by rw [psOf_nm, k2]; exact e5.2.1, e5.2.2⟩).inc, fun q => bTF q⟩
  · intro d t a i m E K hd hE hm k
    obtain ⟨d, rfl⟩ : ∃ e, d = e + 1 := ⟨d - 1, by omega⟩
    refine Cal.of (by decide +kernel) rfl (Nat.le_of_ble_eq_true rfl) (rg_X6_one_0 hG 75 ⟨rfl, c_look hG (by omega) hx hp hm.1 hm.2.1 ⟨_, rfl, c_mName hG (by omega) hu hm.2.2.2.2.1 ⟨_, rfl, fun q => absurd c2 (b0 q), fun _ => ?_⟩⟩⟩)
    rintro _ rfl
    exact c_step1 hG (by omega) hm.inc (by omega) fun m2 hf2 h2 => ⟨rfl, k m2 (qfA hf2) ⟨fun _ => h2, fun q => bTF q⟩⟩
set_option maxHeartbeats 4000000 in
theorem psp.not (hG : fl G = false) (hx : psX n w u f) (hD : 6 ≤ D) (hp : p ≤ n) (ho : o < 5) (c3 : lkb n w p = 33) (hP : ∀ p, p ≤ n → psp G n w u f mX1_readPart mX6_one (o + 1) D p) : psp G n w u f mX1_readPart mX6_one o (D + 1) p := by
  have hn := hx.1
  have hu := hx.2.2.2.2
  have hlt : p < n := lk_in (fun q => by rw [q] at c3; exact absurd c3 (by decide))
  have c1 : ¬ (48 ≤ lkb n w p ∧ lkb n w p ≤ 57) := by rw [c3]; decide
  have hno : nmO u (lkb n w p) = -1 := nm_nd (by rw [c3]; decide)
  obtain ⟨r, w1, cc, mm⟩ := hP (p + 1) hlt
  have x0 := w1.1
  refine ⟨(r.1, r.2.1, r.2.2 ++ [(2, 0)]), ⟨by show p ≤ r.2.1; omega, w1.2.1, fun q => ?_⟩, ?_, ?_⟩
  · obtain ⟨y1, y2, y3⟩ := w1.2.2 q
    refine ⟨by show p < r.2.1; omega, ?_, PFx.neg _ y3⟩
    show (r.2.2 ++ [(2, 0)]).length + p ≤ r.2.1
    simp only [List.length_append, List.length_cons, List.length_nil]
    omega
  · intro d m E K hd hE hm k
    obtain ⟨d, rfl⟩ : ∃ e, d = e + 1 := ⟨d - 1, by omega⟩
    refine Cal.of (by decide +kernel) rfl (Nat.le_of_ble_eq_true rfl) (rg_X1_readPart_0 hG 9 (Int32.ofNat o) ⟨rfl, c_isD hG (by omega) hm.1 hn hp ⟨_, rfl, fun _ => c_isM hG (by omega) hm.1 hx hp ⟨_, rfl, fun _ => ⟨fun c => absurd ((o_le (a := 5) (by decide) (by omega)).mp c) (by omega), fun _ => c_isN hG (by omega) hm.1 hn hp (by decide) ⟨_, rfl, fun q => absurd ⟨hm.2.1, c3⟩ (b0 q), fun _ => ?_⟩⟩, fun q => absurd (b1 q).2 (by rw [hno]; decide)⟩, fun q => absurd (b1 q).2 c1⟩⟩)
    rintro _ rfl
    rw [show Int32.ofNat o + 1 = Int32.ofNat (o + 1) from o_add o 1]
    refine cc d _ E _ (by omega) (by omega) hm.inc fun m3 hf3 h3 => ⟨rfl, 16, rfl, rfl, ?_⟩
    cases hr : r.1 with
    | false =>
      have hF := h3.2 hr
      exact c_sgAdd hG (by omega) hF.2.2 fun m4 hf4 h0 _ => ⟨rfl, k m4 ((frA hf3).tr (frB hf4)) ⟨fun q => absurd (q.symm.trans hr) (by decide), fun _ => hF.fr hf4 h0⟩⟩
    | true =>
      have hQ := h3.1 hr
      have hL : (E ++ r.2.2).length < 60 := by
        have := (w1.2.2 hr).2.1
        have := w1.2.1
        rw [List.length_append]
        omega
      refine c_sgAdd hG (by omega) (by rw [hQ.2.2.1]; exact o_0 _ (by omega)) fun m4 hf4 _ e4 => ⟨rfl, k m4 ((frA hf3).tr (frB hf4)) ⟨fun _ => ?_, fun q => absurd (q.symm.trans hr) (by decide)⟩⟩
      have e5 := e4 _ hL hQ.2.2.1
      have := hQ.app (q := (2, 0)) hf4 ⟨e5.1, by rw [psOf_no]; exact e5.2.1, e5.2.2⟩
      rw [List.append_assoc] at this
      exact this
  · intro d t a i m E K hd hE hm k
    obtain ⟨d, rfl⟩ : ∃ e, d = e + 1 := ⟨d - 1, by omega⟩
    refine Cal.of (by decide +kernel) rfl (Nat.le_of_ble_eq_true rfl) (rg_X6_one_0 hG 75 ⟨rfl, c_look hG (by omega) hx hp hm.1 hm.2.1 ⟨_, rfl, c_mName hG (by omega) hu hm.2.2.2.2.1 ⟨_, rfl, fun _ => c_X6_in hG (by omega) ⟨_, rfl, fun _ => ⟨fun q => absurd c3 q, fun _ => c_opn hG (by omega) ho hm fun m2 hf2 h2 => ⟨_, rfl, fun q => absurd q (by decide), fun _ => ?_⟩⟩, fun q => absurd (b1 q) c1⟩, fun q => absurd (b1 q) (by rw [hno]; decide)⟩⟩⟩)
    refine mm d t a i m2 E _ (by omega) (by omega) h2 fun m3 hf3 h3 => ⟨_, rfl, fun q => ?_, fun q => ?_⟩
    · have hr : r.1 = true := b1 q
      have hQ := h3.1 hr
      have hL : (E ++ r.2.2).length < 60 := by
        have := (w1.2.2 hr).2.1
        have := w1.2.1
        rw [List.length_append]
        omega
      rintro _ rfl
      refine c_step1 hG (by omega) hQ.cls hL fun m4 hf4 h4 => ⟨rfl, ?_⟩
      rw [List.append_assoc] at h4
      exact kv (k m4 ((hf2.tr hf3).tr (qfB.tr hf4)) ⟨fun _ => h4, fun q => absurd (q.symm.trans hr) (by decide)⟩) (by show (1 : Int32) = if r.1 = true then 1 else 0; rw [hr]; rfl)
    · have hr : ¬ r.1 = true := b0 q
      exact kv (k m3 (hf2.tr hf3) ⟨fun q => absurd q hr, h3.2⟩) (by show (0 : Int32) = if r.1 = true then 1 else 0; rw [if_neg hr])
set_option maxHeartbeats 4000000 in
theorem psp.brk (hG : fl G = false) (hx : psX n w u f) (hD : 6 ≤ D) (hp : p ≤ n) (ho : o < 5) (c4 : lkb n w p = 40) (hA : ∀ p, p ≤ n → psp G n w u f mX1_readAny mX6_whole (o + 1) D p) : psp G n w u f mX1_readPart mX6_one o (D + 1) p := by
  have hn := hx.1
  have hu := hx.2.2.2.2
  have hlt : p < n := lk_in (fun q => by rw [q] at c4; exact absurd c4 (by decide))
  have c1 : ¬ (48 ≤ lkb n w p ∧ lkb n w p ≤ 57) := by rw [c4]; decide
  have hno : nmO u (lkb n w p) = -1 := nm_nd (by rw [c4]; decide)
  obtain ⟨r, w1, cc, mm⟩ := hA (p + 1) hlt
  have x0 := w1.1
  have x1 := w1.2.1
  have cls : ∀ {d : Nat} {m : Mem} {E : List (Int32 × Int32)} {K : Option Value → Mem → Prop}, D ≤ d → E.length ≤ p → psS n w u p E m → (∀ m3, Fr [9, 17, 18] m m3 → psR n w u E r m3 → Cal G mX1_readClosing d [.ref 9] SH (TA 1 (1003 + u) 16) m3 (fun v m4 => v = none ∧ K none m4)) → Cal G mX1_readPart (d + 1) [.ref 9, .int (Int32.ofNat o)] SH (TA 1 (1003 + u) 16) m K := by
    intro d m E K hd hE hm k
    refine Cal.of (by decide +kernel) rfl (Nat.le_of_ble_eq_true rfl) (rg_X1_readPart_0 hG 9 (Int32.ofNat o) ⟨rfl, c_isD hG (by omega) hm.1 hn hp ⟨_, rfl, fun _ => c_isM hG (by omega) hm.1 hx hp ⟨_, rfl, fun _ => ⟨fun c => absurd ((o_le (a := 5) (by decide) (by omega)).mp c) (by omega), fun _ => c_isN hG (by omega) hm.1 hn hp (by decide) ⟨_, rfl, fun _ => ⟨fun c => absurd ((o_le (a := 5) (by decide) (by omega)).mp c) (by omega), fun _ => c_isN hG (by omega) hm.1 hn hp (by decide) ⟨_, rfl, fun q => absurd ⟨hm.2.1, c4⟩ (b0 q), fun _ => ?_⟩⟩, fun q => absurd (b1 q).2 (by rw [c4]; decide)⟩⟩, fun q => absurd (b1 q).2 (by rw [hno]; decide)⟩, fun q => absurd (b1 q).2 c1⟩⟩)
    rintro _ rfl
    rw [show Int32.ofNat o + 1 = Int32.ofNat (o + 1) from o_add o 1]
    exact cc d _ E _ hd (by omega) hm.inc fun m3 hf3 h3 => ⟨rfl, k m3 (frA hf3) h3⟩
  have mls : ∀ {d t a i : Nat} {m : Mem} {E : List (Int32 × Int32)} {K : Option Value → Mem → Prop}, D ≤ d → E.length ≤ p → qsS f u p o E m → (∀ m3, qsF m m3 → qsR f u (o + 1) E r m3 → (r.1 = true → Cal G mX6_look d [.ref 75] SH (TA t a i) m3 (fun v28 m29 => ∃ r30, v28 = some (.int r30) ∧ ((r30 = (41 : Int32) → ∀ m33, m33 = up2 m29 75 5 ((m29 75 5) + 1) → ∀ m34, m34 = up2 m33 75 6 ((m33 75 6) - 1) → K (some (.int 1)) m34) ∧ (¬ r30 = (41 : Int32) → K (some (.int 0)) m29)))) ∧ (r.1 = false → K (some (.int 0)) m3)) → Cal G mX6_one (d + 1) [.ref 75] SH (TA t a i) m K := by
    intro d t a i m E K hd hE hm k
    refine Cal.of (by decide +kernel) rfl (Nat.le_of_ble_eq_true rfl) (rg_X6_one_0 hG 75 ⟨rfl, c_look hG (by omega) hx hp hm.1 hm.2.1 ⟨_, rfl, c_mName hG (by omega) hu hm.2.2.2.2.1 ⟨_, rfl, fun _ => c_X6_in hG (by omega) ⟨_, rfl, fun _ => ⟨fun _ => ⟨fun q => absurd c4 q, fun _ => c_opn hG (by omega) ho hm fun m2 hf2 h2 => ⟨_, rfl, fun q => absurd q (by decide), fun _ => ?_⟩⟩, fun q => absurd q (by rw [c4]; decide)⟩, fun q => absurd (b1 q) c1⟩, fun q => absurd (b1 q) (by rw [hno]; decide)⟩⟩⟩)
    refine mm d t a i m2 E _ hd (by omega) h2 fun m3 hf3 h3 => ⟨_, rfl, fun q => ?_, fun q => ?_⟩
    · have hr : ¬ r.1 = true := b0 q
      exact (k m3 (hf2.tr hf3) h3).2 (by cases h : r.1 with
        | false => rfl
        | true => exact absurd h hr)
    · exact (k m3 (hf2.tr hf3) h3).1 (b1 q)
  by_cases hs : r.1 = true ∧ lkb n w r.2.1 = 41
  · obtain ⟨hr, hs⟩ := hs
    have hlt2 : r.2.1 < n := lk_in (fun q => by rw [q] at hs; exact absurd hs (by decide))
    obtain ⟨y1, y2, y3⟩ := w1.2.2 hr
    refine ⟨(true, r.2.1 + 1, r.2.2), ⟨by show p ≤ r.2.1 + 1; omega, hlt2, fun _ => ⟨by show p < r.2.1 + 1; omega, by show r.2.2.length + p ≤ r.2.1 + 1; omega, y3⟩⟩, ?_, ?_⟩
    · intro d m E K hd hE hm k
      obtain ⟨d, rfl⟩ : ∃ e, d = e + 1 := ⟨d - 1, by omega⟩
      refine cls (by omega) hE hm fun m3 hf3 h3 => ?_
      have hQ := h3.1 hr
      obtain ⟨d, rfl⟩ : ∃ e, d = e + 1 := ⟨d - 1, by omega⟩
      refine Cal.of (by decide +kernel) rfl (Nat.le_of_ble_eq_true rfl) (rg_X1_readClosing_0 hG 9 ⟨rfl, c_isN hG (by omega) hQ.1 hn x1 (by decide) ⟨_, rfl, fun q => absurd ⟨hQ.2.1, hs⟩ (b0 q), fun _ => ?_⟩⟩)
      rintro _ rfl
      exact ⟨rfl, k _ (hf3.tr (Fr.u2 (by decide))) ⟨fun _ => hQ.inc, fun q => bTF q⟩⟩
    · intro d t a i m E K hd hE hm k
      obtain ⟨d, rfl⟩ : ∃ e, d = e + 1 := ⟨d - 1, by omega⟩
      refine mls (by omega) hE hm fun m3 hf3 h3 => ⟨fun _ => ?_, fun q => absurd (q.symm.trans hr) (by decide)⟩
      have hQ := h3.1 hr
      refine c_look hG (by omega) hx x1 hQ.1 hQ.2.1 ⟨_, rfl, fun _ => ?_, fun q => absurd hs q⟩
      rintro _ rfl _ rfl
      exact k _ (hf3.tr (qfC.tr qfB)) ⟨fun _ => hQ.inc.cls, fun q => bTF q⟩
  · refine ⟨(false, r.2.1, []), ⟨by show p ≤ r.2.1; omega, x1, fun q => bFT q⟩, ?_, ?_⟩
    · intro d m E K hd hE hm k
      obtain ⟨d, rfl⟩ : ∃ e, d = e + 1 := ⟨d - 1, by omega⟩
      refine cls (by omega) hE hm fun m3 hf3 h3 => ?_
      have hF : psT n w r.2.1 m3 ∧ ¬ (m3 9 4 = 0 ∧ lkb n w r.2.1 = 41) ∧ 0 ≤ m3 17 1 := by
        cases hr : r.1 with
        | false => have := h3.2 hr; exact ⟨this.1, fun q => this.2.1 q.1, this.2.2⟩
        | true =>
          have := h3.1 hr
          have hy := (w1.2.2 hr).2.1
          exact ⟨this.1, fun q => hs ⟨hr, q.2⟩, by rw [this.2.2.1]; exact o_0 _ (by rw [List.length_append]; omega)⟩
      obtain ⟨d, rfl⟩ : ∃ e, d = e + 1 := ⟨d - 1, by omega⟩
      refine Cal.of (by decide +kernel) rfl (Nat.le_of_ble_eq_true rfl) (rg_X1_readClosing_0 hG 9 ⟨rfl, c_isN hG (by omega) hF.1 hn x1 (by decide) ⟨_, rfl, fun _ => ?_, fun q => absurd (b1 q) hF.2.1⟩⟩)
      rintro _ rfl
      exact ⟨rfl, k _ (hf3.tr (Fr.u2 (by decide))) ⟨fun q => bFT q, fun _ => psF.mk' hF.1 hF.2.2⟩⟩
    · intro d t a i m E K hd hE hm k
      obtain ⟨d, rfl⟩ : ∃ e, d = e + 1 := ⟨d - 1, by omega⟩
      refine mls (by omega) hE hm fun m3 hf3 h3 => ⟨fun hr => ?_, fun hr => ?_⟩
      · have hQ := h3.1 hr
        refine c_look hG (by omega) hx x1 hQ.1 hQ.2.1 ⟨_, rfl, fun q => absurd ⟨hr, q⟩ hs, fun _ => ?_⟩
        exact k m3 hf3 ⟨fun q => bFT q, fun _ => ⟨hQ.1, hQ.2.1⟩⟩
      · exact k m3 hf3 ⟨fun q => bFT q, fun _ => h3.2 hr⟩
set_option maxHeartbeats 4000000 in
theorem psp.err (hG : fl G = false) (hx : psX n w u f) (hD : 6 ≤ D) (hp : p ≤ n) (ho : o ≤ 5) (c1 : ¬ (48 ≤ lkb n w p ∧ lkb n w p ≤ 57)) (c2 : ¬ 0 ≤ nmO u (lkb n w p)) (c3 : ¬ (o < 5 ∧ lkb n w p = 33)) (c4 : ¬ (o < 5 ∧ lkb n w p = 40)) : psp G n w u f mX1_readPart mX6_one o (D + 1) p := by
  have hn := hx.1
  have hu := hx.2.2.2.2
  refine ⟨(false, p, []), ⟨Nat.le_refl _, hp, fun q => bFT q⟩, ?_, ?_⟩
  · intro d m E K hd hE hm k
    obtain ⟨d, rfl⟩ : ∃ e, d = e + 1 := ⟨d - 1, by omega⟩
    have kk : ∀ {m1 : Mem}, m1 = up2 m 9 4 1 → K none m1 := by
      rintro _ rfl
      exact k _ (Fr.u2 (by decide)) ⟨fun q => bFT q, fun _ => psF.mk' hm.1 (by rw [hm.2.2.1]; exact o_0 _ (by omega))⟩
    refine Cal.of (by decide +kernel) rfl (Nat.le_of_ble_eq_true rfl) (rg_X1_readPart_0 hG 9 (Int32.ofNat o) ⟨rfl, c_isD hG (by omega) hm.1 hn hp ⟨_, rfl, fun _ => c_isM hG (by omega) hm.1 hx hp ⟨_, rfl, fun _ => ?_, fun q => absurd (b1 q).2 c2⟩, fun q => absurd (b1 q).2 c1⟩⟩)
    by_cases h5 : o < 5
    · refine ⟨fun c => absurd ((o_le (a := 5) (by decide) (by omega)).mp c) (by omega), fun _ => c_isN hG (by omega) hm.1 hn hp (by decide) ⟨_, rfl, fun _ => ⟨fun c => absurd ((o_le (a := 5) (by decide) (by omega)).mp c) (by omega), fun _ => c_isN hG (by omega) hm.1 hn hp (by decide) ⟨_, rfl, fun _ _ e => kk e, fun q => absurd ⟨h5, (b1 q).2⟩ c4⟩⟩, fun q => absurd ⟨h5, (b1 q).2⟩ c3⟩⟩
    · have e5 : (5 : Int32) ≤ Int32.ofNat o := (o_le (a := 5) (by decide) (by omega)).mpr (by omega)
      exact ⟨fun _ => ⟨fun _ _ e => kk e, fun c => absurd e5 c⟩, fun c => absurd e5 c⟩
  · intro d t a i m E K hd hE hm k
    obtain ⟨d, rfl⟩ : ∃ e, d = e + 1 := ⟨d - 1, by omega⟩
    have kk : K (some (.int 0)) m := k m qsF.rf ⟨fun q => bFT q, fun _ => ⟨hm.1, hm.2.1⟩⟩
    refine Cal.of (by decide +kernel) rfl (Nat.le_of_ble_eq_true rfl) (rg_X6_one_0 hG 75 ⟨rfl, c_look hG (by omega) hx hp hm.1 hm.2.1 ⟨_, rfl, c_mName hG (by omega) hu hm.2.2.2.2.1 ⟨_, rfl, fun _ => c_X6_in hG (by omega) ⟨_, rfl, fun _ => ?_, fun q => absurd (b1 q) c1⟩, fun q => absurd (b1 q) c2⟩⟩⟩)
    by_cases h5 : o < 5
    · exact ⟨fun _ => ⟨fun _ => kk, fun q => absurd ⟨h5, q⟩ c4⟩, fun q => absurd ⟨h5, q⟩ c3⟩
    · have e5 : o = 5 := by omega
      subst e5
      exact ⟨fun _ => ⟨fun _ => kk, fun _ => c_op5 hG (by omega) hm ⟨_, rfl, fun _ => kk, fun q => absurd rfl q⟩⟩, fun _ => c_op5 hG (by omega) hm ⟨_, rfl, fun _ => kk, fun q => absurd rfl q⟩⟩
set_option maxHeartbeats 4000000 in
theorem psp.part (hG : fl G = false) (hx : psX n w u f) (hD : 6 ≤ D) (ho : o ≤ 5) (hP : o < 5 → ∀ p, p ≤ n → psp G n w u f mX1_readPart mX6_one (o + 1) D p) (hA : o < 5 → ∀ p, p ≤ n → psp G n w u f mX1_readAny mX6_whole (o + 1) D p) : ∀ p, p ≤ n → psp G n w u f mX1_readPart mX6_one o (D + 1) p := by
  intro p hp
  by_cases c1 : 48 ≤ lkb n w p ∧ lkb n w p ≤ 57
  · exact psp.num hG hx hD hp c1
  · by_cases c2 : 0 ≤ nmO u (lkb n w p)
    · exact psp.nam hG hx hD hp c1 c2
    · by_cases c3 : o < 5 ∧ lkb n w p = 33
      · exact psp.not hG hx hD hp c3.1 c3.2 (hP c3.1)
      · by_cases c4 : o < 5 ∧ lkb n w p = 40
        · exact psp.brk hG hx hD hp c4.1 c4.2 (hA c4.1)
        · exact psp.err hG hx hD hp ho c1 c2 c3 c4
set_option maxHeartbeats 4000000 in
theorem psp.chn (hG : fl G = false) (hx : psX n w u f) (hD : 6 ≤ D) (h : ∀ p, p ≤ n → psp G n w u f mX1_readPart mX6_one o (D + 1) p) : ∀ p, p ≤ n → psp G n w u f mX1_readAny mX6_whole o (D + 6) p := by
  have h2 : ∀ p, p ≤ n → psp G n w u f mX1_readProduct mX6_product o (D + 2) p := fun p hp => psp.join hG hx (H_prd hG hx) (by omega) (fun d m K h => Cal.of (by decide +kernel) rfl (Nat.le_of_ble_eq_true rfl) (rg_X1_readProduct_0 hG 9 (Int32.ofNat o) ⟨rfl, h⟩)) (fun d t a i m K h => Cal.of (by decide +kernel) rfl (Nat.le_of_ble_eq_true rfl) (rg_X6_product_0 hG 75 ⟨rfl, h⟩)) (h p hp) (fun p' a b => psp.loop hG hx (H_prd hG hx) (fun c => sg_prd) (by omega) (fun q _ hq => h q hq) (n - p') p' (Nat.le_refl _) a b)
  have h3 : ∀ p, p ≤ n → psp G n w u f mX1_readSum mX6_sum o (D + 3) p := fun p hp => psp.join hG hx (H_sum hG hx) (by omega) (fun d m K h => Cal.of (by decide +kernel) rfl (Nat.le_of_ble_eq_true rfl) (rg_X1_readSum_0 hG 9 (Int32.ofNat o) ⟨rfl, h⟩)) (fun d t a i m K h => Cal.of (by decide +kernel) rfl (Nat.le_of_ble_eq_true rfl) (rg_X6_sum_0 hG 75 ⟨rfl, h⟩)) (h2 p hp) (fun p' a b => psp.loop hG hx (H_sum hG hx) (fun c => sg_sum) (by omega) (fun q _ hq => h2 q hq) (n - p') p' (Nat.le_refl _) a b)
  have h4 : ∀ p, p ≤ n → psp G n w u f mX1_readCompared mX6_compared o (D + 4) p := psp.cmp hG hx (by omega) h3
  have h5 : ∀ p, p ≤ n → psp G n w u f mX1_readAll mX6_both o (D + 5) p := fun p hp => psp.join hG hx (H_all hG hx) (by omega) (fun d m K h => Cal.of (by decide +kernel) rfl (Nat.le_of_ble_eq_true rfl) (rg_X1_readAll_0 hG 9 (Int32.ofNat o) ⟨rfl, h⟩)) (fun d t a i m K h => Cal.of (by decide +kernel) rfl (Nat.le_of_ble_eq_true rfl) (rg_X6_both_0 hG 75 ⟨rfl, h⟩)) (h4 p hp) (fun p' a b => psp.loop hG hx (H_all hG hx) (fun c => sg_all) (by omega) (fun q _ hq => h4 q hq) (n - p') p' (Nat.le_refl _) a b)
  exact fun p hp => psp.join hG hx (H_any hG hx) (by omega) (fun d m K h => Cal.of (by decide +kernel) rfl (Nat.le_of_ble_eq_true rfl) (rg_X1_readAny_0 hG 9 (Int32.ofNat o) ⟨rfl, h⟩)) (fun d t a i m K h => Cal.of (by decide +kernel) rfl (Nat.le_of_ble_eq_true rfl) (rg_X6_whole_0 hG 75 ⟨rfl, h⟩)) (h5 p hp) (fun p' a b => psp.loop hG hx (H_any hG hx) (fun c => sg_any) (by omega) (fun q _ hq => h5 q hq) (n - p') p' (Nat.le_refl _) a b)
set_option maxHeartbeats 4000000 in
theorem psp.go (hG : fl G = false) (hx : psX n w u f) : ∀ k o, o + k = 5 → (∀ p, p ≤ n → psp G n w u f mX1_readPart mX6_one o (7 + 6 * k) p) ∧ (∀ p, p ≤ n → psp G n w u f mX1_readAny mX6_whole o (12 + 6 * k) p) := by
  intro k
  induction k with
  | zero =>
    intro o ho
    have h1 : ∀ p, p ≤ n → psp G n w u f mX1_readPart mX6_one o (6 + 1) p := psp.part hG hx (by omega) (by omega) (fun q => absurd q (by omega)) (fun q => absurd q (by omega))
    exact ⟨h1, psp.chn hG hx (by omega) h1⟩
  | succ k ih =>
    intro o ho
    obtain ⟨i1, i2⟩ := ih (o + 1) (by omega)
    have h1 : ∀ p, p ≤ n → psp G n w u f mX1_readPart mX6_one o (12 + 6 * k + 1) p := psp.part hG hx (by omega) (by omega) (fun _ p hp => psp.up (by omega) (i1 p hp)) (fun _ => i2)
    refine ⟨fun p hp => ?_, fun p hp => ?_⟩
    · rw [show 7 + 6 * (k + 1) = 12 + 6 * k + 1 by omega]; exact h1 p hp
    · rw [show 12 + 6 * (k + 1) = 12 + 6 * k + 6 by omega]; exact psp.chn hG hx (by omega) h1 p hp
end

