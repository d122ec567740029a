-- 53.box2
set_option maxHeartbeats 4000000 in
theorem oN {x : Int32} {N : Nat} (h0 : 0 ≤ x) (h : x < Int32.ofNat N) (hN : N < 2147483648) : ∃ k, k < N ∧ x = Int32.ofNat k := by
  have e := o_of h0
  have h2 := h
  have hb : x.toNatClampNeg < 2147483648 := by
    have := Int32.toInt_lt x
    show x.toInt.toNat < _
    omega
  rw [e, o_lt hb hN] at h2
  exact ⟨_, h2, e⟩
set_option maxHeartbeats 4000000 in
theorem oN' {x : Int32} {N : Nat} (h0 : 0 ≤ x) (h : x ≤ Int32.ofNat N) (hN : N < 2147483647) : ∃ k, k ≤ N ∧ x = Int32.ofNat k := by
  obtain ⟨k, a, b⟩ := oN (N := N + 1) h0 (Int32.lt_of_le_of_lt h ((o_lt (by omega) (by omega)).mpr (by omega))) (by omega)
  exact ⟨k, by omega, b⟩
set_option maxHeartbeats 4000000 in
theorem its_o {f : Nat → Int32} {t w : Nat} (ht : t < 1000) (hw : w < 1000) : its f (Int32.ofNat t) (Int32.ofNat w) = f (8 + 4 * t + w) := by
  unfold its
  rw [show (8 : Int32) = Int32.ofNat 8 from rfl, show (4 : Int32) = Int32.ofNat 4 from rfl, o_mul, o_add, o_add, rd_o (by omega)]
set_option maxHeartbeats 4000000 in
theorem sz_o {f : Nat → Int32} {c : Nat} (hc : c < 1000) : sz f (Int32.ofNat c) = f (72 + 6 * c) := by
  unfold sz
  rw [show (72 : Int32) = Int32.ofNat 72 from rfl, show (6 : Int32) = Int32.ofNat 6 from rfl, o_mul, o_add, rd_o (by omega)]
set_option maxHeartbeats 4000000 in
theorem pl_o {f : Nat → Int32} {c h : Nat} (hc : c < 1000) (hh : h < 1000) : pl f (Int32.ofNat c) (Int32.ofNat h) = f (72 + 6 * c + 1 + h) := by
  unfold pl
  rw [show (72 : Int32) = Int32.ofNat 72 from rfl, show (6 : Int32) = Int32.ofNat 6 from rfl, show (1 : Int32) = Int32.ofNat 1 from rfl, o_mul, o_add, o_add, o_add, rd_o (by omega)]
set_option maxHeartbeats 4000000 in
theorem wr_o {f : Nat → Int32} {k : Nat} {x : Int32} (hk : k < 2147483648) : wr f (Int32.ofNat k) x = fun j => if j = k then x else f j := by
  unfold wr
  rw [tn_o hk]
-- only the numbers ahead of the things are others
def NumE (f g : Nat → Int32) : Prop := ∀ j : Nat, (j = 0 ∨ 8 ≤ j) → g j = f j
set_option maxHeartbeats 4000000 in
theorem NumE.eqv {f g : Nat → Int32} (h : NumE f g) : Eqv f g := by
  refine ⟨fun s w s0 s1 w0 w1 => ?_, fun c c0 c1 => ?_⟩
  · obtain ⟨s, hs, rfl⟩ := oN (N := 16) s0 s1 (by decide)
    obtain ⟨w, hw, rfl⟩ := oN (N := 4) w0 w1 (by decide)
    rw [its_o (by omega) (by omega), its_o (by omega) (by omega), h _ (Or.inr (by omega))]
  · obtain ⟨c, hc, rfl⟩ := oN' (N := 15) c0 c1 (by decide)
    refine ⟨by rw [sz_o (by omega), sz_o (by omega), h _ (Or.inr (by omega))], fun y y0 y1 => ?_⟩
    obtain ⟨y, hy, rfl⟩ := oN (N := 5) y0 y1 (by decide)
    rw [pl_o (by omega) (by omega), pl_o (by omega) (by omega), h _ (Or.inr (by omega))]
set_option maxHeartbeats 4000000 in
theorem NumE.wf {f g : Nat → Int32} (h : NumE f g) (w : WF f) (n : WN g) : WF g := by
  obtain ⟨w1, w2, w3, w4, w5⟩ := w
  have e0 : rd g 0 = rd f 0 := h 0 (Or.inl rfl)
  have a := h.eqv.wt (n := rd f 0) w1 w2
  have b := h.eqv.wc (n := rd f 0) w1.1.2 w2
  refine ⟨?_, ?_, n, w4.hi (fun i hi => h i (Or.inr (by omega))) (Or.inl rfl), w5.hi (fun i hi => h i (Or.inr (by omega))) (Or.inr rfl)⟩
  · rw [← e0] at a; exact a
  · rw [← e0] at b; exact b
set_option maxHeartbeats 4000000 in
theorem NumE.rb {m m' : Mem} {b a : Nat} {f g : Nat → Int32} (h : NumE f g) (r : RB m b a f) (w : WF f) (hb : b < a) (hf : Fr [b] m m') (e9 : m' b 9 = m b 9) (e10 : m' b 10 = rd g 3) (e11 : m' b 11 = rd g 4) (e12 : m' b 12 = rd g 2) : RB m' b a g := by
  obtain ⟨q1, q2, q3⟩ := r
  have e0 : rd g 0 = rd f 0 := h 0 (Or.inl rfl)
  have E := h.eqv
  have n16 := w.1.1.2
  have hn : ∀ i, a + i ∉ [b] := fun i hi => by simp at hi; omega
  refine ⟨⟨by rw [e9, e0]; exact q1.1, e10, e11, e12⟩, fun t t0 t1 => ?_, fun c c0 c1 => ?_⟩
  · rw [e0] at t1
    have t16 := Int32.lt_of_lt_of_le t1 n16
    have := q2 t t0 t1
    have ha0 : m' a = m a := hf a (hn 0)
    rw [ha0, hf _ (hn 1), hf _ (hn 2), hf _ (hn 3), E.1 t 0 t0 t16 (by decide) (by decide), E.1 t 1 t0 t16 (by decide) (by decide), E.1 t 2 t0 t16 (by decide) (by decide), E.1 t 3 t0 t16 (by decide) (by decide)]
    exact this
  · have := q3 c c0 c1
    have e5 := (w.2.1 c c0 c1).1
    rw [hf _ (hn 6), hf _ (hn 5), hf _ (hn 4), (E.2 c c0 c1).1]
    refine ⟨this.1, fun y y0 y1 => ?_⟩
    rw [(E.2 c c0 c1).2 y y0 (Int32.lt_of_lt_of_le y1 e5.2)]
    exact this.2 y y0 y1
set_option maxHeartbeats 4000000 in
theorem wr_num {f : Nat → Int32} {j : Nat} {x : Int32} (h1 : 1 ≤ j) (h2 : j < 8) : NumE f (wr f (Int32.ofNat j) x) := by
  intro k hk
  rw [wr_o (by omega)]
  exact if_neg (by omega)
set_option maxHeartbeats 4000000 in
theorem rd_num {f : Nat → Int32} {j k : Nat} {x : Int32} (h1 : j < 8) (h2 : k < 8) : rd (wr f (Int32.ofNat j) x) (Int32.ofNat k) = if k = j then x else rd f (Int32.ofNat k) := by
  rw [wr_o (by omega), rd_o (by omega), rd_o (by omega)]
section
variable {G : Gm} {d t n i : Nat} {m : Mem} {K : Option Value → Mem → Prop} {f : Nat → Int32} {x y z : Int32}
def spR (f : Nat → Int32) (x y : Int32) : Int32 × Int32 := if x = 0 ∧ 0 ≤ y ∧ y ≤ 99 then (0, rd f 3) else if x = 1 ∧ 0 ≤ y ∧ y ≤ 9 then (0, rd f 4) else (1, 0)
def spG (f : Nat → Int32) (x y : Int32) : Nat → Int32 := if x = 0 then wr f 3 y else wr f 4 y
set_option maxHeartbeats 4000000 in
theorem c_X5_spring (hG : fl G = false) (hd : 20 ≤ d) (hb : RB m 35 44 f) (hw : WF f) (h13 : m 35 13 = rd f 1 ∧ m 35 14 = rd f 7) (k : AnB jC 34 m K (spR f x y) (PC (spG f x y))) : Cal G mX5_spring d [.ref 0, .int x, .int y] SH (TA t n i) m K := by
  obtain ⟨d, rfl⟩ : ∃ e, d = e + 1 := ⟨d - 1, by omega⟩
  have no : ¬ (x = 0 ∧ 0 ≤ y ∧ y ≤ 99) → ¬ (x = 1 ∧ 0 ≤ y ∧ y ≤ 9) → ∀ {e : Nat}, 1 ≤ e → Cal G mX5_refuse e [.ref 0, .int 1] SH (TA t n i) m (fun v1 m2 => ∃ r3, v1 = some (.int r3) ∧ K (some (.int r3)) m2) := fun h1 h2 {e} he => c_X5_refuse hG he (by decide) ⟨_, rfl, k.no (by rw [spR, if_neg h1, if_neg h2]) (by decide)⟩
  have k3 : x = 0 → 0 ≤ y → y ≤ 99 → K (some (.int (m 35 10))) (up2 m 35 10 y) := by
    intro e h0 h1
    have E : NumE f (wr f 3 y) := wr_num (j := 3) (by decide) (by decide)
    refine k.ok (Fr.u2 (by decide)) ⟨?_, ?_, ?_⟩ (by rw [spR, if_pos ⟨e, h0, h1⟩, hb.1.2.1])
    · rw [spG, if_pos e]
      refine E.rb hb hw (by decide) (Fr.u2 (by decide)) ?_ ?_ ?_ ?_
      · rw [up2_eq, if_neg (by decide)]
      · rw [up2_eq, if_pos rfl]; exact (rd_num (f := f) (j := 3) (k := 3) (by decide) (by decide)).symm
      · rw [up2_eq, if_neg (by decide)]; exact hb.1.2.2.1
      · rw [up2_eq, if_neg (by decide)]; exact hb.1.2.2.2
    · rw [spG, if_pos e, up2_eq, if_neg (by decide)]; exact h13.1
    · rw [spG, if_pos e, up2_eq, if_neg (by decide)]; exact h13.2
  have k4 : x = 1 → 0 ≤ y → y ≤ 9 → K (some (.int (m 35 11))) (up2 m 35 11 y) := by
    intro e h0 h1
    have E : NumE f (wr f 4 y) := wr_num (j := 4) (by decide) (by decide)
    have e' : ¬ x = 0 := by rw [e]; decide
    refine k.ok (Fr.u2 (by decide)) ⟨?_, ?_, ?_⟩ (by rw [spR, if_neg (fun o => e' o.1), if_pos ⟨e, h0, h1⟩, hb.1.2.2.1])
    · rw [spG, if_neg e']
      refine E.rb hb hw (by decide) (Fr.u2 (by decide)) ?_ ?_ ?_ ?_
      · rw [up2_eq, if_neg (by decide)]
      · rw [up2_eq, if_neg (by decide)]; exact hb.1.2.1
      · rw [up2_eq, if_pos rfl]; exact (rd_num (f := f) (j := 4) (k := 4) (by decide) (by decide)).symm
      · rw [up2_eq, if_neg (by decide)]; exact hb.1.2.2.2
    · rw [spG, if_neg e', up2_eq, if_neg (by decide)]; exact h13.1
    · rw [spG, if_neg e', up2_eq, if_neg (by decide)]; exact h13.2
  have x1 : ¬ x < 0 → ¬ 1 < x → ¬ x = 0 → x = 1 := fun a b c => (r07 (Int32.not_lt.mp a) (Int32.le_trans (Int32.not_lt.mp b) (by decide))).elim (fun e => absurd e c) (fun o => o.elim id (fun o => by rcases o with rfl | rfl | rfl | rfl | rfl | rfl <;> exact absurd (by decide) b))
  refine Cal.of (by decide +kernel) rfl (Nat.le_of_ble_eq_true rfl) (rg_X5_spring_0 hG 0 x y ⟨fun c => ⟨rfl, no (fun o => by rw [o.1] at c; exact absurd c (by decide)) (fun o => by rw [o.1] at c; exact absurd c (by decide)) (by omega)⟩, fun c1 => ⟨fun c => ⟨rfl, no (fun o => by rw [o.1] at c; exact absurd c (by decide)) (fun o => by rw [o.1] at c; exact absurd c (by decide)) (by omega)⟩, fun c2 => ⟨fun c => ⟨rfl, no (fun o => absurd c (Int32.not_lt.mpr o.2.1)) (fun o => absurd c (Int32.not_lt.mpr o.2.1)) (by omega)⟩, fun c3 => ⟨fun c4 => ⟨fun c5 => ⟨fun _ => ⟨rfl, 35, rfl, rfl, fun _ => ?_, fun c => absurd c c4⟩, fun c => absurd c c4⟩, fun c5 => ⟨rfl, no (fun o => c4 o.1) (fun o => c5 o.2.2) (by omega)⟩⟩, fun c4 => ⟨fun c5 => ⟨fun c => absurd c4 c, fun _ => ⟨rfl, 35, rfl, rfl, fun c => absurd c4 c, fun _ => ?_⟩⟩, fun c5 => ⟨rfl, no (fun o => c5 o.2.2) (fun o => by rw [c4] at o; exact absurd o.1 (by decide)) (by omega)⟩⟩⟩⟩⟩⟩)
  · rintro _ rfl
    exact k4 (x1 c1 c2 c4) (Int32.not_lt.mp c3) c5
  · rintro _ rfl
    exact k3 c4 (Int32.not_lt.mp c3) c5
set_option maxHeartbeats 4000000 in
theorem c_X6_spring (hG : fl G = false) (hd : 20 ≤ d) (k : AnB jM 79 m K (spR (m 76) x y) (PM (spG (m 76) x y))) : Cal G mX6_spring d [.ref 75, .int x, .int y] SH (TA t n i) m K := by
  obtain ⟨d, rfl⟩ : ∃ e, d = e + 1 := ⟨d - 1, by omega⟩
  have x1 : 0 ≤ x ∧ x ≤ 1 → ¬ x = 0 → x = 1 := fun a c => (r07 a.1 (Int32.le_trans a.2 (by decide))).elim (fun e => absurd e c) (fun o => o.elim id (fun o => by rcases o with rfl | rfl | rfl | rfl | rfl | rfl <;> exact absurd a.2 (by decide)))
  have no : ¬ (x = 0 ∧ 0 ≤ y ∧ y ≤ 99) → ¬ (x = 1 ∧ 0 ≤ y ∧ y ≤ 9) → ∀ {e : Nat}, 1 ≤ e → Cal G mX6_error e [.ref 75, .int 1] SH (TA t n i) m (fun v1 m2 => ∃ r3, v1 = some (.int r3) ∧ K (some (.int r3)) m2) := fun h1 h2 {e} he => c_X6_error hG he (by decide) ⟨_, rfl, k.no (by rw [spR, if_neg h1, if_neg h2]) (by decide)⟩
  refine Cal.of (by decide +kernel) rfl (Nat.le_of_ble_eq_true rfl) (rg_X6_spring_0 hG 75 x y (c_X6_in hG (by omega) ⟨_, rfl, fun q => ⟨rfl, no (fun o => b0 q (by rw [o.1]; decide)) (fun o => b0 q (by rw [o.1]; decide)) (by omega)⟩, fun q => ⟨fun c => c_X6_in hG (by omega) ⟨_, rfl, fun q2 => ⟨rfl, no (fun o => c o.1) (fun o => b0 q2 o.2) (by omega)⟩, fun q2 => ⟨rfl, c_X6_change1 hG (by omega) ?_ ⟨_, rfl, ?_⟩⟩⟩, fun c => c_X6_in hG (by omega) ⟨_, rfl, fun q2 => ⟨rfl, no (fun o => b0 q2 o.2) (fun o => by rw [c] at o; exact absurd o.1 (by decide)) (by omega)⟩, fun q2 => ⟨rfl, c_X6_change1 hG (by omega) ?_ ⟨_, rfl, ?_⟩⟩⟩⟩⟩))
  · rw [x1 (b1 q) c]; decide
  · have e := x1 (b1 q) c
    subst e
    exact k.ok (Fr.s1 (by decide)) (by unfold PM; rw [set1_eq, spG, if_neg (by decide)]; rfl) (by rw [spR, if_neg (fun o => absurd o.1 (by decide)), if_pos ⟨rfl, b1 q2⟩]; rfl)
  · rw [c]; decide
  · subst c
    exact k.ok (Fr.s1 (by decide)) (by unfold PM; rw [set1_eq, spG, if_pos rfl]; rfl) (by rw [spR, if_pos ⟨rfl, b1 q2⟩]; rfl)
set_option maxHeartbeats 4000000 in
theorem c_X5_wind (hG : fl G = false) (hd : 20 ≤ d) (hb : RB m 35 44 f) (hw : WF f) (h13 : m 35 13 = rd f 1 ∧ m 35 14 = rd f 7) (k : AnB jC 34 m K (0, rd f 2) (PC (wr f 2 0))) : Cal G mX5_wind d [.ref 0] SH (TA t n i) m K := by
  obtain ⟨d, rfl⟩ : ∃ e, d = e + 1 := ⟨d - 1, by omega⟩
  have E : NumE f (wr f 2 0) := wr_num (j := 2) (by decide) (by decide)
  refine Cal.of (by decide +kernel) rfl (Nat.le_of_ble_eq_true rfl) (rg_X5_wind_0 hG 0 ⟨rfl, 35, rfl, rfl, ?_⟩)
  rintro _ rfl
  refine k.ok (Fr.u2 (by decide)) ⟨?_, ?_, ?_⟩ (by rw [hb.1.2.2.2])
  · refine E.rb hb hw (by decide) (Fr.u2 (by decide)) ?_ ?_ ?_ ?_
    · rw [up2_eq, if_neg (by decide)]
    · rw [up2_eq, if_neg (by decide)]; exact hb.1.2.1
    · rw [up2_eq, if_neg (by decide)]; exact hb.1.2.2.1
    · rw [up2_eq, if_pos rfl]; exact (rd_num (f := f) (j := 2) (k := 2) (by decide) (by decide)).symm
  · rw [up2_eq, if_neg (by decide)]; exact h13.1
  · rw [up2_eq, if_neg (by decide)]; exact h13.2
set_option maxHeartbeats 4000000 in
theorem c_X6_wind (hG : fl G = false) (hd : 20 ≤ d) (k : AnB jM 79 m K (0, rd (m 76) 2) (PM (wr (m 76) 2 0))) : Cal G mX6_wind d [.ref 75] SH (TA t n i) m K := by
  obtain ⟨d, rfl⟩ : ∃ e, d = e + 1 := ⟨d - 1, by omega⟩
  exact Cal.of (by decide +kernel) rfl (Nat.le_of_ble_eq_true rfl) (rg_X6_wind_0 hG 75 ⟨rfl, c_X6_change1 hG (by omega) (by decide) ⟨_, rfl, k.ok (Fr.s1 (by decide)) set1_eq rfl⟩⟩)
set_option maxHeartbeats 4000000 in
theorem c_X5_seed (hG : fl G = false) (hd : 20 ≤ d) (hb : RB m 35 44 f) (hw : WF f) (h13 : m 35 13 = rd f 1 ∧ m 35 14 = rd f 7) (k : AnB jC 34 m K (0, rd f 7) (PC (wr f 7 x))) : Cal G mX5_seed d [.ref 0, .int x] SH (TA t n i) m K := by
  obtain ⟨d, rfl⟩ : ∃ e, d = e + 1 := ⟨d - 1, by omega⟩
  have E : NumE f (wr f 7 x) := wr_num (j := 7) (by decide) (by decide)
  refine Cal.of (by decide +kernel) rfl (Nat.le_of_ble_eq_true rfl) (rg_X5_seed_0 hG 0 x ⟨rfl, 35, rfl, rfl, ?_⟩)
  rintro _ rfl
  refine k.ok (Fr.u2 (by decide)) ⟨?_, ?_, ?_⟩ (by rw [h13.2])
  · refine E.rb hb hw (by decide) (Fr.u2 (by decide)) ?_ ?_ ?_ ?_
    · rw [up2_eq, if_neg (by decide)]
    · rw [up2_eq, if_neg (by decide)]; exact hb.1.2.1
    · rw [up2_eq, if_neg (by decide)]; exact hb.1.2.2.1
    · rw [up2_eq, if_neg (by decide)]; exact hb.1.2.2.2
  · rw [up2_eq, if_neg (by decide)]; exact h13.1
  · rw [up2_eq, if_pos rfl]; exact (rd_num (f := f) (j := 7) (k := 7) (by decide) (by decide)).symm
set_option maxHeartbeats 4000000 in
theorem c_X6_seed (hG : fl G = false) (hd : 20 ≤ d) (k : AnB jM 79 m K (0, rd (m 76) 7) (PM (wr (m 76) 7 x))) : Cal G mX6_seed d [.ref 75, .int x] SH (TA t n i) m K := by
  obtain ⟨d, rfl⟩ : ∃ e, d = e + 1 := ⟨d - 1, by omega⟩
  exact Cal.of (by decide +kernel) rfl (Nat.le_of_ble_eq_true rfl) (rg_X6_seed_0 hG 75 x ⟨rfl, c_X6_change1 hG (by omega) (by decide) ⟨_, rfl, k.ok (Fr.s1 (by decide)) set1_eq rfl⟩⟩)
end

