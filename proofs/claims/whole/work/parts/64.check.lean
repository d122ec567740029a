-- 64.check
-- only the text for u is another
def TxE (u : Int32) (f g : Nat → Int32) : Prop := ∀ j : Nat, (u = 0 → j < 168 ∨ 293 ≤ j) → (u = 1 → j < 293 ∨ 418 ≤ j) → g j = f j
set_option maxHeartbeats 4000000 in
theorem TxE.lo {u : Int32} {f g : Nat → Int32} (h : TxE u f g) {j : Nat} (hj : j < 168) : g j = f j := h j (fun _ => Or.inl hj) (fun _ => Or.inl (by omega))
set_option maxHeartbeats 4000000 in
theorem TxE.eqv {u : Int32} {f g : Nat → Int32} (h : TxE u f g) : Eqv f g := by
  refine ⟨fun s w s0 s1 w0 w1 => ?_, fun c c0 c1 => ?_⟩
  · obtain ⟨s, hs, rfl⟩ := oN (N := 16) s0 s1 (by decide)
    obtain ⟨w, hw, rfl⟩ := oN (N := 4) w0 w1 (by decide)
    rw [its_o (by omega) (by omega), its_o (by omega) (by omega), h.lo (by omega)]
  · obtain ⟨c, hc, rfl⟩ := oN' (N := 15) c0 c1 (by decide)
    refine ⟨by rw [sz_o (by omega), sz_o (by omega), h.lo (by omega)], fun y y0 y1 => ?_⟩
    obtain ⟨y, hy, rfl⟩ := oN (N := 5) y0 y1 (by decide)
    rw [pl_o (by omega) (by omega), pl_o (by omega) (by omega), h.lo (by omega)]
set_option maxHeartbeats 4000000 in
theorem TxE.rd {u : Int32} {f g : Nat → Int32} (h : TxE u f g) {j : Nat} (h8 : j < 8) : rd g (Int32.ofNat j) = rd f (Int32.ofNat j) := by
  rw [rd_o (by omega), rd_o (by omega), h.lo (by omega)]
set_option maxHeartbeats 4000000 in
theorem TxE.wn {u : Int32} {f g : Nat → Int32} (h : TxE u f g) (w : WN f) : WN g := WN.same (fun j j0 j1 => by obtain ⟨k, hk, rfl⟩ := oN (N := 8) j0 j1 (by decide); exact h.rd hk) w
set_option maxHeartbeats 4000000 in
theorem TxE.oth {u v : Int32} {f g : Nat → Int32} (h : TxE u f g) (hu : u = 0 ∧ v = 1 ∨ u = 1 ∧ v = 0) : tN g v = tN f v ∧ ∀ k, k < 60 → tW g v k = tW f v k ∧ tV g v k = tV f v k := by
  have e : ∀ j, (v = 0 → 168 ≤ j ∧ j < 293) → (v = 1 → 293 ≤ j ∧ j < 418) → g j = f j := by
    intro j h0 h1
    rcases hu with ⟨rfl, rfl⟩ | ⟨rfl, rfl⟩
    · exact h j (fun _ => Or.inr (h1 rfl).1) (fun z => absurd z (by decide))
    · exact h j (fun z => absurd z (by decide)) (fun _ => Or.inl (h0 rfl).2)
  rcases hu with ⟨-, rfl⟩ | ⟨-, rfl⟩
  · refine ⟨by rw [tN_o.2, tN_o.2, e _ (fun z => absurd z (by decide)) (fun _ => by omega)], fun k hk => ?_⟩
    have a := tW_o (f := f) (k := k) (by omega)
    have b := tW_o (f := g) (k := k) (by omega)
    rw [a.2.2.1, a.2.2.2, b.2.2.1, b.2.2.2, e _ (fun z => absurd z (by decide)) (fun _ => by omega), e _ (fun z => absurd z (by decide)) (fun _ => by omega)]
    exact ⟨rfl, rfl⟩
  · refine ⟨by rw [tN_o.1, tN_o.1, e _ (fun _ => by omega) (fun z => absurd z (by decide))], fun k hk => ?_⟩
    have a := tW_o (f := f) (k := k) (by omega)
    have b := tW_o (f := g) (k := k) (by omega)
    rw [a.1, a.2.1, b.1, b.2.1, e _ (fun _ => by omega) (fun z => absurd z (by decide)), e _ (fun _ => by omega) (fun z => absurd z (by decide))]
    exact ⟨rfl, rfl⟩
set_option maxHeartbeats 4000000 in
theorem jV.te {m m' : Mem} {u : Int32} {t : Nat} (hu : u = 0 ∧ t = 36 ∨ u = 1 ∧ t = 40) (hV : jV m) (hf : Fr ((t + 1) :: (t + 2) :: 76 :: 75 :: jO) m m') (h3 : m' 75 3 = m 75 3) (h15 : m' 75 15 = m 75 15) (h : TxE u (m 76) (m' 76)) (hx : WX (m' 76) u) (hr : TR m' t u (tW (m' 76) u) (tV (m' 76) u) (tN (m' 76) u).toNatClampNeg) : jV m' := by
  obtain ⟨⟨⟨b1, b2, b3⟩, b4, ta, wa, tb⟩, hK, hS, hE, hT⟩ := hV
  have E := h.eqv
  have nL : ∀ a, a ∉ (37 :: 38 :: 41 :: 42 :: 76 :: 75 :: jO) → a ∉ ((t + 1) :: (t + 2) :: 76 :: 75 :: jO) := by
    intro a ha q
    simp only [List.mem_cons] at q
    rcases hu with ⟨-, rfl⟩ | ⟨-, rfl⟩
    · rcases q with rfl | rfl | rfl | rfl | q
      · exact ha (by decide)
      · exact ha (by decide)
      · exact ha (by decide)
      · exact ha (by decide)
      · exact ha (by simp [q])
    · rcases q with rfl | rfl | rfl | rfl | q
      · exact ha (by decide)
      · exact ha (by decide)
      · exact ha (by decide)
      · exact ha (by decide)
      · exact ha (by simp [q])
  have e0 : rd (m' 76) 0 = rd (m 76) 0 := h.rd (j := 0) (by decide)
  have rb : RB m' 35 44 (m' 76) := by
    refine (b1.fr hf (nL _ (by decide)) (fun j hj => nL _ (by simp [jO]; omega))).eqv ⟨e0, h.rd (j := 2) (by decide), h.rd (j := 3) (by decide), h.rd (j := 4) (by decide), fun s v s0 s1 => E.1 s v s0 (Int32.lt_of_lt_of_le s1 b3.1.1.2), fun c c0 c1 => ⟨(E.2 c c0 c1).1, fun y y0 y1 => (E.2 c c0 c1).2 y y0 (Int32.lt_of_lt_of_le y1 (b3.2.1 c c0 c1).1.2)⟩⟩
  have a := E.wt (n := rd (m 76) 0) b3.1 b3.2.1
  have b := E.wc (n := rd (m 76) 0) b3.1.1.2 b3.2.1
  have wt : WT (m' 76) := by rw [← e0] at a; exact a
  have wc : WC (m' 76) := by rw [← e0] at b; exact b
  have wx : (WX (m' 76) 0 ∧ WX (m' 76) 1) ∧ RT m' 36 40 (m' 76) := by
    rcases hu with ⟨rfl, rfl⟩ | ⟨rfl, rfl⟩
    · have o := h.oth (Or.inl ⟨rfl, rfl⟩)
      exact ⟨⟨hx, b3.2.2.2.2.tx o.1 o.2⟩, hr, (b2.2.tx o.1 o.2 b3.2.2.2.2).fr hf (by decide) (by decide)⟩
    · have o := h.oth (Or.inr ⟨rfl, rfl⟩)
      exact ⟨⟨b3.2.2.2.1.tx o.1 o.2, hx⟩, (b2.1.tx o.1 o.2 b3.2.2.2.1).fr hf (by decide) (by decide), hr⟩
  have tp : ∀ {o : Nat} {a M : Nat} {n1 n2 : Int32}, 418 ≤ o → n2 = n1 → m' a = m a → m' (a + 1) = m (a + 1) → jRW m a (fun j => m 76 (o + j)) n1 M → jRW m' a (fun j => m' 76 (o + j)) n2 M := by
    intro o a M n1 n2 ho en ea eb r
    subst en
    have r := r.fr ea eb
    refine ⟨r.1, fun j j0 j1 => ?_⟩
    rw [r.2 j j0 j1]
    exact (h (o + j) (fun _ => Or.inr (by omega)) (fun _ => Or.inr (by omega))).symm
  refine ⟨⟨⟨rb, wx.2, wt, wc, h.wn b3.2.2.1, wx.1.1, wx.1.2⟩, ?_, tp (by decide) (h.rd (j := 5) (by decide)) (hf 1 (nL _ (by decide))) (hf 2 (nL _ (by decide))) ta, tp (by decide) (h.rd (j := 6) (by decide)) (hf 5 (nL _ (by decide))) (hf 6 (nL _ (by decide))) wa, fun j hj => by rw [h (418 + j) (fun _ => Or.inr (by omega)) (fun _ => Or.inr (by omega))]; exact tb j hj⟩, hK.fr hf h3 (fun x hx => nL x ?_), hS.fr hf (fun x hx => nL x ?_), hE.fr hf (nL _ (by decide)) (nL _ (by decide)), hT.fr hf h15 (fun x hx => nL x ?_)⟩
  · rw [hf 35 (nL _ (by decide)), show rd (m' 76) 1 = rd (m 76) 1 from h.rd (j := 1) (by decide), show rd (m' 76) 7 = rd (m 76) 7 from h.rd (j := 7) (by decide)]
    exact b4
  · revert x; decide
  · revert x; decide
  · revert x; decide
section
variable {G : Gm} {d t n i : Nat} {m : Mem} {K : Option Value → Mem → Prop} {f : Nat → Int32} {x y : Int32}
set_option maxHeartbeats 4000000 in
theorem WX.no {f : Nat → Int32} {u : Int32} (h : tN f u = 0) : WX f u := ⟨0, h, by omega, fun k hk => absurd hk (by omega), fun z => absurd z (by omega)⟩
set_option maxHeartbeats 4000000 in
theorem TR.no {m : Mem} {b : Nat} {u : Int32} {wh va : Nat → Int32} {N : Nat} (h : m (b + 1) 1 = 0) (hN : N = 0) : TR m b u wh va N := by
  subst hN
  exact ⟨h, fun k hk => absurd hk (by omega)⟩
def utR (f : Nat → Int32) (x : Int32) : Int32 × Int32 := if 0 ≤ x ∧ x ≤ 1 then (0, if tN f x ≤ 0 then 0 else 1) else (1, 0)
set_option maxHeartbeats 4000000 in
theorem x01 {x : Int32} (h : 0 ≤ x ∧ x ≤ 1) : x = 0 ∨ x = 1 := by
  obtain ⟨k, hk, rfl⟩ := oN' (N := 1) h.1 h.2 (by decide)
  rcases (show k = 0 ∨ k = 1 by omega) with rfl | rfl
  · exact Or.inl rfl
  · exact Or.inr rfl
set_option maxHeartbeats 4000000 in
theorem c_X3_clear {sh : List Shp} {ta : Nat → Nat → Option Nat} (hG : fl G = false) (hd : 2 ≤ d) {b : Nat} (h1 : TXo sh ta b) (k : K none (up2 m (b + 1) 1 0)) : Cal G mX3_clear d [.ref b] sh ta m K := by
  obtain ⟨d, rfl⟩ : ∃ e, d = e + 1 := ⟨d - 1, by omega⟩
  exact Cal.of (by decide +kernel) rfl (Nat.le_of_ble_eq_true rfl) (rg_X3_clear_0 hG b ⟨h1.1, _, h1.2.1, h1.2.2.2.1, c_X2_clear hG (by omega) h1.2.2.2.1 ⟨rfl, k⟩⟩)
set_option maxHeartbeats 4000000 in
theorem TX36 : TXo SH (TA t n i) 36 := ⟨rfl, rfl, rfl, rfl, rfl, rfl, rfl⟩
set_option maxHeartbeats 4000000 in
theorem TX40 : TXo SH (TA t n i) 40 := ⟨rfl, rfl, rfl, rfl, rfl, rfl, rfl⟩
set_option maxHeartbeats 4000000 in
theorem TX52 : TXo SH (TA t n i) 52 := ⟨rfl, rfl, rfl, rfl, rfl, rfl, rfl⟩
set_option maxHeartbeats 4000000 in
theorem TX56 : TXo SH (TA t n i) 56 := ⟨rfl, rfl, rfl, rfl, rfl, rfl, rfl⟩
set_option maxHeartbeats 4000000 in
theorem TX16 : TXo SH (TA t n i) 16 := ⟨rfl, rfl, rfl, rfl, rfl, rfl, rfl⟩
set_option maxHeartbeats 4000000 in
theorem c_X5_untell (hG : fl G = false) (hd : 20 ≤ d) (ht : RT m 36 40 f) (hw : WF f) (k0 : x = 0 → K (some (.int (if tN f 0 ≤ 0 then 0 else 1))) (up2 m 37 1 0)) (k1 : x = 1 → K (some (.int (if tN f 1 ≤ 0 then 0 else 1))) (up2 m 41 1 0)) (k2 : ¬ (0 ≤ x ∧ x ≤ 1) → K (some (.int (-1000000001))) (set1 m 34 (wr (m 34) 1 (rd (m 34) 1 + 1)))) : Cal G mX5_untell d [.ref 0, .int x] SH (TA t n i) m K := by
  obtain ⟨d, rfl⟩ : ∃ e, d = e + 1 := ⟨d - 1, by omega⟩
  refine Cal.of (by decide +kernel) rfl (Nat.le_of_ble_eq_true rfl) (rg_X5_untell_0 hG 0 x ⟨fun c => ⟨rfl, c_X5_refuse hG (by omega) (by decide) ⟨_, rfl, k2 (fun o => absurd c (Int32.not_lt.mpr o.1))⟩⟩, fun c => ⟨fun c2 => ⟨rfl, 35, rfl, rfl, ?_⟩, fun c2 => ⟨rfl, c_X5_refuse hG (by omega) (by decide) ⟨_, rfl, k2 (fun o => c2 o.2)⟩⟩⟩⟩)
  have go : ∀ (b : Nat) (r : Int32) (e : Nat), 5 ≤ e → TXo SH (TA t n i) b → (if m (b + 1) 1 ≤ 0 then (0 : Int32) else 1) = r → K (some (.int r)) (up2 m (b + 1) 1 0) → Cal G mX3_isThere e [.ref b] SH (TA t n i) m (fun v16 m17 => ∃ r18, v16 = some (.int r18) ∧ ((r18 = 0 → Cal G mX3_clear e [.ref b] SH (TA t n i) m17 (fun v22 m23 => v22 = none ∧ K (some (.int 0)) m23)) ∧ (¬ r18 = 0 → Cal G mX3_clear e [.ref b] SH (TA t n i) m17 (fun v26 m27 => v26 = none ∧ K (some (.int 1)) m27)))) := by
    intro b r e he hT hr kk
    refine c_X3_isThere hG (by omega) hT ⟨_, rfl, ?_⟩
    rw [hr]
    refine ⟨fun z => c_X3_clear hG (by omega) hT ⟨rfl, by rw [z] at kk; exact kk⟩, fun z => c_X3_clear hG (by omega) hT ⟨rfl, ?_⟩⟩
    have : r = 1 := by
      rw [← hr]
      rw [← hr] at z
      split
      · rename_i h; rw [if_pos h] at z; exact absurd rfl z
      · rfl
    rw [this] at kk
    exact kk
  have e0 := TR.there hw.2.2.2.1 ht.1
  have e1 := TR.there hw.2.2.2.2 ht.2
  obtain ⟨d, rfl⟩ : ∃ e, d = e + 1 := ⟨d - 1, by omega⟩
  rcases x01 ⟨Int32.not_lt.mp c, c2⟩ with rfl | rfl
  · exact Cal.of (by decide +kernel) rfl (Nat.le_of_ble_eq_true rfl) (rg_X0_textFor_0 hG 35 0 ⟨fun z => absurd rfl z, fun _ => ⟨rfl, 36, rfl, _, rfl, rfl, go 36 _ _ (by omega) TX36 (by rw [e0]) (k0 rfl)⟩⟩)
  · exact Cal.of (by decide +kernel) rfl (Nat.le_of_ble_eq_true rfl) (rg_X0_textFor_0 hG 35 1 ⟨fun _ => ⟨rfl, 40, rfl, _, rfl, rfl, go 40 _ _ (by omega) TX40 (by rw [e1]) (k1 rfl)⟩, fun z => absurd z (by decide)⟩)
set_option maxHeartbeats 4000000 in
theorem c_X6_untell (hG : fl G = false) (hd : 20 ≤ d) (k1 : (x = 0 ∨ x = 1) → K (some (.int (if tN (m 76) x ≤ 0 then 0 else 1))) (set1 m 76 (wr (m 76) (tT x) 0))) (k2 : ¬ (0 ≤ x ∧ x ≤ 1) → K (some (.int (-1000000001))) (set1 m 79 (wr (m 79) 1 (rd (m 79) 1 + 1)))) : Cal G mX6_untell d [.ref 75, .int x] SH (TA t n i) m K := by
  obtain ⟨d, rfl⟩ : ∃ e, d = e + 1 := ⟨d - 1, by omega⟩
  refine Cal.of (by decide +kernel) rfl (Nat.le_of_ble_eq_true rfl) (rg_X6_untell_0 hG 75 x (c_X6_in hG (by omega) ⟨_, rfl, fun q => ?_, fun q => ⟨rfl, c_X6_error hG (by omega) (by decide) ⟨_, rfl, k2 (b0 q)⟩⟩⟩))
  have hx := x01 (b1 q)
  have ib : InB (168 + 125 * x) 502 := by rcases hx with rfl | rfl <;> exact ib502 (by decide) (by decide)
  have kk := k1 hx
  refine ⟨rfl, c_X6_hasText hG (by omega) hx ⟨_, rfl, fun z => ⟨76, rfl, 502, rfl, ib, ?_⟩, fun z => ⟨76, rfl, 502, rfl, ib, ?_⟩⟩⟩
  · rintro _ rfl
    rw [z] at kk
    rw [upa_set]
    exact kk
  · rintro _ rfl
    rw [show (if tN (m 76) x ≤ 0 then (0 : Int32) else 1) = 1 from if_neg (fun o => z (if_pos o))] at kk
    rw [upa_set]
    exact kk
set_option maxHeartbeats 4000000 in
theorem tT_o : tT 0 = Int32.ofNat 168 ∧ tT 1 = Int32.ofNat 293 := by decide
set_option maxHeartbeats 4000000 in
theorem J_untell (hG : fl G = false) (hd : 20 ≤ d) (hV : jV m) : JJ G d t n i mX5_untell mX6_untell [.int x] m := by
  have hV' := hV
  obtain ⟨⟨⟨hb, ht, hw⟩, h13, hta, hwa⟩, hK, hS, hE, hT⟩ := hV
  refine c_X5_untell hG hd ht hw (fun e => ?_) (fun e => ?_) (fun e => ⟨_, rfl, c_X6_untell hG hd (fun o => absurd ?_ e) (fun _ => ⟨rfl, ?_⟩)⟩)
  · subst e
    refine ⟨_, rfl, c_X6_untell hG hd (fun _ => ⟨by rw [up2_ne (by decide)], ?_⟩) (fun o => absurd (by decide) o)⟩
    rw [up2_ne (by decide)]
    have hff : Fr [37, 76] m (set1 (up2 m 37 1 0) 76 (wr (m 76) (tT 0) 0)) := (Fr.u2 (by decide)).tr (Fr.s1 (by decide))
    have e168 : tN (wr (m 76) (tT 0) 0) 0 = 0 := by
      rw [tN_o.1, tT_o.1, wr_o (by omega)]
      exact if_pos rfl
    refine hV'.te (Or.inl ⟨rfl, rfl⟩) (hff.mo (by simp)) (by rw [hff 75 (by decide)]) (by rw [hff 75 (by decide)]) ?_ ?_ ?_
    · rw [set1_eq, tT_o.1, wr_o (by omega)]
      intro j h1 _
      exact if_neg (by have := h1 rfl; omega)
    · rw [set1_eq]; exact WX.no e168
    · rw [set1_eq]
      exact TR.no (by rw [set1_ne (by decide)]; rw [up2_eq, if_pos rfl]) (by rw [e168]; rfl)
  · subst e
    refine ⟨_, rfl, c_X6_untell hG hd (fun _ => ⟨by rw [up2_ne (by decide)], ?_⟩) (fun o => absurd (by decide) o)⟩
    rw [up2_ne (by decide)]
    have hff : Fr [41, 76] m (set1 (up2 m 41 1 0) 76 (wr (m 76) (tT 1) 0)) := (Fr.u2 (by decide)).tr (Fr.s1 (by decide))
    have e168 : tN (wr (m 76) (tT 1) 0) 1 = 0 := by
      rw [tN_o.2, tT_o.2, wr_o (by omega)]
      exact if_pos rfl
    refine hV'.te (Or.inr ⟨rfl, rfl⟩) (hff.mo (by simp)) (by rw [hff 75 (by decide)]) (by rw [hff 75 (by decide)]) ?_ ?_ ?_
    · rw [set1_eq, tT_o.2, wr_o (by omega)]
      intro j _ h1
      exact if_neg (by have := h1 rfl; omega)
    · rw [set1_eq]; exact WX.no e168
    · rw [set1_eq]
      exact TR.no (by rw [set1_ne (by decide)]; rw [up2_eq, if_pos rfl]) (by rw [e168]; rfl)
  · rcases o with rfl | rfl <;> decide
  · exact hV'.e2 (by decide) Fr.rf Fr.rf (by rw [set1_ne (by decide)]) (by rw [set1_ne (by decide)])
end

