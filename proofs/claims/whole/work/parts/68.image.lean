-- 68.image
set_option maxHeartbeats 4000000 in
theorem cp2_row {m : Mem} {b c : Nat} {N : Nat} {w : Nat → Int32} {M : Nat} (hbc : b + 1 ≠ c ∧ b ≠ c ∧ c + 1 ≠ b) (hN : N ≤ 1000) (M_small : M ≤ 1000) (h : jRW m c w (Int32.ofNat N) M) : jRW (cp2 (up2 m b 1 (m c 1)) (b + 1) 0 (c + 1) 0 (m c 1).toNatClampNeg) b w (Int32.ofNat N) M ∧ Fr [b, b + 1] m (cp2 (up2 m b 1 (m c 1)) (b + 1) 0 (c + 1) 0 (m c 1).toNatClampNeg) := by
  have e : (m c 1).toNatClampNeg = N := by rw [h.1]; exact tn_o (by omega)
  rw [e]
  refine ⟨⟨?_, fun j j0 j1 => ?_⟩, fun A hA => ?_⟩
  · unfold cp2
    rw [if_neg (by omega), up2_eq, if_pos rfl, h.1]
  · unfold cp2
    have jN : j < N ∨ 2147483648 ≤ j := by
      by_cases q : j < 2147483648
      · exact Or.inl ((o_lt q (by omega)).mp j1)
      · exact Or.inr (by omega)
    by_cases q : j < N
    · rw [if_pos ⟨rfl, by omega, by omega⟩, up2_ne (by omega), show 0 + (j - 0) = j by omega]
      exact h.2 j j0 j1
    · exfalso
      omega
  · simp only [List.mem_cons, List.mem_nil_iff, or_false, not_or] at hA
    funext B
    unfold cp2
    rw [if_neg (fun q => hA.2 q.1), up2_ne hA.1]
set_option maxHeartbeats 4000000 in
theorem c_X3_copyFrom {G : Gm} {sh : List Shp} {ta : Nat → Nat → Option Nat} {m : Mem} {K : Option Value → Mem → Prop} (hG : fl G = false) {d b c N : Nat} (hd : 2 ≤ d) {u : Int32} {wh va : Nat → Int32} (h1 : TXo sh ta b) (h2 : TXo sh ta c) (hbc : b + 3 < c ∨ c + 3 < b) (hN : N ≤ 60) (h : TR m c u wh va N) (k : ∀ m', Fr [b + 1, b + 2] m m' → TR m' b u wh va N → K none m') : Cal G mX3_copyFrom d [.ref b, .ref c] sh ta m K := by
  obtain ⟨d, rfl⟩ : ∃ e, d = e + 1 := ⟨d - 1, by omega⟩
  have e1 : m (c + 1) 1 = Int32.ofNat N := h.1
  have r : jRW m (c + 1) (fun j => rd (m (c + 1 + 1)) (Int32.ofNat j)) (Int32.ofNat N) 60 := ⟨e1, fun j j0 j1 => by show _ = rd _ _; rw [rd_o (by omega)]⟩
  have cr := cp2_row (b := b + 1) (c := c + 1) (by omega) (by omega) (by decide) r
  refine Cal.of (by decide +kernel) rfl (Nat.le_of_ble_eq_true rfl) (rg_X3_copyFrom_0 hG b c ⟨h1.1, _, h1.2.1, h2.1, _, h2.2.1, h1.2.2.2.1, c_X2_copyFrom hG (by omega) h1.2.2.2.1 h1.2.2.2.2.1 h1.2.2.2.2.2.1 h2.2.2.2.1 h2.2.2.2.2.1 h2.2.2.2.2.2.1 (by decide) (by decide) (by rw [e1]; exact o_0 _ (by omega)) (by rw [e1]; exact (o_le (by omega) (by omega)).mpr hN) (by rw [e1]; exact (o_le (by omega) (by omega)).mpr hN) ⟨rfl, ?_⟩⟩)
  refine k _ cr.2 ⟨cr.1.1, fun j hj => ?_⟩
  rw [rd_o (by omega)]
  have := cr.1.2 j (by omega) ((o_lt (by omega) (by omega)).mpr hj)
  exact this.trans (h.2 j hj)
set_option maxHeartbeats 4000000 in
theorem B51' {t n i : Nat} : BXo SH (TA t n i) 51 60 52 56 := B51
set_option maxHeartbeats 4000000 in
theorem c_X0_cw_51 {G : Gm} {t n i : Nat} {m : Mem} {K : Option Value → Mem → Prop} {f : Nat → Int32} (hG : fl G = false) {d : Nat} (hd : 4 ≤ d) (hb : RB m 35 44 f) (ht : RT m 36 40 f) (hw : WF f) (k : ∀ m', Fr [51, 60, 60 + 1, 60 + 2, 60 + 3, 60 + 4, 60 + 5, 60 + 6, 52 + 1, 52 + 2, 56 + 1, 56 + 2] m m' → RB m' 51 60 f → RT m' 52 56 f → m' 51 13 = m 35 13 → m' 51 14 = m 35 14 → K none m') : Cal G mX0_copyWholeFrom d [.ref 51, .ref 35] SH (TA t n i) m K := by
  obtain ⟨d, rfl⟩ : ∃ e, d = e + 1 := ⟨d - 1, by omega⟩
  obtain ⟨n0, q0, p0⟩ := hw.2.2.2.1
  obtain ⟨n1, q1, p1⟩ := hw.2.2.2.2
  have e0 : (tN f 0).toNatClampNeg = n0 := by rw [q0]; exact tn_o (by have := p0.1; omega)
  have e1 : (tN f 1).toNatClampNeg = n1 := by rw [q1]; exact tn_o (by have := p1.1; omega)
  have b0 := p0.1
  have b1 := p1.1
  unfold RT at ht k
  rw [e0, e1] at ht k
  refine Cal.of (by decide +kernel) rfl (Nat.le_of_ble_eq_true rfl) (rg_X0_copyWholeFrom_0 hG 51 35 ⟨rfl, c_X0_copyFrom hG (by omega) B51 B35 hb hw.1 hw.2.1 ⟨by decide, by decide⟩ (fun m1 hf1 hb1 h13 h14 => ⟨rfl, 52, rfl, rfl, 36, rfl, rfl, ?_⟩)⟩)
  refine c_X3_copyFrom hG (by omega) TX52 TX36 (by decide) b0 (ht.1.fr hf1 (by decide) (by decide)) (fun m2 hf2 hr2 => ⟨rfl, 56, rfl, 40, rfl, rfl, ?_⟩)
  refine c_X3_copyFrom hG (by omega) TX56 TX40 (by decide) b1 ((ht.2.fr hf1 (by decide) (by decide)).fr hf2 (by decide) (by decide)) (fun m3 hf3 hr3 => ⟨rfl, ?_⟩)
  have hff : Fr [52 + 1, 52 + 2, 56 + 1, 56 + 2] m1 m3 := (hf2.mo (by simp)).tr (hf3.mo (by simp))
  refine k m3 ((hf1.mo (by simp)).tr (hff.mo (by simp))) (hb1.fr hff (by decide) (by intro j hj; simp; omega)) ⟨hr2.fr hf3 (by decide) (by decide), hr3⟩ ?_ ?_
  · rw [hff 51 (by decide)]; exact h13
  · rw [hff 51 (by decide)]; exact h14
set_option maxHeartbeats 4000000 in
theorem c_X0_cw_35 {G : Gm} {t n i : Nat} {m : Mem} {K : Option Value → Mem → Prop} {f : Nat → Int32} (hG : fl G = false) {d : Nat} (hd : 4 ≤ d) (hb : RB m 51 60 f) (ht : RT m 52 56 f) (hw : WF f) (k : ∀ m', Fr [35, 44, 44 + 1, 44 + 2, 44 + 3, 44 + 4, 44 + 5, 44 + 6, 36 + 1, 36 + 2, 40 + 1, 40 + 2] m m' → RB m' 35 44 f → RT m' 36 40 f → m' 35 13 = m 51 13 → m' 35 14 = m 51 14 → K none m') : Cal G mX0_copyWholeFrom d [.ref 35, .ref 51] SH (TA t n i) m K := by
  obtain ⟨d, rfl⟩ : ∃ e, d = e + 1 := ⟨d - 1, by omega⟩
  obtain ⟨n0, q0, p0⟩ := hw.2.2.2.1
  obtain ⟨n1, q1, p1⟩ := hw.2.2.2.2
  have e0 : (tN f 0).toNatClampNeg = n0 := by rw [q0]; exact tn_o (by have := p0.1; omega)
  have e1 : (tN f 1).toNatClampNeg = n1 := by rw [q1]; exact tn_o (by have := p1.1; omega)
  have b0 := p0.1
  have b1 := p1.1
  unfold RT at ht k
  rw [e0, e1] at ht k
  refine Cal.of (by decide +kernel) rfl (Nat.le_of_ble_eq_true rfl) (rg_X0_copyWholeFrom_0 hG 35 51 ⟨rfl, c_X0_copyFrom hG (by omega) B35 B51 hb hw.1 hw.2.1 ⟨by decide, by decide⟩ (fun m1 hf1 hb1 h13 h14 => ⟨rfl, 36, rfl, rfl, 52, rfl, rfl, ?_⟩)⟩)
  refine c_X3_copyFrom hG (by omega) TX36 TX52 (by decide) b0 (ht.1.fr hf1 (by decide) (by decide)) (fun m2 hf2 hr2 => ⟨rfl, 40, rfl, 56, rfl, rfl, ?_⟩)
  refine c_X3_copyFrom hG (by omega) TX40 TX56 (by decide) b1 ((ht.2.fr hf1 (by decide) (by decide)).fr hf2 (by decide) (by decide)) (fun m3 hf3 hr3 => ⟨rfl, ?_⟩)
  have hff : Fr [36 + 1, 36 + 2, 40 + 1, 40 + 2] m1 m3 := (hf2.mo (by simp)).tr (hf3.mo (by simp))
  refine k m3 ((hf1.mo (by simp)).tr (hff.mo (by simp))) (hb1.fr hff (by decide) (by intro j hj; simp; omega)) ⟨hr2.fr hf3 (by decide) (by decide), hr3⟩ ?_ ?_
  · rw [hff 35 (by decide)]; exact h13
  · rw [hff 35 (by decide)]; exact h14
-- the same in all 502 places
set_option maxHeartbeats 4000000 in
theorem jX.cp {m m' : Mem} {b a t1 t2 tp wt c e s1 s2 sp xt : Nat} {f g : Nat → Int32} (h : jX m c e s1 s2 sp xt f) (rb : RB m' b a f) (rt : RT m' t1 t2 f) (h13 : m' b 13 = m c 13) (h14 : m' b 14 = m c 14) (ta : jRW m' tp (fun j => f (418 + j)) (rd f 5) 60) (wa : jRW m' wt (fun j => f (478 + j)) (rd f 6) 24) (he : ∀ j, j < 502 → g j = f j) : jX m' b a t1 t2 tp wt g := by
  obtain ⟨⟨-, -, w⟩, h4, -, -, tb⟩ := h
  have hT : TpE f g := fun j hj _ _ => he j (by omega)
  have r : ∀ j, j < 8 → rd g (Int32.ofNat j) = rd f (Int32.ofNat j) := fun j hj => by rw [rd_o (by omega), rd_o (by omega), he j (by omega)]
  have wn : WN g := WN.same (fun j j0 j1 => by obtain ⟨k, hk, rfl⟩ := oN (N := 8) j0 j1 (by decide); exact r k hk) w.2.2.1
  refine ⟨⟨hT.rb w rb, hT.rt w rt, hT.wf w wn⟩, ⟨by rw [h13, h4.1]; exact (r 1 (by decide)).symm, by rw [h14, h4.2]; exact (r 7 (by decide)).symm⟩, ⟨?_, fun j j0 j1 => ?_⟩, ⟨?_, fun j j0 j1 => ?_⟩, fun j hj => by rw [he (418 + j) (by omega)]; exact tb j hj⟩
  · rw [ta.1]; exact (r 5 (by decide)).symm
  · rw [ta.2 j j0 (by rw [show rd g 5 = rd f 5 from r 5 (by decide)] at j1; exact j1)]; exact (he (418 + j) (by omega)).symm
  · rw [wa.1]; exact (r 6 (by decide)).symm
  · rw [wa.2 j j0 (by rw [show rd g 6 = rd f 6 from r 6 (by decide)] at j1; exact j1)]; exact (he (478 + j) (by omega)).symm
set_option maxHeartbeats 4000000 in
theorem cpN_lo {g h : Nat → Int32} : ∀ j, j < 502 → cpN g h 0 0 502 j = h j := by
  intro j hj
  unfold cpN
  rw [if_pos (by omega), show 0 + (j - 0) = j by omega]
section
variable {G : Gm} {d t n i : Nat} {m : Mem} {K : Option Value → Mem → Prop} {f : Nat → Int32}
set_option maxHeartbeats 4000000 in
theorem J_image (hG : fl G = false) (hd : 20 ≤ d) (hV : jV m) : JJ G d t n i mX5_image mX6_image [] m := by
  obtain ⟨d, rfl⟩ : ∃ e, d = e + 1 := ⟨d - 1, by omega⟩
  obtain ⟨hB, hK, hS, hE, hT⟩ := hV
  have hB' := hB
  obtain ⟨⟨hb, ht, hw⟩, h13, hta, hwa, -⟩ := hB
  have hn := hw.2.2.1
  obtain ⟨N5, hN5, e5⟩ := oN' (N := 60) hn.2.2.2.2.1.1 hn.2.2.2.2.1.2 (by decide)
  obtain ⟨N6, hN6, e6⟩ := oN' (N := 24) hn.2.2.2.2.2.1 hn.2.2.2.2.2.2 (by decide)
  refine Cal.of (by decide +kernel) rfl (Nat.le_of_ble_eq_true rfl) (rg_X5_image_0 hG 0 ⟨rfl, 51, rfl, 35, rfl, rfl, c_X0_cw_51 hG (by omega) hb ht hw (fun m1 hf1 rb1 rt1 p13 p14 => ⟨rfl, 3, rfl, 1, rfl, rfl, ?_⟩)⟩)
  have ta1 := hta.fr (hf1 1 (by decide)) (hf1 2 (by decide))
  rw [e5] at ta1
  have s1 : m1 1 1 = Int32.ofNat N5 := ta1.1
  have c1 := cp2_row (b := 3) (by decide) (by omega) (by decide) ta1
  refine c_X2_copyFrom hG (by omega) rfl rfl rfl rfl rfl rfl (by decide) (by decide) (by rw [s1]; exact o_0 _ (by omega)) (by rw [s1]; exact (o_le (by omega) (by omega)).mpr hN5) (by rw [s1]; exact (o_le (by omega) (by omega)).mpr hN5) ⟨rfl, ?_⟩
  generalize cp2 (up2 m1 3 1 (m1 1 1)) (3 + 1) 0 (1 + 1) 0 (m1 1 1).toNatClampNeg = m2 at *
  obtain ⟨r3, hf2⟩ := c1
  have wa1 := (hwa.fr (hf1 5 (by decide)) (hf1 6 (by decide))).fr (m' := m2) (hf2 5 (by decide)) (hf2 6 (by decide))
  rw [e6] at wa1
  have s2 : m2 5 1 = Int32.ofNat N6 := wa1.1
  have c2 := cp2_row (b := 7) (by decide) (by omega) (by decide) wa1
  refine ⟨7, rfl, 5, rfl, rfl, c_X2_copyFrom hG (by omega) rfl rfl rfl rfl rfl rfl (by decide) (by decide) (by rw [s2]; exact o_0 _ (by omega)) (by rw [s2]; exact (o_le (by omega) (by omega)).mpr hN6) (by rw [s2]; exact (o_le (by omega) (by omega)).mpr hN6) ⟨rfl, ?_⟩⟩
  generalize cp2 (up2 m2 7 1 (m2 5 1)) (7 + 1) 0 (5 + 1) 0 (m2 5 1).toNatClampNeg = m3 at *
  obtain ⟨r7, hf3⟩ := c2
  have f0 : Fr [3, 4, 7, 8] m1 m3 := (hf2.mo (by simp)).tr (hf3.mo (by simp))
  have fa : Fr [51, 60, 61, 62, 63, 64, 65, 66, 53, 54, 57, 58, 3, 4, 7, 8] m m3 := (hf1.mo (by simp)).tr (f0.mo (by simp))
  rintro _ rfl
  refine ⟨_, rfl, ?_⟩
  refine Cal.of (by decide +kernel) rfl (Nat.le_of_ble_eq_true rfl) (rg_X6_image_0 hG 75 ⟨rfl, 76, rfl, 77, rfl, c_X6_carry hG (by omega) rfl rfl (by decide) ⟨rfl, ?_⟩⟩)
  rintro _ rfl
  have u0 : m3 0 = m 0 := fa 0 (by decide)
  have u75 : m3 75 = m 75 := fa 75 (by decide)
  have u76 : m3 76 = m 76 := fa 76 (by decide)
  rw [up2_ne (show (76 : Nat) ≠ 0 by decide), up2_ne (show (77 : Nat) ≠ 0 by decide), u76, up2_eq, if_pos rfl, up2_eq, if_pos rfl, set1_ne (show (75 : Nat) ≠ 77 by decide), up2_ne (show (75 : Nat) ≠ 0 by decide), u0, u75, hK.1]
  refine ⟨rfl, ?_⟩
  generalize hM : up2 (set1 (up2 m3 0 14 (m 75 3 + 1)) 77 (cpN (m3 77) (m 76) 0 0 502)) 75 3 (m 75 3 + 1) = M
  have fM : Fr [0, 77, 75] m3 M := by rw [← hM]; exact ((Fr.u2 (by decide)).tr (Fr.s1 (by decide))).tr (Fr.u2 (by decide))
  have M0 : ∀ j, M 0 j = if j = 14 then m 75 3 + 1 else m 0 j := fun j => by rw [← hM, up2_ne (by decide), set1_ne (by decide), up2_eq, u0]
  have M75 : ∀ j, M 75 j = if j = 3 then m 75 3 + 1 else m 75 j := fun j => by rw [← hM, up2_eq, set1_ne (by decide), up2_ne (by decide), u75]
  have M77 : M 77 = cpN (m3 77) (m 76) 0 0 502 := by rw [← hM, up2_ne (by decide), set1_eq]
  have ff : Fr [51, 60, 61, 62, 63, 64, 65, 66, 53, 54, 57, 58, 3, 4, 7, 8, 0, 77, 75] m M := (fa.mo (by simp)).tr (fM.mo (by simp))
  refine ⟨hB'.fr ff (by decide), ⟨by rw [M0, M75, if_pos rfl, if_pos rfl], fun _ => ?_⟩, hS.fr ff (by decide), hE.fr ff (by decide) (by decide), hT.fr ff (by rw [M75, if_neg (by decide)]) (by decide)⟩
  rw [M77]
  have f1M : Fr [3, 4, 7, 8, 0, 77, 75] m1 M := (f0.mo (by simp)).tr (fM.mo (by simp))
  refine jX.cp hB' (rb1.fr f1M (by decide) (by intro j hj; simp; omega)) (rt1.fr f1M (by decide) (by decide) (by decide) (by decide)) ?_ ?_ ?_ ?_ cpN_lo
  · rw [f1M 51 (by decide)]; exact p13
  · rw [f1M 51 (by decide)]; exact p14
  · rw [e5]; exact (r3.fr (hf3 3 (by decide)) (hf3 4 (by decide))).fr (fM 3 (by decide)) (fM 4 (by decide))
  · rw [e6]; exact r7.fr (fM 7 (by decide)) (fM 8 (by decide))
set_option maxHeartbeats 4000000 in
theorem J_restore (hG : fl G = false) (hd : 20 ≤ d) (hV : jV m) : JJ G d t n i mX5_restore mX6_restore [] m := by
  obtain ⟨d, rfl⟩ : ∃ e, d = e + 1 := ⟨d - 1, by omega⟩
  have hV' := hV
  obtain ⟨hB, hK, hS, hE, hT⟩ := hV
  refine Cal.of (by decide +kernel) rfl (Nat.le_of_ble_eq_true rfl) (rg_X5_restore_0 hG 0 ⟨rfl, fun hne => ⟨35, rfl, 51, rfl, rfl, ?_⟩, fun h0 => ?_⟩)
  · have hX := hK.2 hne
    have hX' := hX
    obtain ⟨⟨hb, ht, hw⟩, h13, hta, hwa, -⟩ := hX
    have hn := hw.2.2.1
    obtain ⟨N5, hN5, e5⟩ := oN' (N := 60) hn.2.2.2.2.1.1 hn.2.2.2.2.1.2 (by decide)
    obtain ⟨N6, hN6, e6⟩ := oN' (N := 24) hn.2.2.2.2.2.1 hn.2.2.2.2.2.2 (by decide)
    refine c_X0_cw_35 hG (by omega) hb ht hw (fun m1 hf1 rb1 rt1 p13 p14 => ⟨rfl, 1, rfl, 3, rfl, rfl, ?_⟩)
    have ta1 := hta.fr (hf1 3 (by decide)) (hf1 4 (by decide))
    rw [e5] at ta1
    have s1 : m1 3 1 = Int32.ofNat N5 := ta1.1
    have c1 := cp2_row (b := 1) (by decide) (by omega) (by decide) ta1
    refine c_X2_copyFrom hG (by omega) rfl rfl rfl rfl rfl rfl (by decide) (by decide) (by rw [s1]; exact o_0 _ (by omega)) (by rw [s1]; exact (o_le (by omega) (by omega)).mpr hN5) (by rw [s1]; exact (o_le (by omega) (by omega)).mpr hN5) ⟨rfl, ?_⟩
    generalize cp2 (up2 m1 1 1 (m1 3 1)) (1 + 1) 0 (3 + 1) 0 (m1 3 1).toNatClampNeg = m2 at *
    obtain ⟨r1, hf2⟩ := c1
    have wa1 := (hwa.fr (hf1 7 (by decide)) (hf1 8 (by decide))).fr (m' := m2) (hf2 7 (by decide)) (hf2 8 (by decide))
    rw [e6] at wa1
    have s2 : m2 7 1 = Int32.ofNat N6 := wa1.1
    have c2 := cp2_row (b := 5) (by decide) (by omega) (by decide) wa1
    refine ⟨5, rfl, 7, rfl, rfl, c_X2_copyFrom hG (by omega) rfl rfl rfl rfl rfl rfl (by decide) (by decide) (by rw [s2]; exact o_0 _ (by omega)) (by rw [s2]; exact (o_le (by omega) (by omega)).mpr hN6) (by rw [s2]; exact (o_le (by omega) (by omega)).mpr hN6) ⟨rfl, ?_⟩⟩
    generalize cp2 (up2 m2 5 1 (m2 7 1)) (5 + 1) 0 (7 + 1) 0 (m2 7 1).toNatClampNeg = m3 at *
    obtain ⟨r5, hf3⟩ := c2
    have f0 : Fr [1, 2, 5, 6] m1 m3 := (hf2.mo (by simp)).tr (hf3.mo (by simp))
    have fa : Fr [35, 44, 45, 46, 47, 48, 49, 50, 37, 38, 41, 42, 1, 2, 5, 6] m m3 := (hf1.mo (by simp)).tr (f0.mo (by simp))
    refine ⟨_, rfl, ?_⟩
    have u75 : m3 75 = m 75 := fa 75 (by decide)
    have u77 : m3 77 = m 77 := fa 77 (by decide)
    refine Cal.of (by decide +kernel) rfl (Nat.le_of_ble_eq_true rfl) (rg_X6_restore_0 hG 75 ⟨rfl, fun _ => ⟨77, rfl, 76, rfl, c_X6_carry hG (by omega) rfl rfl (by decide) ⟨rfl, 502, rfl, ib502 (by decide) (by decide), ?_⟩⟩, fun h => absurd ?_ hne⟩)
    · rw [u77, set1_eq]
      generalize hM : set1 m3 76 (cpN (m3 76) (m 77) 0 0 502) = M
      have fM : Fr [76] m3 M := by rw [← hM]; exact Fr.s1 (by decide)
      have M76 : M 76 = cpN (m3 76) (m 77) 0 0 502 := by rw [← hM, set1_eq]
      have ff : Fr [35, 44, 45, 46, 47, 48, 49, 50, 37, 38, 41, 42, 1, 2, 5, 6, 76] m M := (fa.mo (by simp)).tr (fM.mo (by simp))
      have f1M : Fr [1, 2, 5, 6, 76] m1 M := (f0.mo (by simp)).tr (fM.mo (by simp))
      refine ⟨?_, ?_, hK.fr ff (by rw [ff 75 (by decide)]) (by decide), hS.fr ff (by decide), hE.fr ff (by decide) (by decide), hT.fr ff (by rw [ff 75 (by decide)]) (by decide)⟩
      · congr 2
        rw [f0 35 (by decide), p13, h13.1]
        exact cpN_lo 1 (by decide)
      · unfold jB
        rw [M76]
        refine jX.cp hX' (rb1.fr f1M (by decide) (by intro j hj; simp; omega)) (rt1.fr f1M (by decide) (by decide) (by decide) (by decide)) ?_ ?_ ?_ ?_ cpN_lo
        · rw [f1M 35 (by decide)]; exact p13
        · rw [f1M 35 (by decide)]; exact p14
        · rw [e5]; exact (r1.fr (hf3 1 (by decide)) (hf3 2 (by decide))).fr (fM 1 (by decide)) (fM 2 (by decide))
        · rw [e6]; exact r5.fr (fM 5 (by decide)) (fM 6 (by decide))
    · rw [u75] at h
      rw [hK.1]
      exact h
  · refine c_X5_refuse hG (by omega) (by decide) ⟨_, rfl, _, rfl, ?_⟩
    refine Cal.of (by decide +kernel) rfl (Nat.le_of_ble_eq_true rfl) (rg_X6_restore_0 hG 75 ⟨rfl, fun h => absurd ?_ h, fun _ => c_X6_error hG (by omega) (by decide) ⟨_, rfl, rfl, ?_⟩⟩)
    · rw [set1_ne (by decide), ← hK.1]; exact h0
    · exact hV'.e2 (by decide) Fr.rf Fr.rf (by rw [set1_ne (by decide)]) (by rw [set1_ne (by decide)])
end

