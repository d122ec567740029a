-- 65.check2
-- whether the pulls at c do what was told, from the i-th number on
def ckA (f : Nat → Int32) (c : Int32) (w : Nat → Int32) (i : Nat) (k : Nat) : Int32 := match k with
  | 0 => 0
  | e + 1 => if w i = doe f c then ckA (pulA f c) c w (i + 1) e else 1 + Int32.ofNat i
section
variable {G : Gm} {d t n i : Nat} {m : Mem} {K : Option Value → Mem → Prop} {f : Nat → Int32} {x y c : Int32}
set_option maxHeartbeats 4000000 in
theorem c_X5_checked (hG : fl G = false) (hd : 12 ≤ d) (hb : RB m 35 44 f) (ht : RT m 36 40 f) (hw : WF f) (hc : 1 ≤ c ∧ c ≤ 15) {w : Nat → Int32} {N : Nat} (hN : N ≤ 24) (e5 : m 5 1 = Int32.ofNat N) (e6 : ∀ j, j < N → m 6 j = w j) (k : ∀ m', Fr [36, 39, 40, 43, 67, 68, 69, 70, 71, 72, 73, 74] m m' → K (some (.int (ckA f c w 0 N))) m') : Cal G mX5_checked d [.ref 0, .int c] SH (TA t n i) m K := by
  obtain ⟨d, rfl⟩ : ∃ e, d = e + 1 := ⟨d - 1, by omega⟩
  refine Cal.of (by decide +kernel) rfl (Nat.le_of_ble_eq_true rfl) (rg_X5_checked_0 hG 0 c ⟨rfl, 67, rfl, 35, rfl, rfl, c_X0_copyFrom hG (by omega) B67 B35 hb hw.1 hw.2.1 ⟨by decide, Or.inl (by decide)⟩ (fun m1 hf1 hb1 _ _ => ⟨rfl, ?_⟩)⟩)
  have hff : Fr [36, 39, 40, 43, 67, 68, 69, 70, 71, 72, 73, 74] m m1 := hf1.mo (by simp)
  have loop : ∀ (e j : Nat), j + e = N → ∀ (m' : Mem) (g : Nat → Int32), Fr [36, 39, 40, 43, 67, 68, 69, 70, 71, 72, 73, 74] m m' → RB m' 67 68 g → RT m' 36 40 g → WF g → ckA f c w 0 N = ckA g c w j e → WP G (rmD (d + 1) 0 0) mX5_checked (QC G SH (TA t n i) K) 0 0 13 [(0, .ref 0), (1, .int c), (2, .int (Int32.ofNat j))] [] (SH, TA t n i, m') := by
    intro e
    induction e with
    | zero =>
      intro j hj m' g hf _ _ _ hr
      have hr : ckA f c w 0 N = 0 := hr
      have kk := k m' hf
      rw [hr] at kk
      refine rg_X5_checked_13 hG 0 c _ ⟨rfl, 5, rfl, rfl, fun _ => kk, fun o => absurd ?_ o⟩
      rw [hf 5 (by decide), e5, o_le (by omega) (by omega)]; omega
    | succ e ih =>
      intro j hj m' g hf hb' ht' hw' hr
      refine rg_X5_checked_13 hG 0 c _ ⟨rfl, 5, rfl, rfl, fun o => ?_, fun _ => ⟨67, rfl, rfl, ?_⟩⟩
      · rw [hf 5 (by decide), e5, o_le (by omega) (by omega)] at o; omega
      have hp := pul_ok hw' hc
      refine c_X0_grip hG (by omega) B67 hb' ht' hw' hc (fun m2 hf2 hb2 _ _ _ => ⟨_, rfl, ?_⟩)
      have hf3 : Fr [36, 39, 40, 43, 67, 68, 69, 70, 71, 72, 73, 74] m m2 := hf.tr (hf2.mo (by simp))
      have m5 : m2 5 1 = Int32.ofNat N := by rw [hf3 5 (by decide), e5]
      refine c_X2_at hG (by omega) rfl rfl rfl (n := 24) (by rw [m5]; exact (o_le (by omega) (by omega)).mpr hN) (by decide) ⟨_, rfl, ?_⟩
      rw [if_pos ⟨o_0 j (by omega), by rw [m5]; exact (o_lt (by omega) (by omega)).mpr (by omega)⟩, rd_o (by omega), show m2 (5 + 1) = m 6 from hf3 6 (by decide), e6 j (by omega), o_1]
      refine ⟨fun h => ih (j + 1) (by omega) m2 _ hf3 hb2 ((ht'.fr hf2 (by decide) (by decide) (by decide) (by decide)).hi hp.2.2.1 hw'.2.2.2.1 hw'.2.2.2.2) hp.1 (by rw [hr, ckA, if_pos h.symm]), fun h => ?_⟩
      have kk := k m2 hf3
      rw [hr, ckA, if_neg (fun o => h o.symm)] at kk
      exact kk
  exact loop N 0 (by omega) m1 f hff hb1 (ht.fr hff (by decide) (by decide) (by decide) (by decide)) hw rfl
-- behind the model's own first step, that none waits any more
set_option maxHeartbeats 4000000 in
theorem c_X6_check (hG : fl G = false) (hd : 12 ≤ d) {N : Nat} (hN : N ≤ 24) (e6 : rd (m 76) 6 = Int32.ofNat N) (hw : WF (wr (m 76) 6 0)) (k1 : 1 ≤ c ∧ c ≤ 15 → ∀ m', Fr [76, 78, 81, 82] m m' → m' 76 = wr (m 76) 6 0 → K (some (.int (ckA (wr (m 76) 6 0) c (fun j => m 76 (478 + j)) 0 N))) m') (k2 : ¬ (1 ≤ c ∧ c ≤ 15) → K (some (.int (-1000000001))) (set1 (set1 m 76 (wr (m 76) 6 0)) 79 (wr (m 79) 1 (rd (m 79) 1 + 1)))) : Cal G mX6_check d [.ref 75, .int c] SH (TA t n i) m K := by
  obtain ⟨d, rfl⟩ : ∃ e, d = e + 1 := ⟨d - 1, by omega⟩
  refine Cal.of (by decide +kernel) rfl (Nat.le_of_ble_eq_true rfl) (rg_X6_check_0 hG 75 c ⟨rfl, 76, rfl, 502, rfl, ib502 (by decide) (by decide), ib502 (by decide) (by decide), ?_⟩)
  rintro _ rfl
  rw [upa_set, e6]
  have hi : ∀ j, 478 ≤ j → wr (m 76) 6 0 j = m 76 j := by
    intro j hj
    rw [show (6 : Int32) = Int32.ofNat 6 from rfl, wr_o (by omega)]
    exact if_neg (by omega)
  generalize hF : wr (m 76) 6 0 = F at *
  refine c_X6_isOpen hG (by omega) ⟨_, rfl, fun q => ?_, fun q => c_X6_error hG (by omega) (by decide) ⟨_, rfl, ?_⟩⟩
  · have hc := b1 q
    have kk := k1 hc
    refine c_X6_layDown hG (by omega) (ii := 0) (by omega) ⟨rfl, ?_⟩
    generalize hM : set1 (set1 m 76 F) 78 (cpN (set1 m 76 F 78) (set1 m 76 F 76) (168 * 0) 0 168) = M
    have f0 : Fr [76, 78, 81, 82] m M := by rw [← hM]; exact (Fr.s1 (by decide)).tr (Fr.s1 (by decide))
    have m76 : M 76 = F := by rw [← hM, set1_ne (by decide), set1_eq]
    have m78 : ∀ j, j < 168 → M 78 j = F j := by
      intro j hj
      rw [← hM, set1_eq, set1_eq, cpN, if_pos (by omega), show 0 + (j - 168 * 0) = j by omega]
    have out : ∀ (m' : Mem) (j : Nat) (v : Int32) {e : Nat}, 1 ≤ e → Fr [76, 81, 82] M m' → (∀ j, 168 ≤ j → m' 76 j = F j) → j ≤ N → ckA F c (fun j => m 76 (478 + j)) 0 N = (if j = N then 0 else 1 + Int32.ofNat j) → Cal G mX6_layBack e [.ref 75, .int 0] SH (TA t n i) m' (fun v2 m3 => v2 = none ∧ ((¬ Int32.ofNat j = Int32.ofNat N → K (some (.int (1 + Int32.ofNat j))) m3) ∧ (Int32.ofNat j = Int32.ofNat N → K (some (.int 0)) m3))) := by
      intro m' j v e he hf hh hj hr
      refine c_X6_layBack hG (by omega) (ii := 0) (by omega) ⟨rfl, ?_⟩
      have hb : cpN (m' 76) (m' 78) 0 (168 * 0) 168 = F := back_eq (fun y hy => by rw [show 168 * 0 + y = y by omega, hf 78 (by decide), m78 y hy]) hh
      rw [hb]
      have kk := kk (set1 m' 76 F) (f0.tr ((hf.mo (by simp)).tr (Fr.s1 (by decide)))) set1_eq
      rw [hr] at kk
      refine ⟨fun h => ?_, fun h => ?_⟩
      · rw [if_neg (fun o => h (by rw [o]))] at kk
        exact kk
      · rw [if_pos ((o_eq (by omega) (by omega)).mp h)] at kk
        exact kk
    have loop : ∀ (e j : Nat), j + e = N → ∀ (m' : Mem), Fr [76, 81, 82] M m' → WF (m' 76) → (∀ j, 168 ≤ j → m' 76 j = F j) → ckA F c (fun j => m 76 (478 + j)) 0 N = ckA (m' 76) c (fun j => m 76 (478 + j)) j e → WP G (rmD (d + 1) 0 0) mX6_check (QC G SH (TA t n i) K) 0 0 36 [(0, .ref 75), (1, .int c), (2, .int (Int32.ofNat N)), (3, .int (Int32.ofNat j))] [] (SH, TA t n i, m') := by
      intro e
      induction e with
      | zero =>
        intro j hj m' hf hw' hh hr
        have hr : ckA F c (fun j => m 76 (478 + j)) 0 N = 0 := hr
        refine rg_X6_check_36 hG 75 c _ _ ⟨fun _ => ⟨rfl, out m' j 0 (by omega) hf hh (by omega) (by rw [hr, if_pos (by omega)])⟩, fun o => absurd ?_ o⟩
        rw [o_le (by omega) (by omega)]; omega
      | succ e ih =>
        intro j hj m' hf hw' hh hr
        refine rg_X6_check_36 hG 75 c _ _ ⟨fun o => ?_, fun _ => ⟨rfl, 76, rfl, 502, rfl, ?_, ?_⟩⟩
        · rw [o_le (by omega) (by omega)] at o; omega
        · rw [show (478 : Int32) + Int32.ofNat j = Int32.ofNat (478 + j) from o_add 478 j]; exact ib_o (by omega) (by decide)
        rw [show (478 : Int32) + Int32.ofNat j = Int32.ofNat (478 + j) from o_add 478 j, rd_o (by omega), hh _ (by omega), hi _ (by omega)]
        have hp := pul_ok hw' hc
        refine c_X6_does hG (by omega) hw' ⟨Int32.le_trans (by decide) hc.1, hc.2⟩ (fun m2 hf2 => ⟨_, rfl, fun h => ?_, fun h => ?_⟩)
        · have m2e : m2 76 = m' 76 := hf2 76 (by decide)
          exact out m2 j 0 (by omega) (hf.tr (hf2.mo (by simp))) (by rw [m2e]; exact hh) (by omega) (by rw [hr, ckA, if_neg h, if_neg (by omega)])
        · have m2e : m2 76 = m' 76 := hf2 76 (by decide)
          refine c_X6_pulls1 hG (by omega) (by rw [m2e]; exact hw') hc (fun m3 hf3 e3 => ⟨_, rfl, ?_⟩)
          rw [m2e] at e3
          rw [o_1]
          exact ih (j + 1) (by omega) m3 (hf.tr ((hf2.mo (by simp)).tr (hf3.mo (by simp)))) (by rw [e3]; exact hp.1) (fun j hj => by rw [e3, hp.2.2.1 j hj]; exact hh j hj) (by rw [hr, ckA, if_pos h, e3])
    exact loop N 0 (by omega) M Fr.rf (by rw [m76]; exact hw) (fun j _ => by rw [m76]) (by rw [m76])
  · have := k2 (b0 q)
    rw [set1_ne (by decide)]
    exact this
set_option maxHeartbeats 4000000 in
theorem J_check (hG : fl G = false) (hd : 20 ≤ d) (hV : jV m) : JJ G d t n i mX5_check mX6_check [.int c] m := by
  obtain ⟨d, rfl⟩ : ∃ e, d = e + 1 := ⟨d - 1, by omega⟩
  have hV' := hV
  obtain ⟨⟨⟨hb, ht, hw⟩, h13, hta, hwa, hTB⟩, hK, hS, hE, hT⟩ := hV
  have hn := hw.2.2.1
  obtain ⟨N, hN, eN⟩ := oN' (N := 24) hn.2.2.2.2.2.1 hn.2.2.2.2.2.2 (by decide)
  have e5 : m 5 1 = Int32.ofNat N := by rw [hwa.1, eN]
  have wo : wr (m 76) 6 0 = fun j => if j = 6 then 0 else m 76 j := wr_o (k := 6) (by decide)
  have hTp : TpE (m 76) (wr (m 76) 6 0) := by
    intro j _ _ h6
    rw [wo]
    exact if_neg h6
  have r6 : rd (wr (m 76) 6 0) 6 = 0 := by rw [wo]; rfl
  have r5 : rd (wr (m 76) 6 0) 5 = rd (m 76) 5 := by rw [wo]; rfl
  have hnF : WN (wr (m 76) 6 0) := by
    have a := hn
    unfold WN at a ⊢
    rw [r6, r5, show rd (wr (m 76) 6 0) 1 = rd (m 76) 1 from hTp.rd (j := 1) (by decide) (by decide) (by decide), show rd (wr (m 76) 6 0) 2 = rd (m 76) 2 from hTp.rd (j := 2) (by decide) (by decide) (by decide), show rd (wr (m 76) 6 0) 3 = rd (m 76) 3 from hTp.rd (j := 3) (by decide) (by decide) (by decide), show rd (wr (m 76) 6 0) 4 = rd (m 76) 4 from hTp.rd (j := 4) (by decide) (by decide) (by decide)]
    exact ⟨a.1, a.2.1, a.2.2.1, a.2.2.2.1, a.2.2.2.2.1, by decide, by decide⟩
  have hwF := hTp.wf hw hnF
  have hi : ∀ j, 7 ≤ j → wr (m 76) 6 0 j = m 76 j := by
    intro j hj
    rw [wo]
    exact if_neg (by omega)
  have fin : ∀ (m2 : Mem), Fr (5 :: 76 :: 34 :: 79 :: jO) m m2 → jE m2 → m2 5 1 = 0 → m2 76 = wr (m 76) 6 0 → jV m2 := by
    intro m2 hf hE2 h51 h76
    refine hV'.tp (hf.mo (fun a ha => by simp only [List.mem_cons] at ha ⊢; rcases ha with h | h | h | h | h <;> simp [h])) (by rw [hf 75 (by decide)]) (by rw [hf 75 (by decide)]) hE2 (by rw [h76]; exact hTp) (by rw [h76]; exact hnF) ?_ ?_ (by rw [h76]; exact fun j hj => by rw [hi (418 + j) (by omega)]; exact hTB j hj)
    · rw [h76, r5]
      have t1 := hta.fr (hf 1 (by decide)) (hf 2 (by decide))
      refine ⟨t1.1, fun j j0 j1 => ?_⟩
      rw [t1.2 j j0 j1]
      exact (hi (418 + j) (by omega)).symm
    · rw [h76, r6]
      refine ⟨h51, fun j j0 j1 => ?_⟩
      exact absurd j1 (Int32.not_lt.mpr (o_0 j (by omega)))
  refine Cal.of (by decide +kernel) rfl (Nat.le_of_ble_eq_true rfl) (rg_X5_check_0 hG 0 c (c_X5_isPile hG (by omega) ⟨_, rfl, fun q => ⟨rfl, c_X5_refuse hG (by omega) (by decide) ⟨_, rfl, 5, rfl, rfl, c_X2_clear hG (by omega) rfl ⟨rfl, _, rfl, ?_⟩⟩⟩, fun q => ⟨rfl, ?_⟩⟩))
  · generalize hm1 : up2 (set1 m 34 (wr (m 34) 1 (rd (m 34) 1 + 1))) 5 1 0 = m1
    have f1 : Fr [34, 5] m m1 := by rw [← hm1]; exact (Fr.s1 (by decide)).tr (Fr.u2 (by decide))
    have e76 : m1 76 = m 76 := f1 76 (by decide)
    refine c_X6_check hG (by omega) hN (by rw [e76]; exact eN) (by rw [e76]; exact hwF) (fun h => absurd h (b0 q)) (fun _ => ⟨rfl, ?_⟩)
    rw [e76]
    have f2 : Fr [76] m1 (set1 m1 76 (wr (m 76) 6 0)) := Fr.s1 (by decide)
    have e79 : set1 m1 76 (wr (m 76) 6 0) 79 = m 79 := by rw [set1_ne (by decide), f1 79 (by decide)]
    have hEE := jE.e2 (m1 := m) (m2 := set1 m1 76 (wr (m 76) 6 0)) (e := 1) hE (by decide) rfl (by rw [set1_ne (by decide), ← hm1, up2_ne (by decide), set1_eq]) e79
    rw [show set1 m1 76 (wr (m 76) 6 0) 79 = m1 79 from set1_ne (by decide)] at hEE
    refine fin _ ?_ hEE ?_ ?_
    · exact (f1.mo (by simp)).tr ((f2.mo (by simp)).tr (Fr.s1 (by simp)))
    · rw [set1_ne (by decide), set1_ne (by decide), ← hm1, up2_eq, if_pos rfl]
    · rw [set1_ne (by decide), set1_eq]
  · have hc := b1 q
    refine c_X5_checked hG (by omega) (hTp.rb hw hb) (hTp.rt hw ht) hwF hc hN e5 (w := fun j => m 76 (478 + j)) (fun j hj => hwa.2 j (by omega) (by rw [eN]; exact (o_lt (by omega) (by omega)).mpr hj)) (fun m1 hf1 => ⟨_, rfl, 5, rfl, rfl, c_X2_clear hG (by omega) rfl ⟨rfl, _, rfl, ?_⟩⟩)
    have f1 : Fr (5 :: jO) m (up2 m1 5 1 0) := (hf1.mo (by decide)).tr (Fr.u2 (by decide))
    have e76 : up2 m1 5 1 0 76 = m 76 := f1 76 (by decide)
    refine c_X6_check hG (by omega) hN (by rw [e76]; exact eN) (by rw [e76]; exact hwF) (fun _ m2 hf2 h2 => ⟨by rw [e76], ?_⟩) (fun h => absurd hc h)
    rw [e76] at h2
    have ff : Fr (5 :: 76 :: jO) m m2 := (f1.mo (fun a ha => by simp only [List.mem_cons] at ha ⊢; rcases ha with h | h <;> simp [h])).tr (hf2.mo (by decide))
    refine fin m2 (ff.mo (fun a ha => by simp only [List.mem_cons] at ha ⊢; rcases ha with h | h | h <;> simp [h])) (hE.fr ff (by decide) (by decide)) ?_ h2
    rw [hf2 5 (by decide), up2_eq, if_pos rfl]
end

