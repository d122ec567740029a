-- 34.takeback
set_option maxHeartbeats 4000000 in
theorem ar_u16 {u n : Int32} (h : u < n) (h2 : n ≤ 16) : u < 16 := by lia
set_option maxHeartbeats 4000000 in
theorem ar_s5 {s : Int32} (h : 0 ≤ s ∧ s ≤ 5) (h2 : s ≠ 5) : s < 5 := by lia
set_option maxHeartbeats 4000000 in
theorem ar_dec {s : Int32} (h : 0 ≤ s ∧ s ≤ 5) (h2 : 0 < s) : 0 ≤ s - 1 ∧ s - 1 < 5 := by lia
set_option maxHeartbeats 4000000 in
theorem ar_n1 {s : Int32} (h : 0 ≤ s) (h2 : s ≠ 0) : 1 ≤ s := by lia
set_option maxHeartbeats 4000000 in
theorem ar_y5 {y s : Int32} (h : y < s) (h2 : s ≤ 5) : y < 5 := by lia
section
variable {G : Gm} {d : Nat} {sh : List Shp} {ta : Nat → Nat → Option Nat} {m : Mem} {K : Option Value → Mem → Prop}
set_option maxHeartbeats 4000000 in
theorem c_X0_takeBack (hG : fl G = false) (hd : 5 ≤ d) {b a t1 t2 : Nat} {f : Nat → Int32} {c o u p : Int32} (h1 : BXo sh ta b a t1 t2) (h2 : WF f) (h3 : 1 ≤ c ∧ c ≤ 15) (h4 : RB m b a (pulA f c)) (h5 : o = doe f c) (h6 : u = upm f c) (h7 : p = rd f 2) (k : ∀ m', Fr [b, a + 3, a + 4, a + 5, a + 6] m m' → RB m' b a f → K none m') : Cal G mX0_takeBack d [.ref b, .int c, .int o, .int u, .int p] sh ta m K := by
  obtain ⟨w1, w2, w3, w4, w5⟩ := id h2
  have c0 : 0 ≤ c ∧ c ≤ 15 := ⟨by clear k; lia, h3.2⟩
  have hp := pul_ok h2 h3
  have hlt := h1.2.2.2.2.2.2.2.2.2.1
  have n16 := w1.1.2
  have q0 := hp.2.1
  have q3 := hp.2.2.2.1 3 (by decide) (by decide) (by decide) (by decide)
  have q4 := hp.2.2.2.1 4 (by decide) (by decide) (by decide) (by decide)
  obtain ⟨d, rfl⟩ : ∃ e, d = e + 1 := ⟨d - 1, by omega⟩
  refine Cal.of (by decide +kernel) rfl (Nat.le_of_ble_eq_true rfl) (rg_X0_takeBack_0 hG b c o u p ?_)
  rw [h5, h6, h7]
  by_cases d1 : doe f c = 1
  · refine ⟨fun z => absurd d1 z, fun _ => ⟨h1.1, ?_⟩⟩
    have d2 : ¬ doe f c = 2 := by rw [d1]; decide
    obtain ⟨a1, a2, a3, a4⟩ := upm_ok w2 c0 (doe_u (Or.inl d1))
    have hn := nea_ok h3.1 h3.2
    have T1 := takA_ok (to := -2) w1 w2 a1 (by rw [a2]; exact c0.1)
    have hd := doe_1 d1
    have n1 : 1 ≤ nea c ∧ nea c ≤ 15 ∧ nea c ≠ c := ⟨ar_n1 hn.1 hd.1, Int32.le_trans hn.2.1 (by decide), fun z => by have q := hn.2.2.2; rw [z] at q; exact Int32.lt_irrefl q⟩
    have hs := (T1.2.2.2 (nea c) hn.1 n1.2.1).1
    rw [a2, if_neg n1.2.2] at hs
    have hb := (w2 (nea c) hn.1 n1.2.1).1
    have u16 : upm f c < 16 := ar_u16 a1.2 n16
    have hs5 : sz f (nea c) < 5 := ar_s5 hb hd.2
    have L1 := layA_ok (f := takA f (upm f c) (-2)) (t := upm f c) (c := nea c) ⟨a1.1, u16⟩ ⟨hn.1, n1.2.1⟩ ⟨by rw [hs]; exact hb.1, by rw [hs]; exact hs5⟩
    have E1 := fin_eqv (layA (takA f (upm f c) (-2)) (upm f c) (nea c))
    have ef : pulA f c = fin (layA (takA f (upm f c) (-2)) (upm f c) (nea c)) := by rw [pulA, midA, if_neg d2, if_pos d1]
    rw [← ef] at E1
    have uf : upm f c < rd (pulA f c) 0 := by rw [q0]; exact a1.2
    have hcu1 : its (pulA f c) (upm f c) 3 = nea c := by
      rw [E1.1 _ 3 a1.1 u16 (by decide) (by decide), L1.2.2.1 _ 3 a1.1 u16 (by decide) (by decide), if_pos ⟨rfl, rfl⟩]
    have T2 := takA_ok (to := -2) hp.1.1 hp.1.2.1 ⟨a1.1, uf⟩ (by rw [hcu1]; exact hn.1)
    have hg2 := hgt_ok hp.1.1 hp.1.2.1 ⟨a1.1, uf⟩ (by rw [hcu1]; exact hn.1)
    have scg : 0 ≤ sz (takA (pulA f c) (upm f c) (-2)) c ∧ sz (takA (pulA f c) (upm f c) (-2)) c < 5 := by
      rw [(T2.2.2.2 c c0.1 c0.2).1, hcu1, if_neg (fun z => n1.2.2 z.symm), (E1.2 c c0.1 c0.2).1, (L1.2.2.2 c c0.1 c0.2).1, if_neg (fun z => n1.2.2 z.symm), (T1.2.2.2 c c0.1 c0.2).1, a2, if_pos rfl]
      exact ar_dec (w2 c c0.1 c0.2).1 a3
    have L2 := layA_ok (f := takA (pulA f c) (upm f c) (-2)) (t := upm f c) (c := c) ⟨a1.1, u16⟩ c0 scg
    obtain ⟨z1, z2, z3, z4, z5⟩ := undo1 w1 w2 c0 ⟨hn.1, n1.2.1⟩ n1.2.2 ⟨a1.1, u16⟩ a1.2 a2 a4 a3 hs5 T1 L1 E1 hp.1.1 hp.1.2.1 q0 T2 L2
    have t1' := T2.wt hp.1.1 hp.1.2.1 ⟨a1.1, uf⟩ (Or.inr rfl) (fun _ => ⟨hg2.1, hg2.2.1, hg2.2.2.1⟩)
    have t2' := T2.wc hp.1.1 hp.1.2.1 ⟨a1.1, uf⟩ ⟨hg2.1, hg2.2.1, hg2.2.2.1⟩
    rw [← T2.1 0 (by decide) (by decide)] at t1' t2'
    refine c_X0_take hG (by omega) h1 h4 hp.1.1 hp.1.2.1 ⟨a1.1, uf⟩ (by rw [hcu1]; exact hn.1) T2 (fun m2 hf2 hr2 => ⟨rfl, fun _ => ?_, fun z => absurd d1 z⟩)
    refine c_X0_lower hG (by omega) h1 hr2 t1' t2' ⟨a1.1, by rw [T2.1 0 (by decide) (by decide)]; exact uf⟩ (by rw [z3]; decide) c0 z4 L2 (fun m3 hf3 hr3 => ⟨rfl, ?_⟩)
    rintro _ rfl
    refine k _ ((hf2.mo (by simp)).tr ((hf3.mo (by simp)).tr (Fr.u2 (by simp)))) (hr3.setp hlt ?_ ?_ ?_ n16 z1 z2)
    · rw [L2.1 0 (by decide) (by decide), T2.1 0 (by decide) (by decide), q0]
    · rw [L2.1 3 (by decide) (by decide), T2.1 3 (by decide) (by decide), q3]
    · rw [L2.1 4 (by decide) (by decide), T2.1 4 (by decide) (by decide), q4]
  · refine ⟨fun _ => ⟨fun z => absurd z d1, fun _ => ⟨fun d2 => ⟨h1.1, ?_⟩, fun d2 => ⟨h1.1, ?_⟩⟩⟩, fun z => absurd z d1⟩
    · rintro _ rfl
      have ef : pulA f c = fin f := by rw [pulA, midA, if_neg d2, if_neg d1]
      have E1 := fin_eqv f
      rw [← ef] at E1
      refine k _ (Fr.u2 (by simp)) (h4.setp hlt q0 q3 q4 n16 E1.1 (fun d d0 d1 => ⟨(E1.2 d d0 d1).1, fun y y0 y1 => (E1.2 d d0 d1).2 y y0 ?_⟩))
      exact ar_y5 y1 (w2 d d0 d1).1.2
    · obtain ⟨a1, a2, a3, a4⟩ := upm_ok w2 c0 (doe_u (Or.inr d2))
      have u16 : upm f c < 16 := ar_u16 a1.2 n16
      have T1 := takA_ok (to := -1) w1 w2 a1 (by rw [a2]; exact c0.1)
      have ef : pulA f c = fin (takA f (upm f c) (-1)) := by rw [pulA, midA, if_pos d2]
      have E1 := fin_eqv (takA f (upm f c) (-1))
      rw [← ef] at E1
      have scg : 0 ≤ sz (pulA f c) c ∧ sz (pulA f c) c < 5 := by
        rw [(E1.2 c c0.1 c0.2).1, (T1.2.2.2 c c0.1 c0.2).1, a2, if_pos rfl]
        exact ar_dec (w2 c c0.1 c0.2).1 a3
      have L2 := layA_ok (f := pulA f c) (t := upm f c) (c := c) ⟨a1.1, u16⟩ c0 scg
      obtain ⟨z1, z2, z3, z4⟩ := undo2 w1 w2 c0 ⟨a1.1, u16⟩ a2 a4 a3 T1 E1 L2
      refine c_X0_lower hG (by omega) h1 h4 hp.1.1 hp.1.2.1 ⟨a1.1, by rw [q0]; exact a1.2⟩ (by rw [z3]; decide) c0 z4 L2 (fun m3 hf3 hr3 => ⟨rfl, ?_⟩)
      rintro _ rfl
      refine k _ ((hf3.mo (by simp)).tr (Fr.u2 (by simp))) (hr3.setp hlt ?_ ?_ ?_ n16 z1 z2)
      · rw [L2.1 0 (by decide) (by decide), q0]
      · rw [L2.1 3 (by decide) (by decide), q3]
      · rw [L2.1 4 (by decide) (by decide), q4]
end

