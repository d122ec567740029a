-- 50.changedC
set_option maxHeartbeats 4000000 in
theorem c_X5_changed {G : Gm} {t n i : Nat} (hG : fl G = false) {d : Nat} {x : Int32} {m : Mem} {K : Option Value → Mem → Prop} {f g z u : Nat → Int32} (hd : 11 ≤ d) (hs : ShC m g z u) (hz : ShZ z) (hb : RB m 35 44 f) (ht : RT m 36 40 f) (hw : WF f) (k : Ans [36, 39, 40, 43, 67, 68, 69, 70, 71, 72, 73, 74] 34 m K (chR g z u x f)) : Cal G mX5_changed d [.ref 0, .int x] SH (TA t n i) m K := by
  obtain ⟨d, rfl⟩ : ∃ e, d = e + 1 := ⟨d - 1, by omega⟩
  have hl := lkS_eq (x := x) hs
  refine Cal.of (by decide +kernel) rfl (Nat.le_of_ble_eq_true rfl) (rg_X5_changed_0 hG 0 x ⟨rfl, c_X5_lackOf hG (by omega) ⟨_, rfl, fun q => ?_, fun q => ?_⟩⟩)
  · rw [hl] at q
    obtain ⟨xx, h4, rfl, -⟩ := lkS_0 q
    obtain ⟨zz, hzz, ez⟩ := hz xx h4
    obtain ⟨r1, r2, r3, r4⟩ := rowS (t := t) (n := n) (i := i) xx h4
    rw [chR, if_pos q] at k
    have h16 := hw.1.1
    obtain ⟨nn, en, hn⟩ : ∃ nn : Nat, rd f 0 = Int32.ofNat nn ∧ nn ≤ 16 := by
      have a := Int32.le_iff_toInt_le.mp h16.1
      have b := Int32.le_iff_toInt_le.mp h16.2
      rw [show (0 : Int32).toInt = 0 from rfl] at a
      rw [show (16 : Int32).toInt = 16 from rfl] at b
      have e := o_of h16.1
      have e2 : (rd f 0).toNatClampNeg = (rd f 0).toInt.toNat := rfl
      exact ⟨_, e, by omega⟩
    unfold chP rwN at k
    rw [tn_o (by omega), rd_o (by omega), ez, tn_o (by omega), en, tn_o (by omega)] at k
    have hu : ∀ j, j < zz → m (24 + 2 * xx + 1) j = u (24 * xx + j) := fun j hj => (hs xx h4).2.2 j (by rw [ez]; exact (o_lt (by omega) (by omega)).mpr hj) (by omega)
    have er : rwf (m (24 + 2 * xx + 1)) 0 zz = rwf (fun j => u (24 * xx + j)) 0 zz := rwf_eq zz 0 (fun j _ hj => hu j (by omega))
    have eh : ∀ f' : Nat → Int32, hls (m (24 + 2 * xx + 1)) f' 0 0 (rwf (m (24 + 2 * xx + 1)) 0 zz) = hls (fun j => u (24 * xx + j)) f' 0 0 (rwf (fun j => u (24 * xx + j)) 0 zz) := fun f' => by
      rw [er, hls_eq (w := m (24 + 2 * xx + 1)) (v := fun j => u (24 * xx + j)) _ 0 f' 0 (fun j _ hj => hu j (by have := rwf_le (w := fun j => u (24 * xx + j)) zz 0; omega))]
    have em : m (24 + 2 * xx) 1 = Int32.ofNat zz := by rw [(hs xx h4).2.1, ez]
    generalize hW : (fun j => u (24 * xx + j)) = W at *
    generalize hNe : rwf W 0 zz = N at *
    have FH : ∀ {m' : Mem} {f' : Nat → Int32} {e : Nat} {K' : Option Value → Mem → Prop}, 9 ≤ e → Fr [36, 39, 40, 43, 67, 68, 69, 70, 71, 72, 73, 74] m m' → RB m' 67 68 f' → RT m' 36 40 f' → WF f' → (∀ m2, Fr [36, 39, 40, 43, 67, 68, 69, 70, 71, 72, 73, 74] m m2 → K' (some (.int (hls W f' 0 0 N))) m2) → Cal G mX5_haulOf e [.ref 67, .ref (24 + 2 * xx)] SH (TA t n i) m' K' := by
      intro m' f' e K' he hf hb' ht' hw' kk
      have e0 : m' (24 + 2 * xx) = m (24 + 2 * xx) := hf _ (by simp; omega)
      have e1 : m' (24 + 2 * xx + 1) = m (24 + 2 * xx + 1) := hf _ (by simp; omega)
      refine c_X5_haulOf hG he (by omega) r1 r2 r3 (by rw [e0, em]) hzz hb' ht' hw' (fun m2 hf2 => ?_)
      rw [e1, eh f']
      exact kk m2 (hf.tr (hf2.mo (by simp)))
    have inner : ∀ (ii : Nat), ii < nn → ∀ (e j : Nat), j + e = nn → ∀ (m' : Mem) (p : Int32 × Int32), Fr [36, 39, 40, 43, 67, 68, 69, 70, 71, 72, 73, 74] m m' → (p.1 = -1 ∨ 0 ≤ p.1) → (∀ m2 p2, p2 = chJ W N f ii p j e → (p2.1 = -1 ∨ 0 ≤ p2.1) → Fr [36, 39, 40, 43, 67, 68, 69, 70, 71, 72, 73, 74] m m2 → WP G (rmD (d + 1) 0 0) mX5_changed (QC G SH (TA t n i) K) 0 0 50 [(0, .ref 0), (3, .ref (24 + 2 * xx)), (4, .int p2.2), (5, .int p2.1), (6, .int (Int32.ofNat (ii + 1)))] [] (SH, TA t n i, m2)) → WP G (rmD (d + 1) 0 0) mX5_changed (QC G SH (TA t n i) K) 0 0 68 [(0, .ref 0), (3, .ref (24 + 2 * xx)), (4, .int p.2), (5, .int p.1), (6, .int (Int32.ofNat ii)), (7, .int (Int32.ofNat j))] [] (SH, TA t n i, m') := by
      intro ii hii e
      induction e with
      | zero =>
        intro j hj m' p hf hp kk
        have hb' : RB m' 35 44 f := hb.fr hf (by decide) (by intro j hj; simp; omega)
        refine rg_X5_changed_68 hG 0 _ _ _ _ _ ⟨rfl, 35, rfl, rfl, fun _ => ?_, fun z => absurd ?_ z⟩
        · rw [o_1]; exact kk m' p rfl hp hf
        · rw [hb'.1.1, en, o_le (by omega) (by omega)]; omega
      | succ e ih =>
        intro j hj m' p hf hp kk
        have hb' : RB m' 35 44 f := hb.fr hf (by decide) (by intro j hj; simp; omega)
        have hlt : ¬ m' 35 9 ≤ Int32.ofNat j := fun z => by
          rw [hb'.1.1, en, o_le (by omega) (by omega)] at z
          omega
        have rin : 0 ≤ Int32.ofNat ii ∧ Int32.ofNat ii < rd f 0 := ⟨o_0 _ (by omega), by rw [en]; exact (o_lt (by omega) (by omega)).mpr hii⟩
        have rjn : 0 ≤ Int32.ofNat j ∧ Int32.ofNat j < rd f 0 := ⟨o_0 _ (by omega), by rw [en]; exact (o_lt (by omega) (by omega)).mpr (by omega)⟩
        have go : ∀ (m3 : Mem) (p3 : Int32 × Int32), p3 = chS W N f (Int32.ofNat ii) (Int32.ofNat j) p → Fr [36, 39, 40, 43, 67, 68, 69, 70, 71, 72, 73, 74] m m3 → WP G (rmD (d + 1) 0 0) mX5_changed (QC G SH (TA t n i) K) 0 0 68 [(0, .ref 0), (3, .ref (24 + 2 * xx)), (4, .int p3.2), (5, .int p3.1), (6, .int (Int32.ofNat ii)), (7, .int (Int32.ofNat (j + 1)))] [] (SH, TA t n i, m3) := by
          intro m3 p3 e3 h3
          exact ih (j + 1) (by omega) m3 p3 h3 (by rw [e3]; exact chS_ok (by omega) (by omega) hp) (fun m2 p2 e2 => kk m2 p2 (by rw [e2, e3]; rfl))
        refine rg_X5_changed_68 hG 0 _ _ _ _ _ ⟨rfl, 35, rfl, rfl, fun z => absurd z hlt, fun _ => c_X0_cellOf hG (by omega) B35 hb' h16.2 ⟨_, rfl, ?_⟩⟩
        rw [if_pos rin, o_1]
        refine ⟨fun z1 => go m' p (by rw [chS, if_pos (Or.inl z1)]) hf, fun z1 => c_X0_cellOf hG (by omega) B35 hb' h16.2 ⟨_, rfl, ?_⟩⟩
        rw [if_pos rjn]
        refine ⟨fun z2 => ⟨67, rfl, rfl, ?_⟩, fun z2 => go m' p (by rw [chS, if_pos (Or.inr (Int32.not_le.mp z2))]) hf⟩
        have ci := Int32.not_lt.mp z1
        have sw := sw_wf hw rin ci rjn z2
        refine c_X0_copyFrom hG (by omega) B67 B35 hb' hw.1 hw.2.1 ⟨by decide, Or.inl (by decide)⟩ (fun m3 hf3 hb3 _ _ => ⟨rfl, c_X0_changePlaces hG (by omega) B67 hb3 hw.1 hw.2.1 rin ci rjn z2 (fun m4 hf4 hb4 => ⟨rfl, ?_⟩)⟩)
        have hff : Fr [36, 39, 40, 43, 67, 68, 69, 70, 71, 72, 73, 74] m m4 := hf.tr ((hf3.mo (by simp)).tr (hf4.mo (by simp)))
        have ht4 : RT m4 36 40 (swA f (Int32.ofNat ii) (Int32.ofNat j)) := (ht.fr hff (by decide) (by decide) (by decide) (by decide)).hi sw.2 hw.2.2.2.1 hw.2.2.2.2
        refine FH (by omega) hff hb4 ht4 sw.1 (fun m5 hf5 => ⟨_, rfl, ?_⟩)
        have hS : chS W N f (Int32.ofNat ii) (Int32.ofNat j) p = if p.2 ≤ hls W (swA f (Int32.ofNat ii) (Int32.ofNat j)) 0 0 N then p else (100 * Int32.ofNat ii + Int32.ofNat j, hls W (swA f (Int32.ofNat ii) (Int32.ofNat j)) 0 0 N) := by
          rw [chS, if_neg (fun o => o.elim z1 (Int32.not_lt.mpr z2))]
        exact ⟨fun z3 => go _ p (by rw [hS, if_pos z3]) hf5, fun z3 => go _ (_, _) (by rw [hS, if_neg z3]) hf5⟩
    have outer : ∀ (e ii : Nat), ii + e = nn → ∀ (m' : Mem) (p : Int32 × Int32), Fr [36, 39, 40, 43, 67, 68, 69, 70, 71, 72, 73, 74] m m' → (p.1 = -1 ∨ 0 ≤ p.1) → chI W N f nn (-1, hls W f 0 0 N) 0 nn = chI W N f nn p ii e → WP G (rmD (d + 1) 0 0) mX5_changed (QC G SH (TA t n i) K) 0 0 50 [(0, .ref 0), (3, .ref (24 + 2 * xx)), (4, .int p.2), (5, .int p.1), (6, .int (Int32.ofNat ii))] [] (SH, TA t n i, m') := by
      intro e
      induction e with
      | zero =>
        intro ii hii m' p hf hp hres
        have hb' : RB m' 35 44 f := hb.fr hf (by decide) (by intro j hj; simp; omega)
        have hres : chI W N f nn (-1, hls W f 0 0 N) 0 nn = p := hres
        rw [hres] at k
        refine rg_X5_changed_50 hG 0 _ _ _ _ ⟨rfl, 35, rfl, rfl, fun _ => ⟨fun z => k.ok hf (by rw [if_neg (fun e => by rw [e] at z; exact absurd z (by decide))]), fun z => ?_⟩, fun z => absurd ?_ z⟩
        · exact c_X5_refuse hG (by omega) (by decide) ⟨_, rfl, k.no hf (by rw [if_pos (hp.resolve_right z)]) (by decide)⟩
        · rw [hb'.1.1, en, o_le (by omega) (by omega)]; omega
      | succ e ih =>
        intro ii hii m' p hf hp hres
        have hb' : RB m' 35 44 f := hb.fr hf (by decide) (by intro j hj; simp; omega)
        have hlt : ¬ m' 35 9 ≤ Int32.ofNat ii := fun z => by
          rw [hb'.1.1, en, o_le (by omega) (by omega)] at z
          omega
        refine rg_X5_changed_50 hG 0 _ _ _ _ ⟨rfl, 35, rfl, rfl, fun z => absurd z hlt, fun _ => ?_⟩
        rw [o_1]
        refine inner ii (by omega) (nn - (ii + 1)) (ii + 1) (by omega) m' p hf hp (fun m2 p2 e2 h2 hf2 => ih (ii + 1) (by omega) m2 p2 hf2 h2 ?_)
        rw [hres, e2]
        rfl
    refine ⟨23, rfl, 4, rfl, ib_o h4 (by decide), 24 + 2 * xx, by rw [tn_o (by omega)]; exact r4, 67, rfl, 35, rfl, rfl, ?_⟩
    refine c_X0_copyFrom hG (by omega) B67 B35 hb hw.1 hw.2.1 ⟨by decide, Or.inl (by decide)⟩ (fun m1 hf1 hb1 _ _ => ⟨rfl, ?_⟩)
    have hff : Fr [36, 39, 40, 43, 67, 68, 69, 70, 71, 72, 73, 74] m m1 := hf1.mo (by simp)
    exact FH (by omega) hff hb1 (ht.fr hff (by decide) (by decide) (by decide) (by decide)) hw (fun m2 hf2 => ⟨_, rfl, outer nn 0 (by omega) m2 (-1, _) hf2 (Or.inl rfl) rfl⟩)
  · rw [hl] at q ⊢
    have hn := lkS_n q
    exact c_X5_refuse hG (by omega) hn ⟨_, rfl, k.no Fr.rf (by rw [chR, if_neg q]) q⟩

