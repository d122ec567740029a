-- 49.changed
-- one change of two things, and what it would haul
def chS (w : Nat → Int32) (N : Nat) (f : Nat → Int32) (i j : Int32) (p : Int32 × Int32) : Int32 × Int32 := if its f i 3 < 0 ∨ its f j 3 < 0 then p else if p.2 ≤ hls w (swA f i j) 0 0 N then p else (100 * i + j, hls w (swA f i j) 0 0 N)
def chJ (w : Nat → Int32) (N : Nat) (f : Nat → Int32) (i : Nat) (p : Int32 × Int32) (j : Nat) (k : Nat) : Int32 × Int32 := match k with
  | 0 => p
  | e + 1 => chJ w N f i (chS w N f (Int32.ofNat i) (Int32.ofNat j) p) (j + 1) e
def chI (w : Nat → Int32) (N : Nat) (f : Nat → Int32) (n : Nat) (p : Int32 × Int32) (i : Nat) (k : Nat) : Int32 × Int32 := match k with
  | 0 => p
  | e + 1 => chI w N f n (chJ w N f i p (i + 1) (n - (i + 1))) (i + 1) e
def chP (z u : Nat → Int32) (x : Int32) (f : Nat → Int32) : Int32 × Int32 := chI (fun j => u (24 * x.toNatClampNeg + j)) (rwN z u x) f (rd f 0).toNatClampNeg (-1, hls (fun j => u (24 * x.toNatClampNeg + j)) f 0 0 (rwN z u x)) 0 (rd f 0).toNatClampNeg
def chR (g z u : Nat → Int32) (x : Int32) (f : Nat → Int32) : Int32 × Int32 := if lkS g x = 0 then if (chP z u x f).1 = -1 then (2, 0) else (0, (chP z u x f).1) else (lkS g x, 0)
-- the best change is none yet, or two things in order
set_option maxHeartbeats 4000000 in
theorem chS_ok {w : Nat → Int32} {N : Nat} {f : Nat → Int32} {i j : Nat} {p : Int32 × Int32} (hi : i < 16) (hj : j < 16) (h : p.1 = -1 ∨ 0 ≤ p.1) : (chS w N f (Int32.ofNat i) (Int32.ofNat j) p).1 = -1 ∨ 0 ≤ (chS w N f (Int32.ofNat i) (Int32.ofNat j) p).1 := by
  unfold chS
  split
  · exact h
  · split
    · exact h
    · right
      show 0 ≤ 100 * Int32.ofNat i + Int32.ofNat j
      rw [show (100 : Int32) = Int32.ofNat 100 from rfl, o_mul, ← Int32.ofNat_add]
      exact o_0 _ (by omega)
set_option maxHeartbeats 4000000 in
theorem c_X6_changed {G : Gm} {t n i : Nat} (hG : fl G = false) {d : Nat} {x : Int32} {m : Mem} {K : Option Value → Mem → Prop} (hd : 10 ≤ d) (hz : ShZ (m 86)) (hw : WF (m 76)) (k : Ans [78, 81, 82] 79 m K (chR (m 85) (m 86) (m 87) x (m 76))) : Cal G mX6_changed d [.ref 75, .int x] SH (TA t n i) m K := by
  obtain ⟨d, rfl⟩ : ∃ e, d = e + 1 := ⟨d - 1, by omega⟩
  refine Cal.of (by decide +kernel) rfl (Nat.le_of_ble_eq_true rfl) (rg_X6_changed_0 hG 75 x ⟨rfl, c_X6_lacks hG (by omega) ⟨_, rfl, fun q => ?_, fun q => ?_⟩⟩)
  · have q := lkS_p.mp q
    obtain ⟨xx, hx, rfl, -⟩ := lkS_0 q
    obtain ⟨zz, hzz, ez⟩ := hz xx hx
    rw [chR, if_pos q] at k
    have h16 := hw.1.1
    obtain ⟨nn, en, hn⟩ : ∃ nn : Nat, rd (m 76) 0 = Int32.ofNat nn ∧ nn ≤ 16 := by
      have a := Int32.le_iff_toInt_le.mp h16.1
      have b := Int32.le_iff_toInt_le.mp h16.2
      rw [show (0 : Int32).toInt = 0 from rfl] at a
      rw [show (16 : Int32).toInt = 16 from rfl] at b
      have e := o_of h16.1
      have e2 : (rd (m 76) 0).toNatClampNeg = (rd (m 76) 0).toInt.toNat := rfl
      exact ⟨_, e, by omega⟩
    unfold chP rwN at k
    rw [tn_o (by omega), rd_o (by omega), ez, tn_o (by omega), en, tn_o (by omega)] at k
    refine c_X6_hauls hG (by omega) hx ez hzz hw (fun m1 hf1 _ => ⟨_, rfl, ?_⟩)
    generalize hW : (fun j => m 87 (24 * xx + j)) = W at *
    generalize hNe : rwf W 0 zz = N at *
    have inner : ∀ (ii : Nat), ii < nn → ∀ (e j : Nat), j + e = nn → ∀ (m' : Mem) (p : Int32 × Int32), Fr [78, 81, 82] m m' → (p.1 = -1 ∨ 0 ≤ p.1) → (∀ m2 p2, p2 = chJ W N (m 76) ii p j e → (p2.1 = -1 ∨ 0 ≤ p2.1) → Fr [78, 81, 82] m m2 → WP G (rmD (d + 1) 0 0) mX6_changed (QC G SH (TA t n i) K) 0 0 28 [(0, .ref 75), (1, .int (Int32.ofNat xx)), (3, .int p2.1), (4, .int p2.2), (5, .int (Int32.ofNat (ii + 1)))] [] (SH, TA t n i, m2)) → WP G (rmD (d + 1) 0 0) mX6_changed (QC G SH (TA t n i) K) 0 0 45 [(0, .ref 75), (1, .int (Int32.ofNat xx)), (3, .int p.1), (4, .int p.2), (5, .int (Int32.ofNat ii)), (6, .int (Int32.ofNat j))] [] (SH, TA t n i, m') := by
      intro ii hii e
      induction e with
      | zero =>
        intro j hj m' p hf hp kk
        have h76 : m' 76 = m 76 := hf 76 (by decide)
        refine rg_X6_changed_45 hG 75 _ _ _ _ _ ⟨rfl, 76, rfl, 502, rfl, ib502 (by decide) (by decide), fun _ => ?_, fun z => absurd ?_ z⟩
        · rw [o_1]; exact kk m' p rfl hp hf
        · rw [h76, en, o_le (by omega) (by omega)]; omega
      | succ e ih =>
        intro j hj m' p hf hp kk
        have h76 : m' 76 = m 76 := hf 76 (by decide)
        have hlt : ¬ rd (m' 76) 0 ≤ Int32.ofNat j := fun z => by
          rw [h76, en, o_le (by omega) (by omega)] at z
          omega
        have ri : 0 ≤ Int32.ofNat ii ∧ Int32.ofNat ii < 16 := ⟨o_0 _ (by omega), (o_lt (b := 16) (by omega) (by decide)).mpr (by omega)⟩
        have rj : 0 ≤ Int32.ofNat j ∧ Int32.ofNat j < 16 := ⟨o_0 _ (by omega), (o_lt (b := 16) (by omega) (by decide)).mpr (by omega)⟩
        have go : ∀ (m3 : Mem) (p3 : Int32 × Int32), p3 = chS W N (m 76) (Int32.ofNat ii) (Int32.ofNat j) p → Fr [78, 81, 82] m m3 → WP G (rmD (d + 1) 0 0) mX6_changed (QC G SH (TA t n i) K) 0 0 45 [(0, .ref 75), (1, .int (Int32.ofNat xx)), (3, .int p3.1), (4, .int p3.2), (5, .int (Int32.ofNat ii)), (6, .int (Int32.ofNat (j + 1)))] [] (SH, TA t n i, m3) := by
          intro m3 p3 e3 h3
          exact ih (j + 1) (by omega) m3 p3 h3 (by rw [e3]; exact chS_ok (by omega) (by omega) hp) (fun m2 p2 e2 => kk m2 p2 (by rw [e2, e3]; rfl))
        refine rg_X6_changed_45 hG 75 _ _ _ _ _ ⟨rfl, 76, rfl, 502, rfl, ib502 (by decide) (by decide), fun z => absurd z hlt, fun _ => c_X6_its hG (by omega) ri (by decide) ⟨_, rfl, ?_⟩⟩
        rw [h76, o_1]
        refine ⟨fun z1 => go m' p (by rw [chS, if_pos (Or.inl z1)]) hf, fun z1 => c_X6_its hG (by omega) rj (by decide) ⟨_, rfl, ?_⟩⟩
        rw [h76]
        refine ⟨fun z2 => go m' p (by rw [chS, if_pos (Or.inr z2)]) hf, fun z2 => ?_⟩
        have rin : 0 ≤ Int32.ofNat ii ∧ Int32.ofNat ii < rd (m 76) 0 := ⟨ri.1, by rw [en]; exact (o_lt (by omega) (by omega)).mpr hii⟩
        have rjn : 0 ≤ Int32.ofNat j ∧ Int32.ofNat j < rd (m 76) 0 := ⟨rj.1, by rw [en]; exact (o_lt (by omega) (by omega)).mpr (by omega)⟩
        have ci := Int32.not_lt.mp z1
        have cj := Int32.not_lt.mp z2
        have sw := sw_wf hw rin ci rjn cj
        have e19 : (set1 m' 78 (cpN (m' 78) (m' 76) (168 * 1) 0 168)) 76 = m 76 := by rw [set1_ne (by decide), h76]
        refine c_X6_layDown hG (by omega) (ii := 1) (by omega) ⟨rfl, c_X6_changes hG (by omega) (by rw [e19]; exact hw.1) (by rw [e19]; exact hw.2.1) (by rw [e19]; exact rin) (by rw [e19]; exact ci) (by rw [e19]; exact rjn) (by rw [e19]; exact cj) ⟨rfl, ?_⟩⟩
        rw [e19]
        refine c_X6_hauls hG (by omega) hx (by rw [set1_ne (by decide), set1_ne (by decide), hf 86 (by decide), ez]) hzz (by rw [set1_eq]; exact sw.1) (fun m4 hf4 h78 => ⟨_, rfl, c_X6_layBack hG (by omega) (ii := 1) (by omega) ⟨rfl, ?_⟩⟩)
        have e87 : (fun y => set1 (set1 m' 78 (cpN (m' 78) (m' 76) (168 * 1) 0 168)) 76 (swA (m 76) (Int32.ofNat ii) (Int32.ofNat j)) 87 (24 * xx + y)) = W := by
          rw [← hW]; funext y; rw [set1_ne (by decide), set1_ne (by decide), hf 87 (by decide)]
        rw [e87, set1_eq, hNe]
        have hb : cpN (m4 76) (m4 78) 0 (168 * 1) 168 = m 76 := back_eq (fun y hy => by
          rw [h78 _ (by omega), set1_ne (by decide), set1_eq, cpN, if_pos (by omega), h76]
          rw [show 0 + (168 * 1 + y - 168 * 1) = y by omega]) (fun y hy => by rw [hf4 76 (by decide), set1_eq]; exact sw.2 y hy)
        rw [hb]
        have f4 : Fr [78, 81, 82] m (set1 m4 76 (m 76)) := fun a ha => by
          by_cases e : a = 76
          · rw [e, set1_eq]
          · rw [set1_ne e, hf4 a ha, set1_ne e, set1_ne (by simp at ha; omega), hf a ha]
        have hS : chS W N (m 76) (Int32.ofNat ii) (Int32.ofNat j) p = if p.2 ≤ hls W (swA (m 76) (Int32.ofNat ii) (Int32.ofNat j)) 0 0 N then p else (100 * Int32.ofNat ii + Int32.ofNat j, hls W (swA (m 76) (Int32.ofNat ii) (Int32.ofNat j)) 0 0 N) := by
          rw [chS, if_neg (fun o => o.elim z1 z2)]
        refine ⟨fun z3 => ⟨fun _ => go _ p (by rw [hS, if_pos z3]) f4, fun z4 => absurd z3 z4⟩, fun z3 => ⟨fun z4 => absurd z4 z3, fun _ => go _ (_, _) (by rw [hS, if_neg z3]) f4⟩⟩
    have outer : ∀ (e ii : Nat), ii + e = nn → ∀ (m' : Mem) (p : Int32 × Int32), Fr [78, 81, 82] m m' → (p.1 = -1 ∨ 0 ≤ p.1) → chI W N (m 76) nn (-1, hls W (m 76) 0 0 N) 0 nn = chI W N (m 76) nn p ii e → WP G (rmD (d + 1) 0 0) mX6_changed (QC G SH (TA t n i) K) 0 0 28 [(0, .ref 75), (1, .int (Int32.ofNat xx)), (3, .int p.1), (4, .int p.2), (5, .int (Int32.ofNat ii))] [] (SH, TA t n i, m') := by
      intro e
      induction e with
      | zero =>
        intro ii hii m' p hf hp hres
        have h76 : m' 76 = m 76 := hf 76 (by decide)
        have hres : chI W N (m 76) nn (-1, hls W (m 76) 0 0 N) 0 nn = p := hres
        rw [hres] at k
        refine rg_X6_changed_28 hG 75 _ _ _ _ ⟨rfl, 76, rfl, 502, rfl, ib502 (by decide) (by decide), fun _ => ⟨fun z => k.ok hf (by rw [if_neg z]), fun z => ?_⟩, fun z => absurd ?_ z⟩
        · exact c_X6_error hG (by omega) (by decide) ⟨_, rfl, k.no hf (by rw [if_pos z]) (by decide)⟩
        · rw [h76, en, o_le (by omega) (by omega)]; omega
      | succ e ih =>
        intro ii hii m' p hf hp hres
        have h76 : m' 76 = m 76 := hf 76 (by decide)
        have hlt : ¬ rd (m' 76) 0 ≤ Int32.ofNat ii := fun z => by
          rw [h76, en, o_le (by omega) (by omega)] at z
          omega
        refine rg_X6_changed_28 hG 75 _ _ _ _ ⟨rfl, 76, rfl, 502, rfl, ib502 (by decide) (by decide), fun z => absurd z hlt, fun _ => ?_⟩
        rw [o_1]
        refine inner ii (by omega) (nn - (ii + 1)) (ii + 1) (by omega) m' p hf hp (fun m2 p2 e2 h2 hf2 => ih (ii + 1) (by omega) m2 p2 hf2 h2 ?_)
        rw [hres, e2]
        rfl
    exact outer nn 0 (by omega) m1 (-1, _) hf1 (Or.inl rfl) rfl
  · have q : lkS (m 85) x ≠ 0 := fun e => q (lkS_p.mpr e)
    have hn := lkS_n q
    exact c_X6_error hG (by omega) ⟨Int32.le_trans (by decide) hn.1, hn.2⟩ ⟨_, rfl, k.no Fr.rf (by rw [chR, if_neg q]) q⟩

