-- 63.feed
def byA (l : Int64) (k : Nat) : Int32 := ((l >>> ((8 * Int32.ofNat k : Int32).toInt64 &&& 63)) &&& 255).toInt32
def fdA (l : Int64) (f : Nat → Int32) (i : Nat) (k : Nat) : Nat → Int32 := match k with
  | 0 => f
  | e + 1 => fdA l (apA 418 5 f (byA l i)) (i + 1) e
set_option maxHeartbeats 4000000 in
theorem fdA_ok {l : Int64} : ∀ (k i w : Nat) (f : Nat → Int32), f 5 = Int32.ofNat w → w + k ≤ 60 → TpE f (fdA l f i k) ∧ fdA l f i k 5 = Int32.ofNat (w + k) ∧ (∀ j, 478 ≤ j → fdA l f i k j = f j) ∧ fdA l f i k 6 = f 6 := by
  intro k
  induction k with
  | zero => intro i w f h _; exact ⟨fun _ _ _ _ => rfl, h, fun _ _ => rfl, rfl⟩
  | succ k ih =>
    intro i w f h hk
    have tn : (f 5).toNatClampNeg = w := by rw [h]; exact tn_o (by omega)
    have e5 : apA 418 5 f (byA l i) 5 = Int32.ofNat (w + 1) := by
      rw [show apA 418 5 f (byA l i) 5 = f 5 + 1 from rfl, h, o_1]
    obtain ⟨a, b, c, e⟩ := ih (i + 1) (w + 1) _ e5 (by omega)
    rw [fdA]
    refine ⟨fun j h1 h2 h3 => ?_, by rw [b]; congr 1; omega, fun j hj => ?_, ?_⟩
    · rw [a j h1 h2 h3, apA_tp (Or.inl rfl) (by decide) j h1 h2 h3]
    · rw [c j hj, apA_ne (by omega) (by omega)]
    · rw [e, apA_ne (by omega) (by omega)]
set_option maxHeartbeats 4000000 in
theorem byA_r {l : Int64} {k : Nat} (hk : k < 8) : 0 ≤ byA l k ∧ byA l k ≤ 255 := by
  unfold byA
  rw [← fd_eq l k hk]
  exact and255 _
set_option maxHeartbeats 4000000 in
theorem fdA_tb {l : Int64} : ∀ (k i w : Nat) (f : Nat → Int32), f 5 = Int32.ofNat w → w + k ≤ 60 → i + k ≤ 8 → TB f → TB (fdA l f i k) := by
  intro k
  induction k with
  | zero => intro i w f _ _ _ h; exact h
  | succ k ih =>
    intro i w f h hk hi hB
    have tn : (f 5).toNatClampNeg = w := by rw [h]; exact tn_o (by omega)
    have e5 : apA 418 5 f (byA l i) 5 = Int32.ofNat (w + 1) := by
      rw [show apA 418 5 f (byA l i) 5 = f 5 + 1 from rfl, h, o_1]
    rw [fdA]
    refine ih (i + 1) (w + 1) _ e5 (by omega) (by omega) (fun j hj => ?_)
    by_cases q : j = w
    · have e : apA 418 5 f (byA l i) (418 + j) = byA l i := by
        unfold apA
        rw [if_neg (by omega), tn, if_pos (by omega)]
      rw [e]
      exact byA_r (by omega)
    · rw [apA_ne (by omega) (by omega)]
      exact hB j hj
def fdR (l : Int64) (f : Nat → Int32) (y : Int32) : Int32 × Int32 := if 1 ≤ y ∧ y ≤ 8 then if rd f 5 + y ≤ 60 then (0, rd (fdA l f 0 y.toNatClampNeg) 5) else (4, 0) else (1, 0)
section
variable {G : Gm} {d t n i : Nat} {m : Mem} {K : Option Value → Mem → Prop} {f : Nat → Int32} {x y : Int32} {l : Int64}
set_option maxHeartbeats 4000000 in
theorem c_X5_feed (hG : fl G = false) (hd : 20 ≤ d) {w : Nat} (hw : w ≤ 60) (ew : f 5 = Int32.ofNat w) (ht : jRW m 1 (fun j => f (418 + j)) (rd f 5) 60) (k : AnB [1, 2] 34 m K (fdR l f y) (fun m' => jRW m' 1 (fun j => fdA l f 0 y.toNatClampNeg (418 + j)) (rd (fdA l f 0 y.toNatClampNeg) 5) 60)) : Cal G mX5_feed d [.ref 0, .long l, .int y] SH (TA t n i) m K := by
  obtain ⟨d, rfl⟩ : ∃ e, d = e + 1 := ⟨d - 1, by omega⟩
  have r5 : rd f 5 = Int32.ofNat w := ew
  refine Cal.of (by decide +kernel) rfl (Nat.le_of_ble_eq_true rfl) (rg_X5_feed_0 hG 0 l y ⟨fun c => ⟨rfl, c_X5_refuse hG (by omega) (by decide) ⟨_, rfl, k.no (by rw [fdR, if_neg (fun o => absurd c (Int32.not_lt.mpr o.1))]) (by decide)⟩⟩, fun c => ⟨fun c2 => ⟨rfl, 1, rfl, rfl, ?_⟩, fun c2 => ⟨rfl, c_X5_refuse hG (by omega) (by decide) ⟨_, rfl, k.no (by rw [fdR, if_neg (fun o => c2 o.2)]) (by decide)⟩⟩⟩⟩)
  have hy : 1 ≤ y ∧ y ≤ 8 := ⟨Int32.not_lt.mp c, c2⟩
  rw [fdR, if_pos hy] at k
  rw [ht.1]
  refine ⟨fun c3 => ?_, fun c3 => c_X5_refuse hG (by omega) (by decide) ⟨_, rfl, k.no (by rw [if_neg c3]) (by decide)⟩⟩
  rw [if_pos c3] at k
  obtain ⟨N, hN, rfl⟩ := oN' (N := 8) (Int32.le_trans (by decide) hy.1) hy.2 (by decide)
  rw [r5, o_add] at c3
  have hs : w + N ≤ 60 := (o_le (b := 60) (by omega) (by decide)).mp c3
  rw [tn_o (by omega)] at k
  have loop : ∀ (e j : Nat), j + e = N → ∀ (m' : Mem) (g : Nat → Int32), Fr [1, 2] m m' → jRW m' 1 (fun j => g (418 + j)) (rd g 5) 60 → g 5 = Int32.ofNat (w + j) → fdA l f 0 N = fdA l g j e → WP G (rmD (d + 1) 0 0) mX5_feed (QC G SH (TA t n i) K) 0 0 40 [(0, .ref 0), (1, .long l), (3, .int (Int32.ofNat N)), (4, .int (Int32.ofNat j))] [] (SH, TA t n i, m') := by
    intro e
    induction e with
    | zero =>
      intro j hj m' g hf hr hg hres
      have hres : fdA l f 0 N = g := hres
      rw [hres] at k
      refine rg_X5_feed_40 hG 0 l _ _ ⟨fun _ => ⟨rfl, 1, rfl, rfl, k.ok hf hr (by rw [hr.1])⟩, fun c => absurd ?_ c⟩
      rw [o_le (by omega) (by omega)]; omega
    | succ e ih =>
      intro j hj m' g hf hr hg hres
      refine rg_X5_feed_40 hG 0 l _ _ ⟨fun c => ?_, fun _ => ⟨rfl, 1, rfl, rfl, ?_⟩⟩
      · rw [o_le (by omega) (by omega)] at c; omega
      have e1 : m' 1 1 = Int32.ofNat (w + j) := by rw [hr.1]; exact hg
      refine c_X2_add hG (by omega) rfl rfl rfl (by decide) (by rw [e1]; exact o_0 _ (by omega)) ⟨rfl, ?_⟩
      rw [e1, if_pos (show Int32.ofNat (w + j) < Int32.ofNat 60 from (o_lt (by omega) (by omega)).mpr (by omega)), o_1 j]
      rw [fd_eq l j (by omega)]
      show WP G _ _ _ 0 0 40 _ [] (SH, TA t n i, up2 (upa m' 2 (Int32.ofNat (w + j)) (byA l j)) 1 1 (Int32.ofNat (w + j) + 1))
      refine ih (j + 1) (by omega) _ (apA 418 5 g (byA l j)) (hf.tr ((Fr.ua (by decide)).tr (Fr.u2 (by decide)))) ?_ ?_ hres
      · refine jRW.add (f := g) (o := 418) (q := 5) (m := m') hr (by decide) (by decide) hg (by omega) (by decide) ?_ ?_
        · rw [up2_eq, if_pos rfl]
        · show up2 _ 1 1 _ 2 = _
          rw [up2_ne (by decide), upa_eq]
      · rw [show apA 418 5 g (byA l j) 5 = g 5 + 1 from rfl, hg, o_1]
        rfl
  exact loop N 0 (by omega) m f Fr.rf ht ew rfl
set_option maxHeartbeats 4000000 in
theorem apA_m {o q w : Nat} {v : Int32} {g : Nat → Int32} (hq : q < 1000) (ho : q < o) (ho2 : o < 1000) (hw : w < 1000) (e : g q = Int32.ofNat w) : wr (wr g (Int32.ofNat (o + w)) v) (Int32.ofNat q) (Int32.ofNat w + 1) = apA o q g v := by
  rw [wr_o (by omega), wr_o (by omega)]
  funext j
  unfold apA
  rw [e, tn_o (by omega)]
set_option maxHeartbeats 4000000 in
theorem c_X6_feed (hG : fl G = false) (hd : 20 ≤ d) {w : Nat} (hw : w ≤ 60) (ew : m 76 5 = Int32.ofNat w) (k : AnB [76] 79 m K (fdR l (m 76) y) (PM (fdA l (m 76) 0 y.toNatClampNeg))) : Cal G mX6_feed d [.ref 75, .long l, .int y] SH (TA t n i) m K := by
  obtain ⟨d, rfl⟩ : ∃ e, d = e + 1 := ⟨d - 1, by omega⟩
  have r5 : rd (m 76) 5 = Int32.ofNat w := ew
  refine Cal.of (by decide +kernel) rfl (Nat.le_of_ble_eq_true rfl) (rg_X6_feed_0 hG 75 l y (c_X6_in hG (by omega) ⟨_, rfl, fun q => ?_, fun q => ⟨rfl, c_X6_error hG (by omega) (by decide) ⟨_, rfl, k.no (by rw [fdR, if_neg (b0 q)]) (by decide)⟩⟩⟩))
  have hy := b1 q
  rw [fdR, if_pos hy] at k
  refine ⟨rfl, 76, rfl, 502, rfl, ib502 (by decide) (by decide), fun c3 => ?_, fun c3 => c_X6_error hG (by omega) (by decide) ⟨_, rfl, k.no (by rw [if_neg c3]) (by decide)⟩⟩
  rw [if_pos c3] at k
  obtain ⟨N, hN, rfl⟩ := oN' (N := 8) (Int32.le_trans (by decide) hy.1) hy.2 (by decide)
  rw [r5, o_add] at c3
  have hs : w + N ≤ 60 := (o_le (b := 60) (by omega) (by decide)).mp c3
  rw [tn_o (by omega)] at k
  have loop : ∀ (e j : Nat), j + e = N → ∀ (m' : Mem), Fr [76] m m' → m' 76 5 = Int32.ofNat (w + j) → fdA l (m 76) 0 N = fdA l (m' 76) j e → WP G (rmD (d + 1) 0 0) mX6_feed (QC G SH (TA t n i) K) 0 0 38 [(0, .ref 75), (1, .long l), (3, .int (Int32.ofNat N)), (4, .int (Int32.ofNat j))] [] (SH, TA t n i, m') := by
    intro e
    induction e with
    | zero =>
      intro j hj m' hf hg hres
      have hres : fdA l (m 76) 0 N = m' 76 := hres
      rw [hres] at k
      refine rg_X6_feed_38 hG 75 l _ _ ⟨fun _ => ⟨rfl, 76, rfl, 502, rfl, ib502 (by decide) (by decide), k.ok hf rfl rfl⟩, fun c => absurd ?_ c⟩
      rw [o_le (by omega) (by omega)]; omega
    | succ e ih =>
      intro j hj m' hf hg hres
      have r5' : rd (m' 76) 5 = Int32.ofNat (w + j) := hg
      have i5 : (418 : Int32) + Int32.ofNat (w + j) = Int32.ofNat (418 + (w + j)) := o_add 418 _
      refine rg_X6_feed_38 hG 75 l _ _ ⟨fun c => ?_, fun _ => ⟨rfl, 76, rfl, 502, rfl, ib502 (by decide) (by decide), ?_, ?_⟩⟩
      · rw [o_le (by omega) (by omega)] at c; omega
      · rw [r5', i5]; exact ib_o (by omega) (by decide)
      rintro _ rfl
      refine ⟨ib502 (by decide) (by decide), ib502 (by decide) (by decide), ?_⟩
      rintro _ rfl
      rw [r5', i5, upa_set, upa_set, set1_eq, set1_set, o_1 j]
      have e5 : rd (wr (m' 76) (Int32.ofNat (418 + (w + j))) ((l >>> ((8 * Int32.ofNat j : Int32).toInt64 &&& 63)) &&& 255 : Int64).toInt32) 5 = Int32.ofNat (w + j) := by
        rw [show (5 : Int32) = Int32.ofNat 5 from rfl, rd_o (by omega), wr_o (by omega)]
        show (if 5 = 418 + (w + j) then _ else m' 76 5) = _
        rw [if_neg (by omega), hg]
      rw [e5]
      have := apA_m (o := 418) (q := 5) (w := w + j) (v := byA l j) (g := m' 76) (by decide) (by decide) (by decide) (by omega) hg
      rw [show wr (wr (m' 76) (Int32.ofNat (418 + (w + j))) ((l >>> ((8 * Int32.ofNat j : Int32).toInt64 &&& 63)) &&& 255 : Int64).toInt32) 5 (Int32.ofNat (w + j) + 1) = apA 418 5 (m' 76) (byA l j) from this]
      refine ih (j + 1) (by omega) _ (hf.tr (Fr.s1 (by decide))) ?_ (by rw [set1_eq, hres]; rfl)
      rw [set1_eq, show apA 418 5 (m' 76) (byA l j) 5 = m' 76 5 + 1 from rfl, hg, o_1]
      rfl
  exact loop N 0 (by omega) m Fr.rf ew rfl
set_option maxHeartbeats 4000000 in
theorem J_feed (hG : fl G = false) (hd : 20 ≤ d) (hV : jV m) : JJ G d t n i mX5_feed mX6_feed [.long l, .int y] m := by
  have hV' := hV
  obtain ⟨⟨⟨hb, ht, hw⟩, h13, hta, hwa, hTB⟩, hK, hS, hE, hT⟩ := hV
  have hn := hw.2.2.1
  obtain ⟨w, hw60, ew⟩ := oN' (N := 60) hn.2.2.2.2.1.1 hn.2.2.2.2.1.2 (by decide)
  have e5 : m 76 5 = Int32.ofNat w := ew
  refine c_X5_feed hG hd hw60 e5 hta ⟨fun e m1 hf hr => ⟨_, rfl, c_X6_feed hG hd (w := w) hw60 (by rw [hf 76 (by decide)]; exact e5) ⟨fun _ m2 hf2 hp => ⟨by rw [hf 76 (by decide)], ?_⟩, fun ne => absurd (by rw [hf 76 (by decide)]; exact e) ne⟩⟩, fun ne => ⟨_, rfl, c_X6_feed hG hd (w := w) hw60 (by rw [set1_ne (by decide)]; exact e5) ?_⟩⟩
  · have h1 : m1 76 = m 76 := hf 76 (by decide)
    have hff : Fr [1, 2, 76] m m2 := (hf.mo (by simp)).tr (hf2.mo (by simp))
    unfold PM at hp
    rw [h1] at hp
    have hy : 1 ≤ y ∧ y ≤ 8 := by
      unfold fdR at e
      by_cases q : 1 ≤ y ∧ y ≤ 8
      · exact q
      · rw [if_neg q] at e; exact absurd e (by decide)
    have hs : rd (m 76) 5 + y ≤ 60 := by
      unfold fdR at e
      rw [if_pos hy] at e
      by_cases q : rd (m 76) 5 + y ≤ 60
      · exact q
      · rw [if_neg q] at e; exact absurd e (by decide)
    obtain ⟨N, hN, rfl⟩ := oN' (N := 8) (Int32.le_trans (by decide) hy.1) hy.2 (by decide)
    rw [ew, o_add] at hs
    have hs : w + N ≤ 60 := (o_le (b := 60) (by omega) (by decide)).mp hs
    rw [tn_o (by omega)] at hp hr
    obtain ⟨a1, a2, a3, a4⟩ := fdA_ok (l := l) N 0 w (m 76) e5 hs
    refine hV'.tp (hff.mo (by simp)) (by rw [hff 75 (by decide)]) (by rw [hff 75 (by decide)]) (hE.fr hff (by decide) (by decide)) (by rw [hp]; exact a1) ?_ ?_ ?_ ?_
    · rw [hp]
      have a := hn
      unfold WN at a ⊢
      rw [show rd (fdA l (m 76) 0 N) 1 = rd (m 76) 1 from a1.rd (j := 1) (by decide) (by decide) (by decide), show rd (fdA l (m 76) 0 N) 2 = rd (m 76) 2 from a1.rd (j := 2) (by decide) (by decide) (by decide), show rd (fdA l (m 76) 0 N) 3 = rd (m 76) 3 from a1.rd (j := 3) (by decide) (by decide) (by decide), show rd (fdA l (m 76) 0 N) 4 = rd (m 76) 4 from a1.rd (j := 4) (by decide) (by decide) (by decide), show rd (fdA l (m 76) 0 N) 5 = Int32.ofNat (w + N) from a2, show rd (fdA l (m 76) 0 N) 6 = rd (m 76) 6 from a4]
      exact ⟨a.1, a.2.1, a.2.2.1, a.2.2.2.1, ⟨o_0 _ (by omega), (o_le (b := 60) (by omega) (by decide)).mpr hs⟩, a.2.2.2.2.2⟩
    · rw [hp]
      exact hr.fr (hf2 1 (by decide)) (hf2 2 (by decide))
    · rw [hp, show rd (fdA l (m 76) 0 N) 6 = rd (m 76) 6 from a4]
      have t1 := hwa.fr (hff 5 (by decide)) (hff 6 (by decide))
      refine ⟨t1.1, fun j j60 hj => ?_⟩
      rw [t1.2 j j60 hj]
      exact (a3 _ (by omega)).symm
    · rw [hp]
      exact fdA_tb N 0 w (m 76) e5 hs (by omega) hTB
  · rw [show set1 m 34 (wr (m 34) (fdR l (m 76) y).1 (rd (m 34) (fdR l (m 76) y).1 + 1)) 76 = m 76 from set1_ne (by decide)]
    refine ⟨fun e => absurd e ne, fun _ => ⟨rfl, ?_⟩⟩
    have hR : (fdR l (m 76) y).1 = 0 ∨ (1 ≤ (fdR l (m 76) y).1 ∧ (fdR l (m 76) y).1 ≤ 6) := by
      unfold fdR
      split
      · split
        · exact Or.inl rfl
        · exact Or.inr (by decide)
      · exact Or.inr (by decide)
    exact hV'.e2 (hR.resolve_left ne) Fr.rf Fr.rf (by rw [set1_ne (by decide)]) (by rw [set1_ne (by decide)])
end

