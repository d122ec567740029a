-- 62.tape
set_option maxHeartbeats 4000000 in
theorem tW_o {f : Nat → Int32} {k : Nat} (hk : k < 1000) : tW f 0 k = f (169 + 2 * k) ∧ tV f 0 k = f (170 + 2 * k) ∧ tW f 1 k = f (294 + 2 * k) ∧ tV f 1 k = f (295 + 2 * k) := by
  unfold tW tV
  rw [show tT 0 + 1 = Int32.ofNat 169 by decide, show tT 0 + 2 = Int32.ofNat 170 by decide, show tT 1 + 1 = Int32.ofNat 294 by decide, show tT 1 + 2 = Int32.ofNat 295 by decide, show (2 : Int32) = Int32.ofNat 2 from rfl, o_mul, o_add, o_add, o_add, o_add, rd_o (by omega), rd_o (by omega), rd_o (by omega), rd_o (by omega)]
  exact ⟨rfl, rfl, rfl, rfl⟩
set_option maxHeartbeats 4000000 in
theorem tN_o {f : Nat → Int32} : tN f 0 = f 168 ∧ tN f 1 = f 293 := by
  constructor
  · show f (tT 0).toNatClampNeg = _
    rw [show (tT 0).toNatClampNeg = 168 by decide]
  · show f (tT 1).toNatClampNeg = _
    rw [show (tT 1).toNatClampNeg = 293 by decide]
set_option maxHeartbeats 4000000 in
theorem WX.tx {f g : Nat → Int32} {u : Int32} (k1 : tN g u = tN f u) (k2 : ∀ k, k < 60 → tW g u k = tW f u k ∧ tV g u k = tV f u k) (w : WX f u) : WX g u := by
  obtain ⟨N, hN, h1, h2, h3⟩ := w
  refine ⟨N, by rw [k1]; exact hN, h1, fun k hk => ?_, fun z => ?_⟩
  · have := h2 k hk
    unfold stOK at this ⊢
    rw [(k2 k (by omega)).1, (k2 k (by omega)).2, dps_c k (fun j hj => (k2 j (by omega)).1)]
    exact this
  · rw [dps_c N (fun j hj => (k2 j (by omega)).1)]; exact h3 z
set_option maxHeartbeats 4000000 in
theorem TR.tx {f g : Nat → Int32} {u : Int32} {m : Mem} {t : Nat} (k1 : tN g u = tN f u) (k2 : ∀ k, k < 60 → tW g u k = tW f u k ∧ tV g u k = tV f u k) (w : WX f u) (r : TR m t u (tW f u) (tV f u) (tN f u).toNatClampNeg) : TR m t u (tW g u) (tV g u) (tN g u).toNatClampNeg := by
  obtain ⟨N, hN, h1, h2, h3⟩ := w
  rw [k1, hN, tn_o (by omega)]
  rw [hN, tn_o (by omega)] at r
  refine ⟨r.1, fun k hk => ?_⟩
  rw [(k2 k (by omega)).1, (k2 k (by omega)).2]
  exact r.2 k hk
-- only the tape, the waiting numbers and how many they are, are others
def TpE (f g : Nat → Int32) : Prop := ∀ j : Nat, j < 418 → j ≠ 5 → j ≠ 6 → g j = f j
set_option maxHeartbeats 4000000 in
theorem TpE.tx {f g : Nat → Int32} (h : TpE f g) {u : Int32} (hu : u = 0 ∨ u = 1) : tN g u = tN f u ∧ ∀ k, k < 60 → tW g u k = tW f u k ∧ tV g u k = tV f u k := by
  rcases hu with rfl | rfl
  · refine ⟨by rw [tN_o.1, tN_o.1, h _ (by omega) (by omega) (by omega)], fun k hk => ?_⟩
    have a := tW_o (f := f) (k := k) (by omega)
    have b := tW_o (f := g) (k := k) (by omega)
    rw [a.1, a.2.1, b.1, b.2.1, h _ (by omega) (by omega) (by omega), h _ (by omega) (by omega) (by omega)]
    exact ⟨rfl, rfl⟩
  · refine ⟨by rw [tN_o.2, tN_o.2, h _ (by omega) (by omega) (by omega)], fun k hk => ?_⟩
    have a := tW_o (f := f) (k := k) (by omega)
    have b := tW_o (f := g) (k := k) (by omega)
    rw [a.2.2.1, a.2.2.2, b.2.2.1, b.2.2.2, h _ (by omega) (by omega) (by omega), h _ (by omega) (by omega) (by omega)]
    exact ⟨rfl, rfl⟩
set_option maxHeartbeats 4000000 in
theorem TpE.eqv {f g : Nat → Int32} (h : TpE f g) : Eqv f g := by
  refine ⟨fun s w s0 s1 w0 w1 => ?_, fun c c0 c1 => ?_⟩
  · obtain ⟨s, hs, rfl⟩ := oN (N := 16) s0 s1 (by decide)
    obtain ⟨w, hw, rfl⟩ := oN (N := 4) w0 w1 (by decide)
    rw [its_o (by omega) (by omega), its_o (by omega) (by omega), h _ (by omega) (by omega) (by omega)]
  · obtain ⟨c, hc, rfl⟩ := oN' (N := 15) c0 c1 (by decide)
    refine ⟨by rw [sz_o (by omega), sz_o (by omega), h _ (by omega) (by omega) (by omega)], fun y y0 y1 => ?_⟩
    obtain ⟨y, hy, rfl⟩ := oN (N := 5) y0 y1 (by decide)
    rw [pl_o (by omega) (by omega), pl_o (by omega) (by omega), h _ (by omega) (by omega) (by omega)]
set_option maxHeartbeats 4000000 in
theorem TpE.rd {f g : Nat → Int32} (h : TpE f g) {j : Nat} (h8 : j < 8) (h5 : j ≠ 5) (h6 : j ≠ 6) : rd g (Int32.ofNat j) = rd f (Int32.ofNat j) := by
  rw [rd_o (by omega), rd_o (by omega), h j (by omega) h5 h6]
set_option maxHeartbeats 4000000 in
theorem tp_wt {f g : Nat → Int32} (e : rd g 0 = rd f 0) (a : WTn g (rd f 0)) : WT g := by
  rw [← e] at a; exact a
set_option maxHeartbeats 4000000 in
theorem tp_wc {f g : Nat → Int32} (e : rd g 0 = rd f 0) (a : WCn g (rd f 0)) : WC g := by
  rw [← e] at a; exact a
set_option maxHeartbeats 4000000 in
theorem TpE.wf {f g : Nat → Int32} (h : TpE f g) (w : WF f) (n : WN g) : WF g := by
  obtain ⟨w1, w2, w3, w4, w5⟩ := w
  have t0 := h.tx (Or.inl rfl : (0 : Int32) = 0 ∨ (0 : Int32) = 1)
  have t1 := h.tx (Or.inr rfl : (1 : Int32) = 0 ∨ (1 : Int32) = 1)
  exact ⟨tp_wt (h.rd (j := 0) (by decide) (by decide) (by decide)) (h.eqv.wt w1 w2), tp_wc (h.rd (j := 0) (by decide) (by decide) (by decide)) (h.eqv.wc w1.1.2 w2), n, w4.tx t0.1 t0.2, w5.tx t1.1 t1.2⟩
set_option maxHeartbeats 4000000 in
theorem TpE.rb {f g : Nat → Int32} (h : TpE f g) {m : Mem} {b a : Nat} (w : WF f) (r : RB m b a f) : RB m b a g := by
  have E := h.eqv
  refine r.eqv ⟨h.rd (j := 0) (by decide) (by decide) (by decide), h.rd (j := 2) (by decide) (by decide) (by decide), h.rd (j := 3) (by decide) (by decide) (by decide), h.rd (j := 4) (by decide) (by decide) (by decide), fun s v s0 s1 => E.1 s v s0 (Int32.lt_of_lt_of_le s1 w.1.1.2), fun c c0 c1 => ⟨(E.2 c c0 c1).1, fun y y0 y1 => (E.2 c c0 c1).2 y y0 (Int32.lt_of_lt_of_le y1 (w.2.1 c c0 c1).1.2)⟩⟩
set_option maxHeartbeats 4000000 in
theorem TpE.rt {f g : Nat → Int32} (h : TpE f g) {m : Mem} {t1 t2 : Nat} (w : WF f) (r : RT m t1 t2 f) : RT m t1 t2 g := by
  have t0 := h.tx (Or.inl rfl : (0 : Int32) = 0 ∨ (0 : Int32) = 1)
  have t1 := h.tx (Or.inr rfl : (1 : Int32) = 0 ∨ (1 : Int32) = 1)
  exact ⟨r.1.tx t0.1 t0.2 w.2.2.2.1, r.2.tx t1.1 t1.2 w.2.2.2.2⟩
set_option maxHeartbeats 4000000 in
theorem jV.tp {m m' : Mem} (hV : jV m) (hf : Fr (1 :: 2 :: 5 :: 6 :: 76 :: 34 :: 79 :: 75 :: jO) m m') (h3 : m' 75 3 = m 75 3) (h15 : m' 75 15 = m 75 15) (hE : jE m') (h : TpE (m 76) (m' 76)) (hn : WN (m' 76)) (t : jRW m' 1 (fun j => m' 76 (418 + j)) (rd (m' 76) 5) 60) (w : jRW m' 5 (fun j => m' 76 (478 + j)) (rd (m' 76) 6) 24) (hB : TB (m' 76)) : jV m' := by
  obtain ⟨⟨⟨b1, b2, b3⟩, b4, -, -⟩, hK, hS, -, hT⟩ := hV
  refine ⟨⟨⟨(h.rb b3 b1).fr hf (by decide) (by intro j hj; simp [jO]; omega), (h.rt b3 b2).fr hf (by decide) (by decide) (by decide) (by decide), h.wf b3 hn⟩, ?_, t, w, hB⟩, hK.fr hf h3 (by decide), hS.fr hf (by decide), hE, hT.fr hf h15 (by decide)⟩
  rw [hf 35 (by decide), show rd (m' 76) 1 = rd (m 76) 1 from h.rd (j := 1) (by decide) (by decide) (by decide), show rd (m' 76) 7 = rd (m 76) 7 from h.rd (j := 7) (by decide) (by decide) (by decide)]
  exact b4
-- a number put behind those that stand from place o on; how many stands at place q
def apA (o q : Nat) (f : Nat → Int32) (v : Int32) : Nat → Int32 := fun j => if j = q then f q + 1 else if j = o + (f q).toNatClampNeg then v else f j
set_option maxHeartbeats 4000000 in
theorem apA_ne {o q j : Nat} {f : Nat → Int32} {v : Int32} (h1 : j ≠ q) (h2 : j ≠ o + (f q).toNatClampNeg) : apA o q f v j = f j := by
  unfold apA
  rw [if_neg h1, if_neg h2]
set_option maxHeartbeats 4000000 in
theorem jRW.add {m m' : Mem} {a o q M w : Nat} {f : Nat → Int32} {v : Int32} (h : jRW m a (fun j => f (o + j)) (rd f (Int32.ofNat q)) M) (hq : q < o) (ho : o < 1000) (e : f q = Int32.ofNat w) (hw : w < 1000) (hM : M ≤ 1000) (e1 : m' a 1 = Int32.ofNat w + 1) (e2 : m' (a + 1) = wr (m (a + 1)) (Int32.ofNat w) v) : jRW m' a (fun j => apA o q f v (o + j)) (rd (apA o q f v) (Int32.ofNat q)) M := by
  have eq : rd (apA o q f v) (Int32.ofNat q) = Int32.ofNat w + 1 := by
    rw [rd_o (by omega)]
    show (if q = q then _ else _) = _
    rw [if_pos rfl, e]
  rw [eq]
  refine ⟨e1, fun j jM hj => ?_⟩
  rw [o_1] at hj
  rw [e2, wr_o (by omega)]
  show (if j = w then v else m (a + 1) j) = if o + j = q then _ else if o + j = o + (f q).toNatClampNeg then v else f (o + j)
  rw [if_neg (show ¬ o + j = q by omega), e, tn_o (by omega)]
  by_cases hjw : j = w
  · rw [if_pos hjw, if_pos (by omega)]
  · rw [if_neg hjw, if_neg (by omega)]
    refine h.2 j jM ?_
    rw [rd_o (by omega), e]
    exact (o_lt (by omega) (by omega)).mpr (by have := (o_lt (by omega) (by omega)).mp hj; omega)
set_option maxHeartbeats 4000000 in
theorem apA_tp {o q : Nat} {f : Nat → Int32} {v : Int32} (h : q = 5 ∨ q = 6) (ho : 418 ≤ o) : TpE f (apA o q f v) := by
  intro j h1 h2 h3
  show (if j = q then _ else if j = o + _ then v else f j) = f j
  rw [if_neg (by omega), if_neg (by omega)]
section
variable {G : Gm} {d t n i : Nat} {m : Mem} {K : Option Value → Mem → Prop} {f : Nat → Int32} {x y : Int32}
set_option maxHeartbeats 4000000 in
theorem up2_wr {m : Mem} {k : Nat} {j : Nat} (hj : j < 1000) {v : Int32} : upa m k (Int32.ofNat j) v = up2 m k j v := by
  unfold upa
  rw [tn_o (by omega)]
set_option maxHeartbeats 4000000 in
theorem J_tell (hG : fl G = false) (hd : 20 ≤ d) (hV : jV m) : JJ G d t n i mX5_tell mX6_tell [.int x] m := by
  obtain ⟨d, rfl⟩ : ∃ e, d = e + 1 := ⟨d - 1, by omega⟩
  have hV' := hV
  obtain ⟨⟨⟨hb, ht, hw⟩, h13, hta, hwa, hTB⟩, hK, hS, hE, hT⟩ := hV
  have hn := hw.2.2.1
  obtain ⟨w, hw24, ew⟩ := oN' (N := 24) hn.2.2.2.2.2.1 hn.2.2.2.2.2.2 (by decide)
  have e6 : m 76 6 = Int32.ofNat w := ew
  have e5 : m 5 1 = Int32.ofNat w := by rw [hwa.1, ew]
  refine Cal.of (by decide +kernel) rfl (Nat.le_of_ble_eq_true rfl) (rg_X5_tell_0 hG 0 x ⟨rfl, 5, rfl, rfl, fun c => c_X2_add hG (by omega) rfl rfl rfl (by decide) (by rw [e5]; exact o_0 w (by omega)) ⟨rfl, ?_⟩, fun c => ?_⟩)
  · rw [e5] at c ⊢
    have hlt := (o_lt (b := 24) (by omega) (by decide)).mp c
    rw [if_pos (show Int32.ofNat w < Int32.ofNat 24 from c), up2_wr (by omega)]
    refine ⟨_, rfl, ?_⟩
    refine Cal.of (by decide +kernel) rfl (Nat.le_of_ble_eq_true rfl) (rg_X6_tell_0 hG 75 x ⟨rfl, 76, rfl, 502, rfl, ib502 (by decide) (by decide), fun _ => ⟨ib502 (by decide) (by decide), ?_, ?_⟩, fun c2 => ?_⟩)
    · rw [up2_ne (by decide), up2_ne (by decide), ew, show (478 : Int32) = Int32.ofNat 478 from rfl, o_add]; exact ib_o (by omega) (by decide)
    · rintro _ rfl
      refine ⟨ib502 (by decide) (by decide), ib502 (by decide) (by decide), ?_⟩
      rintro _ rfl
      refine ⟨ib502 (by decide) (by decide), ?_⟩
      have u6 : ∀ M : Mem, (M 76 = m 76) → upa (upa M 76 (478 + rd (M 76) 6) x) 76 6 (rd (upa M 76 (478 + rd (M 76) 6) x 76) 6 + 1) = set1 M 76 (apA 478 6 (m 76) x) := by
        intro M hM
        rw [hM, ew, show (478 : Int32) + Int32.ofNat w = Int32.ofNat (478 + w) from o_add 478 w, upa_set, upa_set, set1_eq, set1_set, hM, show (6 : Int32) = Int32.ofNat 6 from rfl, rd_o (by omega), wr_o (by omega), wr_o (by omega)]
        congr 1
        funext j
        show (if j = 6 then (if 6 = 478 + w then x else m 76 6) + 1 else if j = 478 + w then x else m 76 j) = if j = 6 then m 76 6 + 1 else if j = 478 + (m 76 6).toNatClampNeg then x else m 76 j
        rw [if_neg (show ¬ 6 = 478 + w by omega), e6, tn_o (by omega)]
      rw [u6 _ (by rw [up2_ne (by decide), up2_ne (by decide)]), set1_eq]
      have ew1 : rd (apA 478 6 (m 76) x) 6 = Int32.ofNat w + 1 := by
        rw [show rd (apA 478 6 (m 76) x) 6 = m 76 6 + 1 from rfl, e6]
      have e5' : rd (apA 478 6 (m 76) x) 5 = rd (m 76) 5 := by
        exact apA_ne (j := 5) (by decide) (by omega)
      refine ⟨by rw [ew1, up2_eq, if_pos rfl], ?_⟩
      have hF : Fr [5, 6, 76] m (set1 (up2 (up2 m 6 w x) 5 1 (Int32.ofNat w + 1)) 76 (apA 478 6 (m 76) x)) := ((Fr.u2 (by decide)).tr (Fr.u2 (by decide))).tr (Fr.s1 (by decide))
      have hTp : TpE (m 76) (apA 478 6 (m 76) x) := apA_tp (Or.inr rfl) (by decide)
      refine hV'.tp (hF.mo (by simp)) (by rw [hF 75 (by decide)]) (by rw [hF 75 (by decide)]) (hE.fr hF (by decide) (by decide)) (by rw [set1_eq]; exact hTp) ?_ ?_ ?_ ?_
      · rw [set1_eq]
        have a := hn
        unfold WN at a ⊢
        rw [ew1, e5', show rd (apA 478 6 (m 76) x) 1 = rd (m 76) 1 from hTp.rd (j := 1) (by decide) (by decide) (by decide), show rd (apA 478 6 (m 76) x) 2 = rd (m 76) 2 from hTp.rd (j := 2) (by decide) (by decide) (by decide), show rd (apA 478 6 (m 76) x) 3 = rd (m 76) 3 from hTp.rd (j := 3) (by decide) (by decide) (by decide), show rd (apA 478 6 (m 76) x) 4 = rd (m 76) 4 from hTp.rd (j := 4) (by decide) (by decide) (by decide)]
        refine ⟨a.1, a.2.1, a.2.2.1, a.2.2.2.1, a.2.2.2.2.1, ?_⟩
        rw [o_1]
        exact ⟨o_0 _ (by omega), (o_le (b := 24) (by omega) (by decide)).mpr (by omega)⟩
      · rw [set1_eq]
        have t1 := hta.fr (m' := set1 (up2 (up2 m 6 w x) 5 1 (Int32.ofNat w + 1)) 76 (apA 478 6 (m 76) x)) (hF 1 (by decide)) (hF 2 (by decide))
        rw [e5']
        refine ⟨t1.1, fun j j60 hj => ?_⟩
        rw [t1.2 j j60 hj]
        show m 76 (418 + j) = if 418 + j = 6 then _ else if 418 + j = 478 + (m 76 6).toNatClampNeg then _ else m 76 (418 + j)
        rw [if_neg (by omega), e6, tn_o (by omega), if_neg (by omega)]
      · rw [set1_eq]
        refine jRW.add (f := m 76) (o := 478) (q := 6) hwa (by decide) (by decide) e6 (by omega) (by decide) ?_ ?_
        · rw [set1_ne (by decide), up2_eq, if_pos rfl]
        · show set1 _ 76 _ 6 = _
          rw [set1_ne (by decide), up2_ne (by decide)]
          funext j
          rw [wr_o (by omega), up2_eq]
      · rw [set1_eq]
        intro j hj
        rw [apA_ne (by omega) (by rw [e6, tn_o (by omega)]; omega)]
        exact hTB j hj
    · exfalso
      rw [up2_ne (by decide), up2_ne (by decide), ew] at c2
      have := (o_eq (b := 24) (by omega) (by decide)).mp c2
      omega
  · have c2 : rd (m 76) 6 = 24 := by
      rw [ew]
      rw [e5] at c
      have : ¬ w < 24 := fun q => c ((o_lt (b := 24) (by omega) (by decide)).mpr q)
      rw [show w = 24 by omega]
      rfl
    refine c_X5_refuse hG (by omega) (by decide) ⟨_, rfl, ⟨_, rfl, ?_⟩⟩
    refine Cal.of (by decide +kernel) rfl (Nat.le_of_ble_eq_true rfl) (rg_X6_tell_0 hG 75 x ⟨rfl, 76, rfl, 502, rfl, ib502 (by decide) (by decide), fun c3 => absurd (by rw [set1_ne (by decide)]; exact c2) c3, fun _ => c_X6_error hG (by omega) (by decide) ⟨_, rfl, rfl, ?_⟩⟩)
    exact hV'.e2 (by decide) Fr.rf Fr.rf (by rw [set1_ne (by decide)]) (by rw [set1_ne (by decide)])
end

