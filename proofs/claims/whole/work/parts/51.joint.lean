-- 51.joint
set_option maxHeartbeats 4000000 in
theorem b0 {P : Prop} [Decidable P] (q : (if P then (1 : Int32) else 0) = 0) : ¬ P := fun h => absurd (if_pos h ▸ q) (by decide)
set_option maxHeartbeats 4000000 in
theorem b1 {P : Prop} [Decidable P] (q : ¬ (if P then (1 : Int32) else 0) = 0) : P := Decidable.byContradiction fun h => q (if_neg h)
-- a row of the class holds the first numbers of w
def jRW (m : Mem) (a : Nat) (w : Nat → Int32) (n : Int32) (M : Nat) : Prop := m a 1 = n ∧ ∀ j, j < M → Int32.ofNat j < n → m (a + 1) j = w j
-- the tape's places hold bytes
def TB (f : Nat → Int32) : Prop := ∀ j, j < 60 → 0 ≤ f (418 + j) ∧ f (418 + j) ≤ 255
def jX (m : Mem) (b a t1 t2 tp wt : Nat) (f : Nat → Int32) : Prop := (RB m b a f ∧ RT m t1 t2 f ∧ WF f) ∧ (m b 13 = rd f 1 ∧ m b 14 = rd f 7) ∧ jRW m tp (fun j => f (418 + j)) (rd f 5) 60 ∧ jRW m wt (fun j => f (478 + j)) (rd f 6) 24 ∧ TB f
def jB (m : Mem) : Prop := jX m 35 44 36 40 1 5 (m 76)
def jK (m : Mem) : Prop := m 0 14 = m 75 3 ∧ (m 0 14 ≠ 0 → jX m 51 60 52 56 3 7 (m 77))
def jS (m : Mem) : Prop := ShC m (m 85) (m 86) (m 87) ∧ ShZ (m 86) ∧ ∀ x, x < 4 → m 85 x = 0 ∨ m 85 x = 8 ∨ m 85 x = 16 ∨ m 85 x = 32
def jE (m : Mem) : Prop := ∀ k, 1 ≤ k → k ≤ 6 → m 34 k = m 79 k
def jT (m : Mem) : Prop := ∃ n : Nat, n ≤ 30 ∧ m 75 15 = Int32.ofNat n ∧ m 21 1 = Int32.ofNat n ∧ ∀ j, j < n → m 22 j = m 84 j
def jV (m : Mem) : Prop := jB m ∧ jK m ∧ jS m ∧ jE m ∧ jT m
set_option maxHeartbeats 4000000 in
theorem jRW.fr {m m' : Mem} {a M : Nat} {w : Nat → Int32} {n : Int32} (h : jRW m a w n M) (e0 : m' a = m a) (e1 : m' (a + 1) = m (a + 1)) : jRW m' a w n M := by
  unfold jRW at h ⊢
  rw [e0, e1]
  exact h
set_option maxHeartbeats 4000000 in
theorem jRW.hi {m m' : Mem} {a M o : Nat} {f g : Nat → Int32} {n n' : Int32} (h : jRW m a (fun j => f (o + j)) n M) (e0 : m' a = m a) (e1 : m' (a + 1) = m (a + 1)) (en : n' = n) (ho : 168 ≤ o) (hi : ∀ i : Nat, 168 ≤ i → g i = f i) : jRW m' a (fun j => g (o + j)) n' M := by
  unfold jRW at h ⊢
  rw [e0, e1, en]
  refine ⟨h.1, fun j a b => ?_⟩
  rw [h.2 j a b]
  show f (o + j) = g (o + j)
  rw [hi _ (by omega)]
set_option maxHeartbeats 4000000 in
theorem jX.fr {L : List Nat} {m m' : Mem} {b a t1 t2 tp wt : Nat} {f : Nat → Int32} (h : jX m b a t1 t2 tp wt f) (hf : Fr L m m') (hL : ∀ x ∈ [b, a, a + 1, a + 2, a + 3, a + 4, a + 5, a + 6, t1 + 1, t1 + 2, t2 + 1, t2 + 2, tp, tp + 1, wt, wt + 1], x ∉ L) : jX m' b a t1 t2 tp wt f := by
  obtain ⟨⟨h1, h2, h3⟩, h4, h5, h6, h7⟩ := h
  have hb := hL b (by simp)
  have ea : ∀ i, i ≤ 6 → a + i ∉ L := fun i hi => by
    rcases (show i = 0 ∨ i = 1 ∨ i = 2 ∨ i = 3 ∨ i = 4 ∨ i = 5 ∨ i = 6 by omega) with rfl | rfl | rfl | rfl | rfl | rfl | rfl <;> exact hL _ (by simp)
  refine ⟨⟨h1.fr hf hb ea, h2.fr hf (hL _ (by simp)) (hL _ (by simp)) (hL _ (by simp)) (hL _ (by simp)), h3⟩, ?_, h5.fr (hf _ (hL _ (by simp))) (hf _ (hL _ (by simp))), h6.fr (hf _ (hL _ (by simp))) (hf _ (hL _ (by simp))), h7⟩
  rw [hf b hb]
  exact h4
set_option maxHeartbeats 4000000 in
theorem jB.fr {L : List Nat} {m m' : Mem} (h : jB m) (hf : Fr L m m') (hL : ∀ x ∈ [35, 44, 45, 46, 47, 48, 49, 50, 37, 38, 41, 42, 1, 2, 5, 6, 76], x ∉ L) : jB m' := by
  unfold jB at h ⊢
  rw [hf 76 (hL 76 (by simp))]
  exact jX.fr h hf (fun x hx => hL x (by simp at hx ⊢; omega))
set_option maxHeartbeats 4000000 in
theorem jK.fr {L : List Nat} {m m' : Mem} (h : jK m) (hf : Fr L m m') (h75 : m' 75 3 = m 75 3) (hL : ∀ x ∈ [0, 51, 60, 61, 62, 63, 64, 65, 66, 53, 54, 57, 58, 3, 4, 7, 8, 77], x ∉ L) : jK m' := by
  unfold jK at h ⊢
  rw [hf 77 (hL 77 (by simp)), hf 0 (hL 0 (by simp)), h75]
  exact ⟨h.1, fun q => jX.fr (h.2 q) hf (fun x hx => hL x (by simp at hx ⊢; omega))⟩
set_option maxHeartbeats 4000000 in
theorem jS.fr {L : List Nat} {m m' : Mem} (h : jS m) (hf : Fr L m m') (hL : ∀ x ∈ [24, 25, 26, 27, 28, 29, 30, 31, 32, 85, 86, 87], x ∉ L) : jS m' := by
  unfold jS ShC at h ⊢
  rw [hf 85 (hL 85 (by simp)), hf 86 (hL 86 (by simp)), hf 87 (hL 87 (by simp)), hf 32 (hL 32 (by simp))]
  refine ⟨fun x hx => ?_, h.2⟩
  have h1 := h.1 x hx
  rw [hf (24 + 2 * x) (hL _ (by simp; omega)), hf (24 + 2 * x + 1) (hL _ (by simp; omega))]
  exact h1
set_option maxHeartbeats 4000000 in
theorem jE.fr {L : List Nat} {m m' : Mem} (h : jE m) (hf : Fr L m m') (h1 : 34 ∉ L) (h2 : 79 ∉ L) : jE m' := by
  unfold jE at h ⊢
  rw [hf 34 h1, hf 79 h2]
  exact h
set_option maxHeartbeats 4000000 in
theorem jT.fr {L : List Nat} {m m' : Mem} (h : jT m) (hf : Fr L m m') (h75 : m' 75 15 = m 75 15) (hL : ∀ x ∈ [21, 22, 84], x ∉ L) : jT m' := by
  unfold jT at h ⊢
  rw [hf 21 (hL 21 (by simp)), hf 22 (hL 22 (by simp)), hf 84 (hL 84 (by simp)), h75]
  exact h
-- what no call looks at before it has written it
def jO : List Nat := [9, 10, 11, 12, 13, 14, 15, 16, 17, 18, 19, 20, 33, 36, 39, 40, 43, 67, 68, 69, 70, 71, 72, 73, 74, 78, 80, 81, 82, 83, 88]
set_option maxHeartbeats 4000000 in
theorem jV.fr {m m' : Mem} (h : jV m) (hf : Fr (75 :: jO) m m') (h3 : m' 75 3 = m 75 3) (h15 : m' 75 15 = m 75 15) : jV m' :=
  ⟨h.1.fr hf (by decide), h.2.1.fr hf h3 (by decide), h.2.2.1.fr hf (by decide), h.2.2.2.1.fr hf (by decide) (by decide), h.2.2.2.2.fr hf h15 (by decide)⟩
set_option maxHeartbeats 4000000 in
theorem jE.e2 {m m1 m2 : Mem} {e : Int32} (h : jE m) (he : 1 ≤ e ∧ e ≤ 6) (e1 : m1 34 = m 34) (e2 : m2 34 = wr (m1 34) e (rd (m1 34) e + 1)) (e3 : m2 79 = m 79) : jE (set1 m2 79 (wr (m2 79) e (rd (m2 79) e + 1))) := by
  intro k k0 k1
  rw [set1_ne (by decide), set1_eq, e2, e1, e3]
  have a := Int32.le_iff_toInt_le.mp he.1
  have b := Int32.le_iff_toInt_le.mp he.2
  rw [show (1 : Int32).toInt = 1 from rfl] at a
  rw [show (6 : Int32).toInt = 6 from rfl] at b
  have c : e.toNatClampNeg = e.toInt.toNat := rfl
  unfold wr rd
  rw [h k k0 k1, h e.toNatClampNeg (by omega) (by omega)]
set_option maxHeartbeats 4000000 in
theorem jV.e2 {m m1 m2 : Mem} {e : Int32} (h : jV m) (he : 1 ≤ e ∧ e ≤ 6) (hf1 : Fr (75 :: jO) m m1) (hf2 : Fr (75 :: jO) (set1 m1 34 (wr (m1 34) e (rd (m1 34) e + 1))) m2) (h3 : m2 75 3 = m 75 3) (h15 : m2 75 15 = m 75 15) : jV (set1 m2 79 (wr (m2 79) e (rd (m2 79) e + 1))) := by
  have hf : Fr (34 :: 79 :: 75 :: jO) m (set1 m2 79 (wr (m2 79) e (rd (m2 79) e + 1))) := by
    intro a ha
    simp only [List.mem_cons, not_or] at ha
    rw [set1_ne ha.2.1, hf2 a (by simp only [List.mem_cons, not_or]; exact ha.2.2), set1_ne ha.1, hf1 a (by simp only [List.mem_cons, not_or]; exact ha.2.2)]
  refine ⟨h.1.fr hf (by decide), h.2.1.fr hf (by rw [set1_ne (by decide), h3]) (by decide), h.2.2.1.fr hf (by decide), ?_, h.2.2.2.2.fr hf (by rw [set1_ne (by decide), h15]) (by decide)⟩
  exact jE.e2 h.2.2.2.1 he (hf1 34 (by decide)) (by rw [hf2 34 (by decide), set1_eq]) (by rw [hf2 79 (by decide), set1_ne (by decide), hf1 79 (by decide)])
def JJ (G : Gm) (d t n i : Nat) (y1 y2 : Mi) (as : List Value) (m : Mem) : Prop := Cal G y1 d (.ref 0 :: as) SH (TA t n i) m (fun v1 m1 => ∃ r, v1 = some (.int r) ∧ Cal G y2 d (.ref 75 :: as) SH (TA t n i) m1 (fun v2 m2 => v2 = some (.int r) ∧ jV m2))
set_option maxHeartbeats 4000000 in
theorem JJ.ans {G : Gm} {d t n i : Nat} {y1 y2 : Mi} {as : List Value} {m : Mem} {L1 L2 : List Nat} {R : Int32 × Int32} (hV : jV m) (s1 : ∀ a ∈ L1, a ∈ jO ∧ a < 75) (s2 : ∀ a ∈ L2, a ∈ jO) (hR : R.1 = 0 ∨ (1 ≤ R.1 ∧ R.1 ≤ 6)) (h1 : ∀ K, Ans L1 34 m K R → Cal G y1 d (.ref 0 :: as) SH (TA t n i) m K) (h2 : ∀ m1 K, (∀ a, 75 ≤ a → m1 a = m a) → Ans L2 79 m1 K R → Cal G y2 d (.ref 75 :: as) SH (TA t n i) m1 K) : JJ G d t n i y1 y2 as m := by
  have f1 : ∀ {m1 : Mem}, Fr L1 m m1 → Fr (75 :: jO) m m1 := fun h => h.mo (fun a ha => List.mem_cons_of_mem _ (s1 a ha).1)
  have f2 : ∀ {m1 m2 : Mem}, Fr L2 m1 m2 → Fr (75 :: jO) m1 m2 := fun h => h.mo (fun a ha => List.mem_cons_of_mem _ (s2 a ha))
  have n75 : 75 ∉ L2 := fun q => absurd (s2 _ q) (by decide)
  have hi : ∀ {m1 : Mem}, Fr L1 m m1 → ∀ a, 75 ≤ a → m1 a = m a := fun h a ha => h a (fun q => by have := (s1 a q).2; omega)
  refine h1 _ ⟨fun e m1 hf => ⟨_, rfl, h2 m1 _ (hi hf) ⟨fun _ m2 hf2 => ⟨rfl, ?_⟩, fun ne => absurd e ne⟩⟩, fun ne m1 hf => ⟨_, rfl, h2 _ _ (fun a ha => by rw [set1_ne (by omega), hi hf a ha]) ⟨fun e => absurd e ne, fun _ m2 hf2 => ⟨rfl, ?_⟩⟩⟩⟩
  · have e75 : m2 75 = m 75 := (hf2 75 n75).trans (hi hf 75 (Nat.le_refl _))
    exact hV.fr ((f1 hf).tr (f2 hf2)) (by rw [e75]) (by rw [e75])
  · have e75 : m2 75 = m 75 := (hf2 75 n75).trans ((set1_ne (by decide)).trans (hi hf 75 (Nat.le_refl _)))
    exact hV.e2 (hR.resolve_left ne) (f1 hf) (f2 hf2) (by rw [e75]) (by rw [e75])
-- an answer, or a fault of which nothing else comes
def AnB (L : List Nat) (k : Nat) (m : Mem) (K : Option Value → Mem → Prop) (R : Int32 × Int32) (P : Mem → Prop) : Prop := (R.1 = 0 → ∀ m', Fr L m m' → P m' → K (some (.int R.2)) m') ∧ (R.1 ≠ 0 → K (some (.int (-1000000000 - R.1))) (set1 m k (wr (m k) R.1 (rd (m k) R.1 + 1))))
set_option maxHeartbeats 4000000 in
theorem AnB.ok {L : List Nat} {k : Nat} {m m' : Mem} {K : Option Value → Mem → Prop} {R : Int32 × Int32} {P : Mem → Prop} {v : Int32} (h : AnB L k m K R P) (hf : Fr L m m') (hp : P m') (e : R = (0, v)) : K (some (.int v)) m' := by subst e; exact h.1 rfl m' hf hp
set_option maxHeartbeats 4000000 in
theorem AnB.no {L : List Nat} {k : Nat} {m : Mem} {K : Option Value → Mem → Prop} {R : Int32 × Int32} {P : Mem → Prop} {x : Int32} (h : AnB L k m K R P) (e : R = (x, 0)) (hx : x ≠ 0) : K (some (.int (-1000000000 - x))) (set1 m k (wr (m k) x (rd (m k) x + 1))) := by subst e; exact h.2 hx
-- what the class's box may change
def jC : List Nat := [35, 44, 45, 46, 47, 48, 49, 50, 33, 36, 39, 40, 43, 67, 68, 69, 70, 71, 72, 73, 74]
def jM : List Nat := [76, 78, 81, 82, 83]
def PC (g : Nat → Int32) (m : Mem) : Prop := RB m 35 44 g ∧ m 35 13 = rd g 1 ∧ m 35 14 = rd g 7
def PM (g : Nat → Int32) (m : Mem) : Prop := m 76 = g
set_option maxHeartbeats 4000000 in
theorem JJ.box {G : Gm} {d t n i : Nat} {y1 y2 : Mi} {as : List Value} {m : Mem} {R : Int32 × Int32} {g : Nat → Int32} (hV : jV m) (hR : R.1 = 0 ∨ (1 ≤ R.1 ∧ R.1 ≤ 6)) (hg : R.1 = 0 → WF g ∧ (∀ i : Nat, 168 ≤ i → g i = m 76 i) ∧ rd g 5 = rd (m 76) 5 ∧ rd g 6 = rd (m 76) 6) (h1 : ∀ K, AnB jC 34 m K R (PC g) → Cal G y1 d (.ref 0 :: as) SH (TA t n i) m K) (h2 : ∀ m1 K, (∀ a, 75 ≤ a → m1 a = m a) → AnB jM 79 m1 K R (PM g) → Cal G y2 d (.ref 75 :: as) SH (TA t n i) m1 K) : JJ G d t n i y1 y2 as m := by
  have hi : ∀ {m1 : Mem}, Fr jC m m1 → ∀ a, 75 ≤ a → m1 a = m a := fun h a ha => h a (fun q => by
    have : ∀ x ∈ jC, x < 75 := by decide
    have := this a q
    omega)
  refine h1 _ ⟨fun e m1 hf hp => ⟨_, rfl, h2 m1 _ (hi hf) ⟨fun _ m2 hf2 hp2 => ⟨rfl, ?_⟩, fun ne => absurd e ne⟩⟩, fun ne => ⟨_, rfl, h2 _ _ (fun a ha => by rw [set1_ne (by omega)]) ⟨fun e => absurd e ne, fun _ => ⟨rfl, ?_⟩⟩⟩⟩
  · obtain ⟨g1, g2, g3, g4⟩ := hg e
    have hff : Fr (jC ++ jM) m m2 := (hf.mo (fun a q => List.mem_append_left _ q)).tr (hf2.mo (fun a q => List.mem_append_right _ q))
    have e75 : m2 75 = m 75 := hff 75 (by decide)
    obtain ⟨p1, p2, p3⟩ := hp
    have hB : jX m 35 44 36 40 1 5 (m 76) := hV.1
    obtain ⟨⟨b1, b2, b3⟩, b4, b5, b6, b7⟩ := hB
    refine ⟨?_, hV.2.1.fr hff (by rw [e75]) (by decide), hV.2.2.1.fr hff (by decide), hV.2.2.2.1.fr hff (by decide) (by decide), hV.2.2.2.2.fr hff (by rw [e75]) (by decide)⟩
    show jX m2 35 44 36 40 1 5 (m2 76)
    rw [show m2 76 = g from hp2]
    refine ⟨⟨p1.fr hf2 (by decide) (by intro j hj; simp [jM]; omega), (b2.fr hff (by decide) (by decide) (by decide) (by decide)).hi g2 b3.2.2.2.1 b3.2.2.2.2, g1⟩, ?_, b5.hi (hff 1 (by decide)) (hff 2 (by decide)) g3 (by decide) g2, b6.hi (hff 5 (by decide)) (hff 6 (by decide)) g4 (by decide) g2, fun j hj => by rw [g2 (418 + j) (by omega)]; exact b7 j hj⟩
    rw [hf2 35 (by decide)]
    exact ⟨p2, p3⟩
  · exact hV.e2 (hR.resolve_left ne) Fr.rf Fr.rf (by rw [set1_ne (by decide)]) (by rw [set1_ne (by decide)])

