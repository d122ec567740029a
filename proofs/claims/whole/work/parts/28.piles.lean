/-- the thing t is laid uppermost in c -/
def Lay (f : Nat → Int32) (t c : Int32) (g : Nat → Int32) : Prop := (∀ j, 0 ≤ j → j < 8 → rd g j = rd f j) ∧ (∀ i : Nat, 168 ≤ i → g i = f i) ∧ (∀ s w, 0 ≤ s → s < 16 → 0 ≤ w → w < 4 → its g s w = if s = t ∧ w = 3 then c else its f s w) ∧ (∀ e, 0 ≤ e → e ≤ 15 → sz g e = (if e = c then sz f c + 1 else sz f e) ∧ ∀ h, 0 ≤ h → h < 5 → pl g e h = if e = c ∧ h = sz f c then t else pl f e h)
/-- the thing t leaves its pile -/
def Tak (f : Nat → Int32) (t to : Int32) (g : Nat → Int32) : Prop := (∀ j, 0 ≤ j → j < 8 → rd g j = rd f j) ∧ (∀ i : Nat, 168 ≤ i → g i = f i) ∧ (∀ s w, 0 ≤ s → s < 16 → 0 ≤ w → w < 4 → its g s w = if s = t ∧ w = 3 then to else its f s w) ∧ (∀ e, 0 ≤ e → e ≤ 15 → sz g e = (if e = its f t 3 then sz f e - 1 else sz f e) ∧ ∀ h, 0 ≤ h → h < 5 → (e = its f t 3 → h < sz f e - 1) → pl g e h = if e = its f t 3 ∧ hgt f t ≤ h then pl f e (h + 1) else pl f e h)
def layA (f : Nat → Int32) (t c : Int32) : Nat → Int32 := wr (wr (wr f (72 + 6 * c + 1 + sz f c) t) (72 + 6 * c) (sz f c + 1)) (8 + 4 * t + 3) c
set_option maxHeartbeats 4000000 in
theorem rd_ext {f g : Nat → Int32} {j x : Int32} (h : j = x → True) : True := trivial
set_option maxHeartbeats 4000000 in
theorem wr_hi {f : Nat → Int32} {j x : Int32} {i : Nat} (h : j.toNatClampNeg < i) : wr f j x i = f i := by
  unfold wr
  rw [if_neg (by omega)]
set_option maxHeartbeats 4000000 in
theorem tn_lt {j : Int32} {n : Nat} (h : j < Int32.ofNat n) (hn : n < 2147483648) (h0 : 0 < n) : j.toNatClampNeg < n := by
  have h2 := Int32.lt_iff_toInt_lt.mp h
  rw [Int32.toInt_ofNat_of_lt (by omega)] at h2
  show j.toInt.toNat < n
  omega
set_option maxHeartbeats 4000000 in
theorem layA_ok {f : Nat → Int32} {t c : Int32} (ht : 0 ≤ t ∧ t < 16) (hc : 0 ≤ c ∧ c ≤ 15) (hs : 0 ≤ sz f c ∧ sz f c < 5) : Lay f t c (layA f t c) := by
  unfold layA
  refine ⟨fun j h0 h1 => ?_, fun i hi => ?_, fun s w s0 s1 w0 w1 => ?_, fun e e0 e1 => ⟨?_, fun h h0 h1 => ?_⟩⟩
  · rw [rd_wr (by lia) h0, rd_wr (by lia) h0, rd_wr (by lia) h0]
    grind
  · rw [wr_hi, wr_hi, wr_hi]
    · exact Nat.lt_of_lt_of_le (tn_lt (n := 168) (by lia) (by decide) (by decide)) hi
    · exact Nat.lt_of_lt_of_le (tn_lt (n := 168) (by lia) (by decide) (by decide)) hi
    · exact Nat.lt_of_lt_of_le (tn_lt (n := 168) (by lia) (by decide) (by decide)) hi
  · unfold its
    rw [rd_wr (by lia) (by lia), rd_wr (by lia) (by lia), rd_wr (by lia) (by lia)]
    grind
  · generalize hz : sz f c = z at *
    unfold sz at *
    rw [rd_wr (by lia) (by lia), rd_wr (by lia) (by lia), rd_wr (by lia) (by lia)]
    grind
  · generalize hz : sz f c = z at *
    unfold pl at *
    rw [rd_wr (by lia) (by lia), rd_wr (by lia) (by lia), rd_wr (by lia) (by lia)]
    grind
/-- a pile moved down, from place h on, k things -/
def shA (f : Nat → Int32) (c h : Int32) (k : Nat) : Nat → Int32 := match k with
  | 0 => f
  | j + 1 => shA (wr f (72 + 6 * c + 1 + h) (pl f c (h + 1))) c (h + 1) j
set_option maxHeartbeats 4000000 in
theorem shA_ok {c : Int32} (hc : 0 ≤ c ∧ c ≤ 15) : ∀ (k : Nat) (f : Nat → Int32) (h z : Int32), 0 ≤ h → h ≤ z → z ≤ 4 → z = h + Int32.ofNat k → k ≤ 4 → (∀ i : Nat, 168 ≤ i → shA f c h k i = f i) ∧ (∀ j, 0 ≤ j → (j < 72 + 6 * c + 1 + h ∨ 72 + 6 * c + 1 + z ≤ j) → rd (shA f c h k) j = rd f j) ∧ ∀ g, h ≤ g → g < z → pl (shA f c h k) c g = pl f c (g + 1) := by
  intro k
  induction k with
  | zero =>
    intro f h z h0 h1 h2 h3 _
    have : z = h := by rw [h3]; exact Int32.add_zero _
    subst this
    exact ⟨fun _ _ => rfl, fun _ _ _ => rfl, fun g g0 g1 => absurd g1 (Int32.not_lt.mpr g0)⟩
  | succ k ih =>
    intro f h z h0 h1 h2 h3 hk
    have ek : Int32.ofNat (k + 1) = Int32.ofNat k + 1 := (o_1 k).symm
    have bk := o_0 k (by omega)
    have bk2 : Int32.ofNat k ≤ 3 := (o_le (b := 3) (by omega) (by decide)).mpr (by omega)
    rw [ek] at h3
    have p3 : z = h + 1 + Int32.ofNat k := by rw [h3, Int32.add_comm (Int32.ofNat k) 1, ← Int32.add_assoc]
    have p0 : 0 ≤ h + 1 ∧ h + 1 ≤ z ∧ h < z := by
      clear ih h3 ek
      generalize Int32.ofNat k = q at *
      have h4 : h ≤ 4 := Int32.le_trans h1 h2
      clear h2
      subst p3
      lia
    obtain ⟨i1, i2, i3⟩ := ih (wr f (72 + 6 * c + 1 + h) (pl f c (h + 1))) (h + 1) z p0.1 p0.2.1 h2 p3 (by omega)
    clear ih ek
    generalize Int32.ofNat k = q at *
    have ib : 0 ≤ 72 + 6 * c + 1 + h ∧ 72 + 6 * c + 1 + h < 168 := by clear i1 i2 i3; grind
    refine ⟨fun i hi => ?_, fun j j0 hj => ?_, fun g g0 g1 => ?_⟩
    · show shA _ _ _ k i = _
      rw [i1 i hi, wr_hi (Nat.lt_of_lt_of_le (tn_lt (n := 168) ib.2 (by decide) (by decide)) hi)]
    · show rd (shA _ _ _ k) j = _
      rw [i2 j j0 (by clear i1 i2 i3; lia), rd_wr ib.1 j0, if_neg (by clear i1 i2 i3; lia)]
    · by_cases hg : g = h
      · subst hg
        show rd (shA _ _ _ k) _ = _
        rw [i2 _ (by clear i1 i2 i3; lia) (Or.inl (by clear i1 i2 i3; lia)), rd_wr ib.1 (by clear i1 i2 i3; lia), if_pos rfl]
      · show pl (shA _ _ _ k) c g = _
        rw [i3 g (by clear i1 i2 i3; lia) g1]
        unfold pl
        rw [rd_wr ib.1 (by clear i1 i2 i3; lia), if_neg (by clear i1 i2 i3; lia)]
def takA (f : Nat → Int32) (t to : Int32) : Nat → Int32 := wr (wr (shA f (its f t 3) (hgt f t) (sz f (its f t 3) - 1 - hgt f t).toNatClampNeg) (72 + 6 * its f t 3) (sz f (its f t 3) - 1)) (8 + 4 * t + 3) to
set_option maxHeartbeats 4000000 in
theorem takA_ok {f : Nat → Int32} {t to : Int32} (h1 : WT f) (h2 : WC f) (ht : 0 ≤ t ∧ t < rd f 0) (hc : 0 ≤ its f t 3) : Tak f t to (takA f t to) := by
  have e1 := hgt_ok h1 h2 ht hc
  have e2 := (h1.2 t ht.1 ht.2).2.2.2.1.2.1
  have e3 := h1.1.2
  clear h1 h2
  unfold Tak takA
  generalize hgt f t = h at *
  generalize its f t 3 = c at *
  obtain ⟨a1, a2, a3, a4⟩ := e1
  have hk : Int32.ofNat (sz f c - 1 - h).toNatClampNeg = sz f c - 1 - h := by
    have b0 : 0 ≤ sz f c - 1 - h := by grind
    have := Int32.le_iff_toInt_le.mp b0
    rw [show (0 : Int32).toInt = 0 from rfl] at this
    have hl := Int32.toInt_lt (sz f c - 1 - h)
    apply Int32.toInt_inj.mp
    rw [Int32.toInt_ofNat_of_lt]
    · show ((sz f c - 1 - h).toInt.toNat : Int) = _
      omega
    · show (sz f c - 1 - h).toInt.toNat < _
      omega
  have hk4 : (sz f c - 1 - h).toNatClampNeg ≤ 4 := tn_le (n := 4) (by lia) (by lia) (by decide)
  obtain ⟨i1, i2, i3⟩ := shA_ok ⟨hc, e2⟩ (sz f c - 1 - h).toNatClampNeg f h (sz f c - 1) a1 (by lia) (by lia) (by rw [hk]; lia) hk4
  generalize shA f c h (sz f c - 1 - h).toNatClampNeg = g at *
  clear hk hk4
  have j1 : 0 ≤ 8 + 4 * t + 3 ∧ 8 + 4 * t + 3 < 72 := by clear i1 i2 i3; grind
  have j2 : 72 ≤ 72 + 6 * c ∧ 72 + 6 * c < 168 := by clear i1 i2 i3; grind
  have j3 : 0 ≤ 72 + 6 * c := by clear i1 i2 i3; grind
  refine ⟨fun j h0 h1 => ?_, fun i hi => ?_, fun s w s0 s1 w0 w1 => ?_, fun e e0 e1 => ⟨?_, fun y h0 h1 hy => ?_⟩⟩
  · rw [rd_wr j1.1 h0, rd_wr j3 h0, if_neg (by clear i1 i2 i3; lia), if_neg (by clear i1 i2 i3; lia), i2 j h0 (Or.inl (by clear i1 i2 i3; lia))]
  · rw [wr_hi, wr_hi, i1 i hi]
    · exact Nat.lt_of_lt_of_le (tn_lt (n := 168) j2.2 (by decide) (by decide)) hi
    · exact Nat.lt_of_lt_of_le (tn_lt (n := 168) (by clear i1 i2 i3; lia) (by decide) (by decide)) hi
  · unfold its
    rw [rd_wr j1.1 (by clear i1 i2 i3; lia), rd_wr j3 (by clear i1 i2 i3; lia), if_neg (c := 72 + 6 * c = _) (by clear i1 i2 i3; lia), i2 _ (by clear i1 i2 i3; lia) (Or.inl (by clear i1 i2 i3; lia))]
    clear i1 i2 i3
    grind
  · have hS : sz (wr (wr g (72 + 6 * c) (sz f c - 1)) (8 + 4 * t + 3) to) e = if 72 + 6 * c = 72 + 6 * e then sz f c - 1 else rd g (72 + 6 * e) := by
      show rd _ (72 + 6 * e) = _
      rw [rd_wr j1.1 (by clear i1 i2 i3; lia), rd_wr j3 (by clear i1 i2 i3; lia), if_neg (c := 8 + 4 * t + 3 = _) (by clear i1 i2 i3; lia)]
    rw [hS]
    by_cases he : e = c
    · rw [he, if_pos rfl, if_pos rfl]
    · rw [if_neg he, if_neg (by clear i1 i2 i3; lia), i2 _ (by clear i1 i2 i3; lia) (by clear i1 i2 i3; lia)]
      rfl
  · have hS : pl (wr (wr g (72 + 6 * c) (sz f c - 1)) (8 + 4 * t + 3) to) e y = pl g e y := by
      show rd _ (72 + 6 * e + 1 + y) = _
      rw [rd_wr j1.1 (by clear i1 i2 i3; lia), rd_wr j3 (by clear i1 i2 i3; lia), if_neg (by clear i1 i2 i3; lia), if_neg (by clear i1 i2 i3; lia)]
      rfl
    rw [hS]
    by_cases he : e = c
    · subst he
      have hy := hy rfl
      by_cases hh : h ≤ y
      · rw [if_pos ⟨rfl, hh⟩, i3 y hh hy]
      · rw [if_neg (fun q => hh q.2)]
        exact i2 _ (by clear i1 i2 i3; lia) (Or.inl (by clear i1 i2 i3; lia))
    · rw [if_neg (fun q => he q.1)]
      exact i2 _ (by clear i1 i2 i3; lia) (by clear i1 i2 i3; lia)

