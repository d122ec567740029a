-- 41.fewest
def fwA (t : Int32) (f : Nat → Int32) (c : Nat) (k : Nat) : Option (Nat × List Int32) := match k with
  | 0 => none
  | j + 1 => match wnA t c f with
    | some l => some (c, l)
    | none => fwA t f (c + 1) j
def fwV (o : Option (Nat × List Int32)) (z : Int32) : Int32 × Int32 := match o with
  | none => (2, 0)
  | some (c, l) => if z < Int32.ofNat c then (0, if z = -1 then Int32.ofNat c else l.getD z.toNatClampNeg 0) else (2, 0)
def fewR (t y z : Int32) (f : Nat → Int32) : Int32 × Int32 := if 0 ≤ t ∧ t < rd f 0 then if 1 ≤ y ∧ y ≤ 3 then if -1 ≤ z ∧ z ≤ 2 then if 0 ≤ its f t 3 then fwV (fwA t f 1 y.toNatClampNeg) z else (3, 0) else (1, 0) else (1, 0) else (1, 0)
-- an answer, or a fault and its count in object k
def Ans (L : List Nat) (k : Nat) (m : Mem) (K : Option Value → Mem → Prop) (r : Int32 × Int32) : Prop := (r.1 = 0 → ∀ m', Fr L m m' → K (some (.int r.2)) m') ∧ (r.1 ≠ 0 → ∀ m', Fr L m m' → K (some (.int (-1000000000 - r.1))) (set1 m' k (wr (m' k) r.1 (rd (m' k) r.1 + 1))))
set_option maxHeartbeats 4000000 in
theorem Ans.ok {L : List Nat} {k : Nat} {m m' : Mem} {K : Option Value → Mem → Prop} {r : Int32 × Int32} {v : Int32} (h : Ans L k m K r) (hf : Fr L m m') (e : r = (0, v)) : K (some (.int v)) m' := by subst e; exact h.1 rfl m' hf
set_option maxHeartbeats 4000000 in
theorem Ans.no {L : List Nat} {k : Nat} {m m' : Mem} {K : Option Value → Mem → Prop} {r : Int32 × Int32} {x : Int32} (h : Ans L k m K r) (hf : Fr L m m') (e : r = (x, 0)) (hx : x ≠ 0) : K (some (.int (-1000000000 - x))) (set1 m' k (wr (m' k) x (rd (m' k) x + 1))) := by subst e; exact h.2 hx m' hf
set_option maxHeartbeats 4000000 in
theorem fsm_got {F : Int32 → Option (List Int32)} {l : List Int32} : ∀ (k : Nat) (c : Int32), fsm F c k = some l → ∃ e, F e = some l := by
  intro k
  induction k with
  | zero => intro c h; cases h
  | succ k ih =>
    intro c h
    simp only [fsm] at h
    cases hF : F c with
    | some x => rw [hF] at h; cases h; exact ⟨c, hF⟩
    | none => rw [hF] at h; exact ih _ h
set_option maxHeartbeats 4000000 in
theorem wnA_len {t : Int32} : ∀ (n : Nat) (f : Nat → Int32) (l : List Int32), wnA t n f = some l → l.length = n := by
  intro n
  induction n with
  | zero =>
    intro f l h
    simp only [wnA] at h
    split at h
    · cases h; rfl
    · cases h
  | succ k ih =>
    intro f l h
    simp only [wnA] at h
    obtain ⟨e, he⟩ := fsm_got _ _ h
    cases hw : wnA t k (pulA f e) with
    | none => rw [hw] at he; cases he
    | some l2 =>
      rw [hw] at he
      cases he
      rw [List.length_cons, ih _ _ hw]
-- what both sides read at the end
set_option maxHeartbeats 4000000 in
theorem few_end {z : Int32} {c : Nat} {l : List Int32} {w : Nat → Int32} (hc : 1 ≤ c ∧ c ≤ 3) (hl : l.length = c) (hw : ∀ j v, l[j]? = some v → w j = v) (hz : -1 ≤ z ∧ z ≤ 2) : (z < Int32.ofNat c → 0 ≤ z → InB z 3 ∧ fwV (some (c, l)) z = (0, rd w z)) ∧ (z < Int32.ofNat c → z = -1 → fwV (some (c, l)) z = (0, Int32.ofNat c)) ∧ (¬ z < Int32.ofNat c → fwV (some (c, l)) z = (2, 0)) := by
  refine ⟨fun q q2 => ⟨inb q2 (Int32.lt_of_le_of_lt hz.2 (by decide)) (by decide), ?_⟩, fun q q2 => ?_, fun q => ?_⟩
  · have n1 : z ≠ -1 := fun e => by rw [e] at q2; exact absurd q2 (by decide)
    simp only [fwV]
    rw [if_pos q, if_neg n1]
    have hb : z.toNatClampNeg < c := by
      rw [o_of q2, o_lt ?_ (by omega)] at q
      · exact q
      · have := Int32.toInt_lt z
        show z.toInt.toNat < _
        omega
    have := hw z.toNatClampNeg (l[z.toNatClampNeg]'(by omega)) (List.getElem?_eq_getElem (by omega))
    rw [List.getD_eq_getElem?_getD, List.getElem?_eq_getElem (by omega)]
    show (0, _) = (0, w z.toNatClampNeg)
    rw [this]
    rfl
  · simp only [fwV]
    rw [if_pos q, if_pos q2]
  · simp only [fwV]
    rw [if_neg q]
set_option maxHeartbeats 4000000 in
theorem neg1 {z : Int32} (hz : -1 ≤ z) (h : ¬ 0 ≤ z) : z = -1 := by lia
set_option maxHeartbeats 4000000 in
theorem of13 {x : Int32} (hx : 1 ≤ x ∧ x ≤ 3) : ∃ r : Nat, x = Int32.ofNat (r + 1) ∧ r ≤ 2 := by
  have a := Int32.le_iff_toInt_le.mp hx.1
  have b := Int32.le_iff_toInt_le.mp hx.2
  rw [show (1 : Int32).toInt = 1 from rfl] at a
  rw [show (3 : Int32).toInt = 3 from rfl] at b
  have e := o_of (Int32.le_trans (by decide) hx.1 : 0 ≤ x)
  have e2 : x.toNatClampNeg = x.toInt.toNat := rfl
  exact ⟨x.toNatClampNeg - 1, by rw [show x.toNatClampNeg - 1 + 1 = x.toNatClampNeg by omega]; exact e, by omega⟩
set_option maxHeartbeats 4000000 in
theorem c_X5_fewest {G : Gm} {tt n i : Nat} (hG : fl G = false) {d : Nat} {m : Mem} {K : Option Value → Mem → Prop} {f : Nat → Int32} {t y z : Int32} (hd : 12 ≤ d) (hb : RB m 35 44 f) (ht : RT m 36 40 f) (hw : WF f) (k : Ans [33, 36, 39, 40, 43, 67, 68, 69, 70, 71, 72, 73, 74] 34 m K (fewR t y z f)) : Cal G mX5_fewest d [.ref 0, .int t, .int y, .int z] SH (TA tt n i) m K := by
  obtain ⟨d, rfl⟩ : ∃ e, d = e + 1 := ⟨d - 1, by omega⟩
  refine Cal.of (by decide +kernel) rfl (Nat.le_of_ble_eq_true rfl) (rg_X5_fewest_0 hG 0 t y z ⟨rfl, 35, rfl, rfl, ?_⟩)
  refine c_X0_has hG (by omega) rfl ⟨_, rfl, ?_⟩
  rw [hb.1.1]
  have h16 := hw.1.1.2
  refine ⟨fun q => ?_, fun q => ?_⟩
  · have h : ¬ (0 ≤ t ∧ t < rd f 0) := fun h => absurd (if_pos (⟨h.1, h.2, Int32.lt_of_lt_of_le h.2 h16⟩ : 0 ≤ t ∧ t < rd f 0 ∧ t < 16) ▸ q) (by decide)
    exact c_X5_refuse hG (by omega) (by decide) ⟨_, rfl, k.no Fr.rf (by rw [fewR, if_neg h]) (by decide)⟩
  have htt : 0 ≤ t ∧ t < rd f 0 := by
    have : 0 ≤ t ∧ t < rd f 0 ∧ t < 16 := Decidable.byContradiction fun h => q (if_neg h)
    exact ⟨this.1, this.2.1⟩
  refine c_X5_isAhead hG (by omega) ⟨_, rfl, fun q => ?_, fun q => ?_⟩
  · have h : ¬ (1 ≤ y ∧ y ≤ 3) := fun h => absurd (if_pos h ▸ q) (by decide)
    exact c_X5_refuse hG (by omega) (by decide) ⟨_, rfl, k.no Fr.rf (by rw [fewR, if_pos htt, if_neg h]) (by decide)⟩
  have hy : 1 ≤ y ∧ y ≤ 3 := Decidable.byContradiction fun h => q (if_neg h)
  refine ⟨fun q => c_X5_refuse hG (by omega) (by decide) ⟨_, rfl, k.no Fr.rf (by rw [fewR, if_pos htt, if_pos hy, if_neg (fun h => absurd q (Int32.not_lt.mpr h.1))]) (by decide)⟩, fun q => ⟨fun q2 => ?_, fun q2 => c_X5_refuse hG (by omega) (by decide) ⟨_, rfl, k.no Fr.rf (by rw [fewR, if_pos htt, if_pos hy, if_neg (fun h => q2 (Int32.lt_of_le_of_lt h.2 (by decide)))]) (by decide)⟩⟩⟩
  have hz : -1 ≤ z ∧ z ≤ 2 := ⟨Int32.not_lt.mp q, by lia⟩
  refine c_X0_cellOf hG (by omega) B35 hb h16 ⟨_, rfl, ?_⟩
  rw [if_pos htt]
  refine ⟨fun q3 => ?_, fun q3 => c_X5_refuse hG (by omega) (by decide) ⟨_, rfl, k.no Fr.rf (by rw [fewR, if_pos htt, if_pos hy, if_pos hz, if_neg q3]) (by decide)⟩⟩
  have hk : fewR t y z f = fwV (fwA t f 1 y.toNatClampNeg) z := by rw [fewR, if_pos htt, if_pos hy, if_pos hz, if_pos q3]
  rw [hk] at k
  obtain ⟨Y, rfl, hY⟩ := of13 hy
  rw [tn_o (by omega)] at k
  refine ⟨67, rfl, rfl, c_X0_copyFrom hG (by omega) B67 B35 hb hw.1 hw.2.1 ⟨by decide, Or.inl (by decide)⟩ (fun m1 hf1 hb1 _ _ => ⟨rfl, ?_⟩)⟩
  have ht1 : RT m1 36 40 f := ht.fr hf1 (by decide) (by decide) (by decide) (by decide)
  have fin : ∀ (c : Nat) (l : List Int32) (x5 : Int32) (m' : Mem), 1 ≤ c ∧ c ≤ 3 → fwA t f 1 (Y + 1) = some (c, l) → l.length = c → (∀ j v, l[j]? = some v → m' 33 j = v) → Fr [33, 36, 39, 40, 43, 67, 68, 69, 70, 71, 72, 73, 74] m m' → WP G (rmD (d + 1) 0 0) mX5_fewest (QC G SH (TA tt n i) K) 0 0 68 [(0, .ref 0), (1, .int t), (2, .int (Int32.ofNat (Y + 1))), (3, .int z), (4, .int (Int32.ofNat c)), (5, .int x5)] [] (SH, TA tt n i, m') := by
    intro c l x5 m' hc he hl hm hf
    rw [he] at k
    have fe := few_end (w := m' 33) hc hl hm hz
    have hne : Int32.ofNat c ≠ 0 := fun e => by
      rw [show (0 : Int32) = Int32.ofNat 0 from rfl, o_eq (by omega) (by omega)] at e
      omega
    refine rg_X5_fewest_68 hG 0 t _ z (Int32.ofNat c) x5 ⟨fun _ => ⟨fun q => absurd q hne, fun _ => ?_⟩, fun _ => ⟨fun _ => ⟨fun q => absurd q hne, fun _ => ?_⟩, fun q => absurd q hne⟩⟩
    all_goals exact ⟨fun q => ⟨fun q2 => ⟨rfl, 33, rfl, 3, rfl, (fe.1 q q2).1, k.ok hf (fe.1 q q2).2⟩, fun q2 => k.ok hf (fe.2.1 q (neg1 hz.1 q2))⟩, fun q => ⟨rfl, c_X5_refuse hG (by omega) (by decide) ⟨_, rfl, k.no hf (fe.2.2 q) (by decide)⟩⟩⟩
  have hloop : ∀ (r c : Nat), c + r = Y + 2 → 1 ≤ c → (∀ j, j < c → wnA t j f = none) → fwA t f 1 (Y + 1) = fwA t f c r → ∀ m', Fr [33, 36, 39, 40, 43, 67, 68, 69, 70, 71, 72, 73, 74] m m' → RB m' 67 68 f → RT m' 36 40 f → WP G (rmD (d + 1) 0 0) mX5_fewest (QC G SH (TA tt n i) K) 0 0 68 [(0, .ref 0), (1, .int t), (2, .int (Int32.ofNat (Y + 1))), (3, .int z), (4, .int 0), (5, .int (Int32.ofNat c))] [] (SH, TA tt n i, m') := by
    intro r
    induction r with
    | zero =>
      intro c hc _ _ he m' hf _ _
      have hlt : Int32.ofNat (Y + 1) < Int32.ofNat c := (o_lt (by omega) (by omega)).mpr (by omega)
      refine rg_X5_fewest_68 hG 0 t _ z 0 _ ⟨fun _ => ⟨fun _ => ⟨rfl, c_X5_refuse hG (by omega) (by decide) ⟨_, rfl, k.no hf ?_ (by decide)⟩⟩, fun q => absurd rfl q⟩, fun q => absurd hlt q⟩
      rw [he]
      rfl
    | succ r ih =>
      intro c hc h1 hn he m' hf hb' ht'
      obtain ⟨e, rfl⟩ : ∃ e, c = e + 1 := ⟨c - 1, by omega⟩
      have hlt : ¬ Int32.ofNat (Y + 1) < Int32.ofNat (e + 1) := fun q => by
        rw [o_lt (by omega) (by omega)] at q
        omega
      have hv := c_X5_leadsToWin (G := G) (n := n) (i := i) (t0 := tt) hG t e 0 d f m'
      simp only [Nat.zero_add] at hv
      refine rg_X5_fewest_68 hG 0 t _ z 0 _ ⟨fun q => absurd q hlt, fun _ => ⟨fun q => absurd rfl q, fun _ => ⟨rfl, 67, rfl, 33, rfl, hv _ (by omega) (by omega) hb' ht' hw htt hn (fun m2 hf2 hb2 _ hl => ⟨_, rfl, ?_⟩)⟩⟩⟩
      have hf3 : Fr [33, 36, 39, 40, 43, 67, 68, 69, 70, 71, 72, 73, 74] m m2 := hf.tr (hf2.mo (by simp))
      simp only [fwA] at he
      cases ho : wnA t (e + 1) f with
      | none =>
        rw [ho] at he
        refine ⟨fun _ => ?_, fun q => absurd rfl q⟩
        rw [o_1]
        refine ih (e + 1 + 1) (by omega) (by omega) (fun j hj => ?_) he m2 hf3 hb2 (ht'.fr hf2 (by decide) (by decide) (by decide) (by decide))
        by_cases hje : j = e + 1
        · rw [hje]; exact ho
        · exact hn j (by omega)
      | some l =>
        rw [ho] at he
        refine ⟨fun q => absurd (show (1 : Int32) = 0 from q) (by decide), fun _ => ?_⟩
        exact fin (e + 1) l _ m2 ⟨by omega, by omega⟩ he (wnA_len _ _ _ ho) (hl l ho) hf3
  refine hloop (Y + 1) 1 (by omega) (Nat.le_refl _) (fun j hj => ?_) rfl m1 (hf1.mo (by simp)) hb1 ht1
  have : j = 0 := by omega
  rw [this, wnA, if_neg (fun e => by rw [e] at q3; exact absurd q3 (by decide))]
set_option maxHeartbeats 4000000 in
theorem c_X6_fewest {G : Gm} {tt n i : Nat} (hG : fl G = false) {d : Nat} {m : Mem} {K : Option Value → Mem → Prop} {t y z : Int32} (hd : 13 ≤ d) (hw : WF (m 76)) (k : Ans [78, 81, 82, 83] 79 m K (fewR t y z (m 76))) : Cal G mX6_fewest d [.ref 75, .int t, .int y, .int z] SH (TA tt n i) m K := by
  obtain ⟨d, rfl⟩ : ∃ e, d = e + 1 := ⟨d - 1, by omega⟩
  refine Cal.of (by decide +kernel) rfl (Nat.le_of_ble_eq_true rfl) (rg_X6_fewest_0 hG 75 t y z ⟨rfl, ?_⟩)
  have h16 := hw.1.1
  refine c_X6_isThing hG (by omega) h16.1 h16.2 ⟨_, rfl, fun q => ?_, fun q => ?_⟩
  · have h : ¬ (0 ≤ t ∧ t < rd (m 76) 0) := fun h => absurd (if_pos h ▸ q) (by decide)
    exact c_X6_error hG (by omega) (by decide) ⟨_, rfl, k.no Fr.rf (by rw [fewR, if_neg h]) (by decide)⟩
  have htt : 0 ≤ t ∧ t < rd (m 76) 0 := Decidable.byContradiction fun h => q (if_neg h)
  refine c_X6_in hG (by omega) ⟨_, rfl, fun q => ?_, fun q => ?_⟩
  · have h : ¬ (1 ≤ y ∧ y ≤ 3) := fun h => absurd (if_pos h ▸ q) (by decide)
    exact c_X6_error hG (by omega) (by decide) ⟨_, rfl, k.no Fr.rf (by rw [fewR, if_pos htt, if_neg h]) (by decide)⟩
  have hy : 1 ≤ y ∧ y ≤ 3 := Decidable.byContradiction fun h => q (if_neg h)
  refine c_X6_in hG (by omega) ⟨_, rfl, fun q => ?_, fun q => ?_⟩
  rotate_left
  · have h : ¬ (-1 ≤ z ∧ z ≤ 2) := fun h => absurd (if_pos h ▸ q) (by decide)
    exact c_X6_error hG (by omega) (by decide) ⟨_, rfl, k.no Fr.rf (by rw [fewR, if_pos htt, if_pos hy, if_neg h]) (by decide)⟩
  have hz : -1 ≤ z ∧ z ≤ 2 := Decidable.byContradiction fun h => q (if_neg h)
  refine c_X6_its hG (by omega) ⟨htt.1, Int32.lt_of_lt_of_le htt.2 h16.2⟩ (by decide) ⟨_, rfl, fun q3 => ?_, fun q3 => ?_⟩
  rotate_left
  · exact c_X6_error hG (by omega) (by decide) ⟨_, rfl, k.no Fr.rf (by rw [fewR, if_pos htt, if_pos hy, if_pos hz, if_neg q3]) (by decide)⟩
  have hk : fewR t y z (m 76) = fwV (fwA t (m 76) 1 y.toNatClampNeg) z := by rw [fewR, if_pos htt, if_pos hy, if_pos hz, if_pos q3]
  rw [hk] at k
  obtain ⟨Y, rfl, hY⟩ := of13 hy
  rw [tn_o (by omega)] at k
  have hloop : ∀ (r c : Nat), c + r = Y + 2 → 1 ≤ c → fwA t (m 76) 1 (Y + 1) = fwA t (m 76) c r → ∀ m', Fr [78, 81, 82, 83] m m' → WP G (rmD (d + 1) 0 0) mX6_fewest (QC G SH (TA tt n i) K) 0 0 50 [(0, .ref 75), (1, .int t), (2, .int (Int32.ofNat (Y + 1))), (3, .int z), (4, .int (Int32.ofNat c))] [] (SH, TA tt n i, m') := by
    intro r
    induction r with
    | zero =>
      intro c hc _ he m' hf
      have hlt : Int32.ofNat (Y + 1) < Int32.ofNat c := (o_lt (by omega) (by omega)).mpr (by omega)
      refine rg_X6_fewest_50 hG 75 t _ z _ ⟨fun _ => ⟨fun _ => ⟨rfl, c_X6_error hG (by omega) (by decide) ⟨_, rfl, k.no hf ?_ (by decide)⟩⟩, fun q => absurd hlt q⟩, fun q => absurd hlt q⟩
      rw [he]
      rfl
    | succ r ih =>
      intro c hc h1 he m' hf
      have hlt : ¬ Int32.ofNat (Y + 1) < Int32.ofNat c := fun q => by
        rw [o_lt (by omega) (by omega)] at q
        omega
      have h76 : m' 76 = m 76 := hf 76 (by decide)
      have hv := c_X6_wins (G := G) (n := n) (i := i) (t0 := tt) hG t c 0 d m'
      simp only [Nat.zero_add, h76] at hv
      refine rg_X6_fewest_50 hG 75 t _ z _ ⟨fun q => absurd q hlt, fun _ => ⟨rfl, hv _ (by omega) (by omega) hw htt (fun m2 hf2 _ _ hl => ⟨_, rfl, ?_⟩)⟩⟩
      have hf3 : Fr [78, 81, 82, 83] m m2 := hf.tr hf2
      simp only [fwA] at he
      cases ho : wnA t c (m 76) with
      | none =>
        rw [ho] at he
        refine ⟨fun q => absurd rfl q, fun _ => ?_⟩
        rw [o_1]
        exact ih (c + 1) (by omega) (by omega) he m2 hf3
      | some l =>
        rw [ho] at he
        refine ⟨fun _ => ⟨fun q => absurd q hlt, fun _ => ?_⟩, fun q => absurd (show (1 : Int32) = 0 from q) (by decide)⟩
        rw [show fwA t (m 76) 1 (Y + 1) = some (c, l) from he] at k
        have fe := few_end (w := m2 83) ⟨h1, by omega⟩ (wnA_len _ _ _ ho) (hl l ho) hz
        have ge : ¬ z = -1 → 0 ≤ z := fun q => Decidable.byContradiction fun h => q (neg1 hz.1 h)
        exact ⟨fun q => ⟨fun q2 => ⟨83, rfl, 3, rfl, (fe.1 q (ge q2)).1, k.ok hf3 (fe.1 q (ge q2)).2⟩, fun q2 => k.ok hf3 (fe.2.1 q q2)⟩, fun q => c_X6_error hG (by omega) (by decide) ⟨_, rfl, k.no hf3 (fe.2.2 q) (by decide)⟩⟩
  exact hloop (Y + 1) 1 (by omega) (Nat.le_refl _) rfl m Fr.rf

