-- 44.haul
-- the class's sheets hold what the model's arrays say
def ShC (m : Mem) (g z u : Nat → Int32) : Prop := ∀ x, x < 4 → m 32 x = g x ∧ m (24 + 2 * x) 1 = z x ∧ ∀ j, Int32.ofNat j < z x → j < 24 → m (24 + 2 * x + 1) j = u (24 * x + j)
def ShZ (z : Nat → Int32) : Prop := ∀ x, x < 4 → ∃ k, k ≤ 24 ∧ z x = Int32.ofNat k
set_option maxHeartbeats 4000000 in
theorem rowS {t n i : Nat} : ∀ x, x < 4 → SH[24 + 2 * x]? = some (.inl 2) ∧ TA t n i (24 + 2 * x) 0 = some (24 + 2 * x + 1) ∧ SH[24 + 2 * x + 1]? = some (.inr (0, 24)) ∧ TA t n i 23 x = some (24 + 2 * x)
  | 0, _ => ⟨rfl, rfl, rfl, rfl⟩
  | 1, _ => ⟨rfl, rfl, rfl, rfl⟩
  | 2, _ => ⟨rfl, rfl, rfl, rfl⟩
  | 3, _ => ⟨rfl, rfl, rfl, rfl⟩
  | k + 4, h => absurd h (by omega)
set_option maxHeartbeats 4000000 in
theorem lkS_0 {g : Nat → Int32} {x : Int32} (h : lkS g x = 0) : ∃ k : Nat, k < 4 ∧ x = Int32.ofNat k ∧ g k ≠ 0 := by
  unfold lkS at h
  split at h
  · rename_i hx
    have e := o_of hx.1
    have a := Int32.le_iff_toInt_le.mp hx.1
    have b := Int32.le_iff_toInt_le.mp hx.2
    rw [show (0 : Int32).toInt = 0 from rfl] at a
    rw [show (3 : Int32).toInt = 3 from rfl] at b
    have e2 : x.toNatClampNeg = x.toInt.toNat := rfl
    refine ⟨x.toNatClampNeg, by omega, e, fun q => ?_⟩
    rw [if_pos (show rd g x = 0 from q)] at h
    exact absurd h (by decide)
  · exact absurd h (by decide)
set_option maxHeartbeats 4000000 in
theorem lkS_n {g : Nat → Int32} {x : Int32} (h : lkS g x ≠ 0) : 1 ≤ lkS g x ∧ lkS g x < 7 := by
  unfold lkS at h ⊢
  split
  · rename_i hx
    rw [if_pos hx] at h
    split
    · decide
    · rename_i h2
      rw [if_neg h2] at h
      exact absurd rfl h
  · decide
set_option maxHeartbeats 4000000 in
theorem lkS_p {g : Nat → Int32} {x : Int32} : lkS g x ≤ 0 ↔ lkS g x = 0 := by
  constructor
  · intro h
    exact Decidable.byContradiction fun q => absurd (Int32.le_trans (lkS_n q).1 h) (by decide)
  · intro h; rw [h]; decide
set_option maxHeartbeats 4000000 in
theorem lkS_eq {m : Mem} {g z u : Nat → Int32} {x : Int32} (h : ShC m g z u) : lkS (m 32) x = lkS g x := by
  unfold lkS
  by_cases hx : 0 ≤ x ∧ x ≤ 3
  · rw [if_pos hx, if_pos hx]
    have a := Int32.le_iff_toInt_le.mp hx.1
    have b := Int32.le_iff_toInt_le.mp hx.2
    rw [show (0 : Int32).toInt = 0 from rfl] at a
    rw [show (3 : Int32).toInt = 3 from rfl] at b
    have e2 : x.toNatClampNeg = x.toInt.toNat := rfl
    unfold rd
    rw [(h x.toNatClampNeg (by omega)).1]
  · rw [if_neg hx, if_neg hx]
def haR (g z u : Nat → Int32) (x : Int32) (f : Nat → Int32) : Int32 × Int32 := if lkS g x = 0 then (0, hls (fun j => u (24 * x.toNatClampNeg + j)) f 0 0 (rwf (fun j => u (24 * x.toNatClampNeg + j)) 0 (rd z x).toNatClampNeg)) else (lkS g x, 0)
set_option maxHeartbeats 4000000 in
theorem c_X6_haul {G : Gm} {t n i : Nat} (hG : fl G = false) {d : Nat} {x : Int32} {m : Mem} {K : Option Value → Mem → Prop} (hd : 10 ≤ d) (hz : ShZ (m 86)) (hw : WF (m 76)) (k : Ans [78, 81, 82] 79 m K (haR (m 85) (m 86) (m 87) x (m 76))) : Cal G mX6_haul d [.ref 75, .int x] SH (TA t n i) m K := by
  obtain ⟨d, rfl⟩ : ∃ e, d = e + 1 := ⟨d - 1, by omega⟩
  refine Cal.of (by decide +kernel) rfl (Nat.le_of_ble_eq_true rfl) (rg_X6_haul_0 hG 75 x ⟨rfl, c_X6_lacks hG (by omega) ⟨_, rfl, fun q => ?_, fun q => ?_⟩⟩)
  · have q := lkS_p.mp q
    obtain ⟨xx, h4, rfl, -⟩ := lkS_0 q
    obtain ⟨zz, hzz, ez⟩ := hz xx h4
    refine c_X6_hauls hG (by omega) h4 ez hzz hw (fun m' hf _ => ⟨_, rfl, k.ok hf ?_⟩)
    rw [haR, if_pos q, tn_o (by omega), rd_o (by omega), ez, tn_o (by omega)]
  · have q : lkS (m 85) x ≠ 0 := fun e => q (lkS_p.mpr e)
    have hn := lkS_n q
    exact c_X6_error hG (by omega) ⟨Int32.le_trans (by decide) hn.1, hn.2⟩ ⟨_, rfl, k.no Fr.rf (by rw [haR, if_neg q]) q⟩
set_option maxHeartbeats 4000000 in
theorem c_X5_haul {G : Gm} {t n i : Nat} (hG : fl G = false) {d : Nat} {x : Int32} {m : Mem} {K : Option Value → Mem → Prop} {f g z u : Nat → Int32} (hd : 10 ≤ d) (hs : ShC m g z u) (hz : ShZ z) (hb : RB m 35 44 f) (ht : RT m 36 40 f) (hw : WF f) (k : Ans [36, 39, 40, 43, 67, 68, 69, 70, 71, 72, 73, 74] 34 m K (haR g z u x f)) : Cal G mX5_haul d [.ref 0, .int x] SH (TA t n i) m K := by
  obtain ⟨d, rfl⟩ : ∃ e, d = e + 1 := ⟨d - 1, by omega⟩
  have hl := lkS_eq (x := x) hs
  refine Cal.of (by decide +kernel) rfl (Nat.le_of_ble_eq_true rfl) (rg_X5_haul_0 hG 0 x ⟨rfl, c_X5_lackOf hG (by omega) ⟨_, rfl, fun q => ?_, fun q => ?_⟩⟩)
  · rw [hl] at q
    obtain ⟨xx, h4, rfl, -⟩ := lkS_0 q
    obtain ⟨zz, hzz, ez⟩ := hz xx h4
    obtain ⟨r1, r2, r3, r4⟩ := rowS (t := t) (n := n) (i := i) xx h4
    refine ⟨67, rfl, 35, rfl, rfl, c_X0_copyFrom hG (by omega) B67 B35 hb hw.1 hw.2.1 ⟨by decide, Or.inl (by decide)⟩ (fun m1 hf1 hb1 _ _ => ⟨rfl, 23, rfl, 4, rfl, ib_o h4 (by decide), 24 + 2 * xx, by rw [tn_o (by omega)]; exact r4, ?_⟩)⟩
    have ht1 : RT m1 36 40 f := ht.fr hf1 (by decide) (by decide) (by decide) (by decide)
    have e0 : m1 (24 + 2 * xx) = m (24 + 2 * xx) := hf1 _ (by simp; omega)
    have e1 : m1 (24 + 2 * xx + 1) = m (24 + 2 * xx + 1) := hf1 _ (by simp; omega)
    refine c_X5_haulOf hG (by omega) (by omega) r1 r2 r3 (by rw [e0, (hs xx h4).2.1, ez]) hzz hb1 ht1 hw (fun m' hf => ⟨_, rfl, k.ok ((hf1.mo (by simp)).tr (hf.mo (by simp))) ?_⟩)
    have hu : ∀ j, j < zz → m (24 + 2 * xx + 1) j = u (24 * xx + j) := fun j hj => (hs xx h4).2.2 j (by rw [ez]; exact (o_lt (by omega) (by omega)).mpr hj) (by omega)
    rw [haR, if_pos q, tn_o (by omega), rd_o (by omega), ez, tn_o (by omega), e1]
    have er : rwf (m (24 + 2 * xx + 1)) 0 zz = rwf (fun j => u (24 * xx + j)) 0 zz := rwf_eq zz 0 (fun j _ hj => hu j (by omega))
    rw [er, hls_eq (w := m (24 + 2 * xx + 1)) (v := fun j => u (24 * xx + j)) _ 0 f 0 (fun j _ hj => hu j (by have := rwf_le (w := fun j => u (24 * xx + j)) zz 0; omega))]
  · rw [hl] at q ⊢
    have hn := lkS_n q
    exact c_X5_refuse hG (by omega) hn ⟨_, rfl, k.no Fr.rf (by rw [haR, if_neg q]) q⟩

