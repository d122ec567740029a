section
variable {G : Gm} {d : Nat} {sh : List Shp} {ta : Nat → Nat → Option Nat} {m : Mem} {K : Option Value → Mem → Prop}
set_option maxHeartbeats 4000000 in
set_option maxRecDepth 20000 in
theorem rg_X2_holds_0 (hG : fl G = false) (b : Nat) (x1 : Int32) (h : ((x1 < 0 → K (some (.int 0)) m) ∧ (¬ x1 < 0 → sh[b]? = some (.inl 2) ∧ (((m b 1) ≤ x1 → K (some (.int 0)) m) ∧ (¬ (m b 1) ≤ x1 → K (some (.int 1)) m))))) : WP G (rmD (d + 1) 0 0) mX2_holds (QC G sh ta K) 0 0 0 [(0, .ref b), (1, .int x1)] [] (sh, ta, m) := by
  refine WP.iload_n 1 dX2_holds_0 rfl rfl ?_
  refine WP.if_lt (tgt := 16) dX2_holds_1 (by decide) (fun c1 => ?_) (fun c1 => ?_)
  · have h := h.1 c1
    refine WP.iconst (v := 0) dX2_holds_16 rfl ?_
    exact WP.zret dX2_holds_17 rfl (Nat.le_refl _) (Nat.le_refl _) rfl ⟨_, rfl, h⟩
  · have h := h.2 c1
    refine WP.iload_n 1 dX2_holds_4 rfl rfl ?_
    refine WP.aload_n 0 dX2_holds_5 rfl rfl ?_
    obtain ⟨h2, h⟩ := h
    refine WP.getI 2 1 wf_X2_19 (by decide) (by decide) rfl h2 dX2_holds_6 ?_
    refine WP.icmp_ge (tgt := 16) dX2_holds_9 (by decide) (fun c3 => ?_) (fun c3 => ?_)
    · have h := h.1 c3
      refine WP.iconst (v := 0) dX2_holds_16 rfl ?_
      exact WP.zret dX2_holds_17 rfl (Nat.le_refl _) (Nat.le_refl _) rfl ⟨_, rfl, h⟩
    · have h := h.2 c3
      refine WP.iconst (v := 1) dX2_holds_12 rfl ?_
      refine WP.goto (tgt := 17) dX2_holds_13 (by decide) ?_
      exact WP.zret dX2_holds_17 rfl (Nat.le_refl _) (Nat.le_refl _) rfl ⟨_, rfl, h⟩
set_option maxHeartbeats 4000000 in
set_option maxRecDepth 20000 in
theorem rg_X2_holdsRun_0 (hG : fl G = false) (b : Nat) (x1 : Int32) (x2 : Int32) (h : ((x1 < 0 → K (some (.int 0)) m) ∧ (¬ x1 < 0 → ((x2 < 0 → K (some (.int 0)) m) ∧ (¬ x2 < 0 → sh[b]? = some (.inl 2) ∧ (((m b 1) < x2 → K (some (.int 0)) m) ∧ (¬ (m b 1) < x2 → ((((m b 1) - x2) < x1 → K (some (.int 0)) m) ∧ (¬ ((m b 1) - x2) < x1 → K (some (.int 1)) m))))))))) : WP G (rmD (d + 1) 0 0) mX2_holdsRun (QC G sh ta K) 0 0 0 [(0, .ref b), (1, .int x1), (2, .int x2)] [] (sh, ta, m) := by
  refine WP.iload_n 1 dX2_holdsRun_0 rfl rfl ?_
  refine WP.if_lt (tgt := 30) dX2_holdsRun_1 (by decide) (fun c1 => ?_) (fun c1 => ?_)
  · have h := h.1 c1
    refine WP.iconst (v := 0) dX2_holdsRun_30 rfl ?_
    exact WP.zret dX2_holdsRun_31 rfl (Nat.le_refl _) (Nat.le_refl _) rfl ⟨_, rfl, h⟩
  · have h := h.2 c1
    refine WP.iload_n 2 dX2_holdsRun_4 rfl rfl ?_
    refine WP.if_lt (tgt := 30) dX2_holdsRun_5 (by decide) (fun c2 => ?_) (fun c2 => ?_)
    · have h := h.1 c2
      refine WP.iconst (v := 0) dX2_holdsRun_30 rfl ?_
      exact WP.zret dX2_holdsRun_31 rfl (Nat.le_refl _) (Nat.le_refl _) rfl ⟨_, rfl, h⟩
    · have h := h.2 c2
      refine WP.iload_n 2 dX2_holdsRun_8 rfl rfl ?_
      refine WP.aload_n 0 dX2_holdsRun_9 rfl rfl ?_
      obtain ⟨h3, h⟩ := h
      refine WP.getI 2 1 wf_X2_19 (by decide) (by decide) rfl h3 dX2_holdsRun_10 ?_
      refine WP.icmp_gt (tgt := 30) dX2_holdsRun_13 (by decide) (fun c4 => ?_) (fun c4 => ?_)
      · have h := h.1 c4
        refine WP.iconst (v := 0) dX2_holdsRun_30 rfl ?_
        exact WP.zret dX2_holdsRun_31 rfl (Nat.le_refl _) (Nat.le_refl _) rfl ⟨_, rfl, h⟩
      · have h := h.2 c4
        refine WP.iload_n 1 dX2_holdsRun_16 rfl rfl ?_
        refine WP.aload_n 0 dX2_holdsRun_17 rfl rfl ?_
        refine WP.getI 2 1 wf_X2_19 (by decide) (by decide) rfl h3 dX2_holdsRun_18 ?_
        refine WP.iload_n 2 dX2_holdsRun_21 rfl rfl ?_
        refine WP.isub dX2_holdsRun_22 ?_
        refine WP.icmp_gt (tgt := 30) dX2_holdsRun_23 (by decide) (fun c5 => ?_) (fun c5 => ?_)
        · have h := h.1 c5
          refine WP.iconst (v := 0) dX2_holdsRun_30 rfl ?_
          exact WP.zret dX2_holdsRun_31 rfl (Nat.le_refl _) (Nat.le_refl _) rfl ⟨_, rfl, h⟩
        · have h := h.2 c5
          refine WP.iconst (v := 1) dX2_holdsRun_26 rfl ?_
          refine WP.goto (tgt := 31) dX2_holdsRun_27 (by decide) ?_
          exact WP.zret dX2_holdsRun_31 rfl (Nat.le_refl _) (Nat.le_refl _) rfl ⟨_, rfl, h⟩
set_option maxHeartbeats 4000000 in
set_option maxRecDepth 20000 in
theorem rg_X2_at_0 (hG : fl G = false) (b : Nat) (x1 : Int32) (h : sh[b]? = some (.inl 2) ∧ Cal G mX2_holds d [.ref b, .int x1] sh ta m (fun v1 m2 => ∃ r3, v1 = some (.int r3) ∧ ((r3 = 0 → K (some (.int 0)) m2) ∧ (¬ r3 = 0 → ∃ i7, ta b 0 = some i7 ∧ ∃ n10, sh[i7]? = some (.inr (0, n10)) ∧ InB x1 n10 ∧ K (some (.int (rd (m2 i7) x1))) m2)))) : WP G (rmD (d + 1) 0 0) mX2_at (QC G sh ta K) 0 0 0 [(0, .ref b), (1, .int x1)] [] (sh, ta, m) := by
  refine WP.aload_n 0 dX2_at_0 rfl rfl ?_
  refine WP.iload_n 1 dX2_at_1 rfl rfl ?_
  obtain ⟨h5, h⟩ := h
  refine WP.callV (y := mX2_holds) (As := [.int x1]) (st := []) dX2_at_2 wm_X2_23 mw_X2_holds rfl (Nat.le_of_ble_eq_true rfl) (rmok d) h5 (by decide) rfl h (fun v1 Sm2 h4 => ?_)
  obtain ⟨m2, rfl, r3, rfl, h⟩ := h4
  show WP G _ _ _ 0 0 5 [(0, .ref b), (1, .int x1)] [.int r3] (sh, ta, m2)
  refine WP.if_eq (tgt := 17) dX2_at_5 (by decide) (fun c6 => ?_) (fun c6 => ?_)
  · have h := h.1 c6
    refine WP.iconst (v := 0) dX2_at_17 rfl ?_
    exact WP.iret dX2_at_18 rfl (Nat.le_refl _) (Nat.le_refl _) ⟨_, rfl, h⟩
  · have h := h.2 c6
    refine WP.aload_n 0 dX2_at_8 rfl rfl ?_
    obtain ⟨i7, h8, h⟩ := h
    refine WP.getR 2 0 wf_X2_13 (by decide) (by decide) rfl h5 h8 dX2_at_9 ?_
    refine WP.iload_n 1 dX2_at_12 rfl rfl ?_
    obtain ⟨n10, h9, h⟩ := h
    obtain ⟨h11, h⟩ := h
    refine WP.iald h9 h11 dX2_at_13 ?_
    refine WP.goto (tgt := 18) dX2_at_14 (by decide) ?_
    exact WP.iret dX2_at_18 rfl (Nat.le_refl _) (Nat.le_refl _) ⟨_, rfl, h⟩
set_option maxHeartbeats 4000000 in
set_option maxRecDepth 20000 in
theorem rg_X2_add_0 (hG : fl G = false) (b : Nat) (x1 : Int32) (h : sh[b]? = some (.inl 2) ∧ ∃ i2, ta b 0 = some i2 ∧ ∃ n5, sh[i2]? = some (.inr (0, n5)) ∧ (((Int32.ofNat n5) ≤ (m b 1) → K none m) ∧ (¬ (Int32.ofNat n5) ≤ (m b 1) → InB (m b 1) n5 ∧ ∀ m8, m8 = upa m i2 (m b 1) x1 → ∀ m9, m9 = up2 m8 b 1 ((m8 b 1) + 1) → K none m9))) : WP G (rmD (d + 1) 0 0) mX2_add (QC G sh ta K) 0 0 0 [(0, .ref b), (1, .int x1)] [] (sh, ta, m) := by
  refine WP.aload_n 0 dX2_add_0 rfl rfl ?_
  obtain ⟨h1, h⟩ := h
  refine WP.getI 2 1 wf_X2_19 (by decide) (by decide) rfl h1 dX2_add_1 ?_
  refine WP.aload_n 0 dX2_add_4 rfl rfl ?_
  obtain ⟨i2, h3, h⟩ := h
  refine WP.getR 2 0 wf_X2_13 (by decide) (by decide) rfl h1 h3 dX2_add_5 ?_
  obtain ⟨n5, h4, h⟩ := h
  refine WP.alen (Int32.ofNat n5) h4 rfl dX2_add_8 ?_
  refine WP.icmp_ge (tgt := 32) dX2_add_9 (by decide) (fun c6 => ?_) (fun c6 => ?_)
  · have h := h.1 c6
    exact WP.vret dX2_add_32 rfl (Nat.le_refl _) (Nat.le_refl _) ⟨_, rfl, h⟩
  · have h := h.2 c6
    refine WP.aload_n 0 dX2_add_12 rfl rfl ?_
    refine WP.getR 2 0 wf_X2_13 (by decide) (by decide) rfl h1 h3 dX2_add_13 ?_
    refine WP.aload_n 0 dX2_add_16 rfl rfl ?_
    refine WP.getI 2 1 wf_X2_19 (by decide) (by decide) rfl h1 dX2_add_17 ?_
    refine WP.iload_n 1 dX2_add_20 rfl rfl ?_
    obtain ⟨h7, h⟩ := h
    have h := h _ rfl
    refine WP.iast h4 h7 dX2_add_21 ?_
    generalize upa m i2 (m b 1) x1 = m8 at h ⊢
    refine WP.aload_n 0 dX2_add_22 rfl rfl ?_
    refine WP.dup dX2_add_23 rfl ?_
    refine WP.getI 2 1 wf_X2_19 (by decide) (by decide) rfl h1 dX2_add_24 ?_
    refine WP.iconst (v := 1) dX2_add_27 rfl ?_
    refine WP.iadd dX2_add_28 ?_
    have h := h _ rfl
    refine WP.putI 2 1 wf_X2_19 (by decide) (by decide) rfl h1 rfl rfl rfl dX2_add_29 ?_
    generalize up2 m8 b 1 ((m8 b 1) + 1) = m9 at h ⊢
    exact WP.vret dX2_add_32 rfl (Nat.le_refl _) (Nat.le_refl _) ⟨_, rfl, h⟩
set_option maxHeartbeats 4000000 in
set_option maxRecDepth 20000 in
theorem rg_X2_change_0 (hG : fl G = false) (b : Nat) (x1 : Int32) (x2 : Int32) (h : sh[b]? = some (.inl 2) ∧ Cal G mX2_holds d [.ref b, .int x1] sh ta m (fun v1 m2 => ∃ r3, v1 = some (.int r3) ∧ ((r3 = 0 → K none m2) ∧ (¬ r3 = 0 → ∃ i7, ta b 0 = some i7 ∧ ∃ n10, sh[i7]? = some (.inr (0, n10)) ∧ InB x1 n10 ∧ ∀ m12, m12 = upa m2 i7 x1 x2 → K none m12)))) : WP G (rmD (d + 1) 0 0) mX2_change (QC G sh ta K) 0 0 0 [(0, .ref b), (1, .int x1), (2, .int x2)] [] (sh, ta, m) := by
  refine WP.aload_n 0 dX2_change_0 rfl rfl ?_
  refine WP.iload_n 1 dX2_change_1 rfl rfl ?_
  obtain ⟨h5, h⟩ := h
  refine WP.callV (y := mX2_holds) (As := [.int x1]) (st := []) dX2_change_2 wm_X2_23 mw_X2_holds rfl (Nat.le_of_ble_eq_true rfl) (rmok d) h5 (by decide) rfl h (fun v1 Sm2 h4 => ?_)
  obtain ⟨m2, rfl, r3, rfl, h⟩ := h4
  show WP G _ _ _ 0 0 5 [(0, .ref b), (1, .int x1), (2, .int x2)] [.int r3] (sh, ta, m2)
  refine WP.if_eq (tgt := 15) dX2_change_5 (by decide) (fun c6 => ?_) (fun c6 => ?_)
  · have h := h.1 c6
    exact WP.vret dX2_change_15 rfl (Nat.le_refl _) (Nat.le_refl _) ⟨_, rfl, h⟩
  · have h := h.2 c6
    refine WP.aload_n 0 dX2_change_8 rfl rfl ?_
    obtain ⟨i7, h8, h⟩ := h
    refine WP.getR 2 0 wf_X2_13 (by decide) (by decide) rfl h5 h8 dX2_change_9 ?_
    refine WP.iload_n 1 dX2_change_12 rfl rfl ?_
    refine WP.iload_n 2 dX2_change_13 rfl rfl ?_
    obtain ⟨n10, h9, h⟩ := h
    obtain ⟨h11, h⟩ := h
    have h := h _ rfl
    refine WP.iast h9 h11 dX2_change_14 ?_
    generalize upa m2 i7 x1 x2 = m12 at h ⊢
    exact WP.vret dX2_change_15 rfl (Nat.le_refl _) (Nat.le_refl _) ⟨_, rfl, h⟩
set_option maxHeartbeats 4000000 in
set_option maxRecDepth 20000 in
theorem rg_X2_clear_0 (hG : fl G = false) (b : Nat) (h : sh[b]? = some (.inl 2) ∧ ∀ m2, m2 = up2 m b 1 0 → K none m2) : WP G (rmD (d + 1) 0 0) mX2_clear (QC G sh ta K) 0 0 0 [(0, .ref b)] [] (sh, ta, m) := by
  refine WP.aload_n 0 dX2_clear_0 rfl rfl ?_
  refine WP.iconst (v := 0) dX2_clear_1 rfl ?_
  obtain ⟨h1, h⟩ := h
  have h := h _ rfl
  refine WP.putI 2 1 wf_X2_19 (by decide) (by decide) rfl h1 rfl rfl rfl dX2_clear_2 ?_
  generalize up2 m b 1 0 = m2 at h ⊢
  exact WP.vret dX2_clear_5 rfl (Nat.le_refl _) (Nat.le_refl _) ⟨_, rfl, h⟩
set_option maxHeartbeats 4000000 in
set_option maxRecDepth 20000 in
theorem rg_X2_copyFrom_0 (hG : fl G = false) (b : Nat) (b1 : Nat) (h : sh[b]? = some (.inl 2) ∧ ∃ i2, ta b 0 = some i2 ∧ ∃ n5, sh[i2]? = some (.inr (0, n5)) ∧ sh[b1]? = some (.inl 2) ∧ ∀ m7, m7 = up2 m b 1 (if (m b1 1) < (Int32.ofNat n5) then (m b1 1) else (Int32.ofNat n5)) → ∃ i8, ta b1 0 = some i8 ∧ ∃ n11, sh[i8]? = some (.inr (0, n11)) ∧ ¬ ((0 : Int32)) < 0 ∧ ¬ ((0 : Int32)) < 0 ∧ ¬ ((m7 b 1 : Int32)) < 0 ∧ (0 : Int32).toNatClampNeg + (m7 b 1 : Int32).toNatClampNeg ≤ n11 ∧ (0 : Int32).toNatClampNeg + (m7 b 1 : Int32).toNatClampNeg ≤ n5 ∧ ∀ m17, m17 = cp2 m7 i2 (0 : Int32).toNatClampNeg i8 (0 : Int32).toNatClampNeg (m7 b 1 : Int32).toNatClampNeg → K none m17) : WP G (rmD (d + 1) 0 0) mX2_copyFrom (QC G sh ta K) 0 0 0 [(0, .ref b), (1, .ref b1)] [] (sh, ta, m) := by
  refine WP.aload_n 0 dX2_copyFrom_0 rfl rfl ?_
  refine WP.aload_n 0 dX2_copyFrom_1 rfl rfl ?_
  obtain ⟨h1, h⟩ := h
  obtain ⟨i2, h3, h⟩ := h
  refine WP.getR 2 0 wf_X2_13 (by decide) (by decide) rfl h1 h3 dX2_copyFrom_2 ?_
  obtain ⟨n5, h4, h⟩ := h
  refine WP.alen (Int32.ofNat n5) h4 rfl dX2_copyFrom_5 ?_
  refine WP.aload_n 1 dX2_copyFrom_6 rfl rfl ?_
  obtain ⟨h6, h⟩ := h
  refine WP.getI 2 1 wf_X2_19 (by decide) (by decide) rfl h6 dX2_copyFrom_7 ?_
  refine WP.mmin wm_X2_27 (Nat.le_of_ble_eq_true rfl) (rmok0 d) dX2_copyFrom_10 ?_
  have h := h _ rfl
  refine WP.putI 2 1 wf_X2_19 (by decide) (by decide) rfl h1 rfl rfl rfl dX2_copyFrom_13 ?_
  generalize up2 m b 1 (if (m b1 1) < (Int32.ofNat n5) then (m b1 1) else (Int32.ofNat n5)) = m7 at h ⊢
  refine WP.aload_n 1 dX2_copyFrom_16 rfl rfl ?_
  obtain ⟨i8, h9, h⟩ := h
  refine WP.getR 2 0 wf_X2_13 (by decide) (by decide) rfl h6 h9 dX2_copyFrom_17 ?_
  refine WP.iconst (v := 0) dX2_copyFrom_20 rfl ?_
  refine WP.aload_n 0 dX2_copyFrom_21 rfl rfl ?_
  refine WP.getR 2 0 wf_X2_13 (by decide) (by decide) rfl h1 h3 dX2_copyFrom_22 ?_
  refine WP.iconst (v := 0) dX2_copyFrom_25 rfl ?_
  refine WP.aload_n 0 dX2_copyFrom_26 rfl rfl ?_
  refine WP.getI 2 1 wf_X2_19 (by decide) (by decide) rfl h1 dX2_copyFrom_27 ?_
  obtain ⟨n11, h10, h⟩ := h
  obtain ⟨h12, h13, h14, h15, h16, h⟩ := h
  have h := h _ rfl
  refine WP.copy hG wm_X2_30 h10 h4 (Nat.le_of_ble_eq_true rfl) (rmok0 d) h12 h13 h14 h15 h16 dX2_copyFrom_30 ?_
  generalize cp2 m7 i2 (0 : Int32).toNatClampNeg i8 (0 : Int32).toNatClampNeg (m7 b 1 : Int32).toNatClampNeg = m17 at h ⊢
  exact WP.vret dX2_copyFrom_33 rfl (Nat.le_refl _) (Nat.le_refl _) ⟨_, rfl, h⟩
set_option maxHeartbeats 4000000 in
set_option maxRecDepth 20000 in
theorem rg_X2_copyRun_0 (hG : fl G = false) (b : Nat) (x1 : Int32) (b2 : Nat) (x3 : Int32) (x4 : Int32) (h : sh[b]? = some (.inl 2) ∧ Cal G mX2_holdsRun d [.ref b, .int x1, .int x4] sh ta m (fun v1 m2 => ∃ r3, v1 = some (.int r3) ∧ ((r3 = 0 → K none m2) ∧ (¬ r3 = 0 → sh[b2]? = some (.inl 2) ∧ Cal G mX2_holdsRun d [.ref b2, .int x3, .int x4] sh ta m2 (fun v7 m8 => ∃ r9, v7 = some (.int r9) ∧ ((r9 = 0 → K none m8) ∧ (¬ r9 = 0 → ∃ i13, ta b2 0 = some i13 ∧ ∃ i15, ta b 0 = some i15 ∧ ∃ n18, sh[i13]? = some (.inr (0, n18)) ∧ ∃ n20, sh[i15]? = some (.inr (0, n20)) ∧ ¬ ((x3 : Int32)) < 0 ∧ ¬ ((x1 : Int32)) < 0 ∧ ¬ ((x4 : Int32)) < 0 ∧ (x3 : Int32).toNatClampNeg + (x4 : Int32).toNatClampNeg ≤ n18 ∧ (x1 : Int32).toNatClampNeg + (x4 : Int32).toNatClampNeg ≤ n20 ∧ ∀ m26, m26 = cp2 m8 i15 (x1 : Int32).toNatClampNeg i13 (x3 : Int32).toNatClampNeg (x4 : Int32).toNatClampNeg → K none m26))))))) : WP G (rmD (d + 1) 0 0) mX2_copyRun (QC G sh ta K) 0 0 0 [(0, .ref b), (1, .int x1), (2, .ref b2), (3, .int x3), (4, .int x4)] [] (sh, ta, m) := by
  refine WP.aload_n 0 dX2_copyRun_0 rfl rfl ?_
  refine WP.iload_n 1 dX2_copyRun_1 rfl rfl ?_
  refine WP.iload 4 dX2_copyRun_2 rfl ?_
  obtain ⟨h5, h⟩ := h
  refine WP.callV (y := mX2_holdsRun) (As := [.int x1, .int x4]) (st := []) dX2_copyRun_4 wm_X2_36 mw_X2_holdsRun rfl (Nat.le_of_ble_eq_true rfl) (rmok d) h5 (by decide) rfl h (fun v1 Sm2 h4 => ?_)
  obtain ⟨m2, rfl, r3, rfl, h⟩ := h4
  show WP G _ _ _ 0 0 7 [(0, .ref b), (1, .int x1), (2, .ref b2), (3, .int x3), (4, .int x4)] [.int r3] (sh, ta, m2)
  refine WP.if_eq (tgt := 35) dX2_copyRun_7 (by decide) (fun c6 => ?_) (fun c6 => ?_)
  · have h := h.1 c6
    exact WP.vret dX2_copyRun_35 rfl (Nat.le_refl _) (Nat.le_refl _) ⟨_, rfl, h⟩
  · have h := h.2 c6
    refine WP.aload_n 2 dX2_copyRun_10 rfl rfl ?_
    refine WP.iload_n 3 dX2_copyRun_11 rfl rfl ?_
    refine WP.iload 4 dX2_copyRun_12 rfl ?_
    obtain ⟨h11, h⟩ := h
    refine WP.callV (y := mX2_holdsRun) (As := [.int x3, .int x4]) (st := []) dX2_copyRun_14 wm_X2_36 mw_X2_holdsRun rfl (Nat.le_of_ble_eq_true rfl) (rmok d) h11 (by decide) rfl h (fun v7 Sm8 h10 => ?_)
    obtain ⟨m8, rfl, r9, rfl, h⟩ := h10
    show WP G _ _ _ 0 0 17 [(0, .ref b), (1, .int x1), (2, .ref b2), (3, .int x3), (4, .int x4)] [.int r9] (sh, ta, m8)
    refine WP.if_eq (tgt := 35) dX2_copyRun_17 (by decide) (fun c12 => ?_) (fun c12 => ?_)
    · have h := h.1 c12
      exact WP.vret dX2_copyRun_35 rfl (Nat.le_refl _) (Nat.le_refl _) ⟨_, rfl, h⟩
    · have h := h.2 c12
      refine WP.aload_n 2 dX2_copyRun_20 rfl rfl ?_
      obtain ⟨i13, h14, h⟩ := h
      refine WP.getR 2 0 wf_X2_13 (by decide) (by decide) rfl h11 h14 dX2_copyRun_21 ?_
      refine WP.iload_n 3 dX2_copyRun_24 rfl rfl ?_
      refine WP.aload_n 0 dX2_copyRun_25 rfl rfl ?_
      obtain ⟨i15, h16, h⟩ := h
      refine WP.getR 2 0 wf_X2_13 (by decide) (by decide) rfl h5 h16 dX2_copyRun_26 ?_
      refine WP.iload_n 1 dX2_copyRun_29 rfl rfl ?_
      refine WP.iload 4 dX2_copyRun_30 rfl ?_
      obtain ⟨n18, h17, h⟩ := h
      obtain ⟨n20, h19, h⟩ := h
      obtain ⟨h21, h22, h23, h24, h25, h⟩ := h
      have h := h _ rfl
      refine WP.copy hG wm_X2_30 h17 h19 (Nat.le_of_ble_eq_true rfl) (rmok0 d) h21 h22 h23 h24 h25 dX2_copyRun_32 ?_
      generalize cp2 m8 i15 (x1 : Int32).toNatClampNeg i13 (x3 : Int32).toNatClampNeg (x4 : Int32).toNatClampNeg = m26 at h ⊢
      exact WP.vret dX2_copyRun_35 rfl (Nat.le_refl _) (Nat.le_refl _) ⟨_, rfl, h⟩
end
