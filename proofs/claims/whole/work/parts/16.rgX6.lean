section
variable {G : Gm} {d : Nat} {sh : List Shp} {ta : Nat → Nat → Option Nat} {m : Mem} {K : Option Value → Mem → Prop}
set_option maxHeartbeats 4000000 in
set_option maxRecDepth 20000 in
theorem rg_X6_error_0 (hG : fl G = false) (b : Nat) (x1 : Int32) (h : sh[b]? = some (.inl 6) ∧ ∃ i2, ta b 4 = some i2 ∧ ∃ n5, sh[i2]? = some (.inr (0, n5)) ∧ InB x1 n5 ∧ InB x1 n5 ∧ ∀ m8, m8 = upa m i2 x1 ((rd (m i2) x1) + 1) → K (some (.int (((-1000000000)) - x1))) m8) : WP G (rmD (d + 1) 0 0) mX6_error (QC G sh ta K) 0 0 0 [(0, .ref b), (1, .int x1)] [] (sh, ta, m) := by
  refine WP.aload_n 0 dX6_error_0 rfl rfl ?_
  obtain ⟨h1, h⟩ := h
  obtain ⟨i2, h3, h⟩ := h
  refine WP.getR 6 4 wf_X6_19 (by decide) (by decide) rfl h1 h3 dX6_error_1 ?_
  refine WP.iload_n 1 dX6_error_4 rfl rfl ?_
  refine WP.dup2 dX6_error_5 rfl rfl ?_
  obtain ⟨n5, h4, h⟩ := h
  obtain ⟨h6, h⟩ := h
  refine WP.iald h4 h6 dX6_error_6 ?_
  refine WP.iconst (v := 1) dX6_error_7 rfl ?_
  refine WP.iadd dX6_error_8 ?_
  obtain ⟨h7, h⟩ := h
  have h := h _ rfl
  refine WP.iast h4 h7 dX6_error_9 ?_
  generalize upa m i2 x1 ((rd (m i2) x1) + 1) = m8 at h ⊢
  refine WP.ldc wx_X6_49 dX6_error_10 ?_
  refine WP.iload_n 1 dX6_error_12 rfl rfl ?_
  refine WP.isub dX6_error_13 ?_
  exact WP.iret dX6_error_14 rfl (Nat.le_refl _) (Nat.le_refl _) ⟨_, rfl, h⟩
set_option maxHeartbeats 4000000 in
set_option maxRecDepth 20000 in
theorem rg_X6_in_0 (hG : fl G = false) (x0 : Int32) (x1 : Int32) (x2 : Int32) (h : ((x0 < x1 → K (some (.int 0)) m) ∧ (¬ x0 < x1 → ((x2 < x0 → K (some (.int 0)) m) ∧ (¬ x2 < x0 → K (some (.int 1)) m))))) : WP G (rmD (d + 1) 0 0) mX6_in (QC G sh ta K) 0 0 0 [(0, .int x0), (1, .int x1), (2, .int x2)] [] (sh, ta, m) := by
  refine WP.iload_n 0 dX6_in_0 rfl rfl ?_
  refine WP.iload_n 1 dX6_in_1 rfl rfl ?_
  refine WP.icmp_lt (tgt := 14) dX6_in_2 (by decide) (fun c1 => ?_) (fun c1 => ?_)
  · have h := h.1 c1
    refine WP.iconst (v := 0) dX6_in_14 rfl ?_
    exact WP.zret dX6_in_15 rfl (Nat.le_refl _) (Nat.le_refl _) rfl ⟨_, rfl, h⟩
  · have h := h.2 c1
    refine WP.iload_n 0 dX6_in_5 rfl rfl ?_
    refine WP.iload_n 2 dX6_in_6 rfl rfl ?_
    refine WP.icmp_gt (tgt := 14) dX6_in_7 (by decide) (fun c2 => ?_) (fun c2 => ?_)
    · have h := h.1 c2
      refine WP.iconst (v := 0) dX6_in_14 rfl ?_
      exact WP.zret dX6_in_15 rfl (Nat.le_refl _) (Nat.le_refl _) rfl ⟨_, rfl, h⟩
    · have h := h.2 c2
      refine WP.iconst (v := 1) dX6_in_10 rfl ?_
      refine WP.goto (tgt := 15) dX6_in_11 (by decide) ?_
      exact WP.zret dX6_in_15 rfl (Nat.le_refl _) (Nat.le_refl _) rfl ⟨_, rfl, h⟩
set_option maxHeartbeats 4000000 in
set_option maxRecDepth 20000 in
theorem rg_X6_held_0 (hG : fl G = false) (x0 : Int32) (x1 : Int32) (x2 : Int32) (h : ((x1 ≤ x0 → ((x0 ≤ x2 → K (some (.int x0)) m) ∧ (¬ x0 ≤ x2 → K (some (.int x2)) m))) ∧ (¬ x1 ≤ x0 → K (some (.int x1)) m))) : WP G (rmD (d + 1) 0 0) mX6_held (QC G sh ta K) 0 0 0 [(0, .int x0), (1, .int x1), (2, .int x2)] [] (sh, ta, m) := by
  refine WP.iload_n 0 dX6_held_0 rfl rfl ?_
  refine WP.iload_n 1 dX6_held_1 rfl rfl ?_
  refine WP.icmp_ge (tgt := 9) dX6_held_2 (by decide) (fun c1 => ?_) (fun c1 => ?_)
  · have h := h.1 c1
    refine WP.iload_n 0 dX6_held_9 rfl rfl ?_
    refine WP.iload_n 2 dX6_held_10 rfl rfl ?_
    refine WP.icmp_le (tgt := 18) dX6_held_11 (by decide) (fun c2 => ?_) (fun c2 => ?_)
    · have h := h.1 c2
      refine WP.iload_n 0 dX6_held_18 rfl rfl ?_
      exact WP.iret dX6_held_19 rfl (Nat.le_refl _) (Nat.le_refl _) ⟨_, rfl, h⟩
    · have h := h.2 c2
      refine WP.iload_n 2 dX6_held_14 rfl rfl ?_
      refine WP.goto (tgt := 19) dX6_held_15 (by decide) ?_
      exact WP.iret dX6_held_19 rfl (Nat.le_refl _) (Nat.le_refl _) ⟨_, rfl, h⟩
  · have h := h.2 c1
    refine WP.iload_n 1 dX6_held_5 rfl rfl ?_
    refine WP.goto (tgt := 19) dX6_held_6 (by decide) ?_
    exact WP.iret dX6_held_19 rfl (Nat.le_refl _) (Nat.le_refl _) ⟨_, rfl, h⟩
set_option maxHeartbeats 4000000 in
set_option maxRecDepth 20000 in
theorem rg_X6_carry_0 (hG : fl G = false) (b : Nat) (b1 : Nat) (h : WP G (rmD (d + 1) 0 0) mX6_carry (QC G sh ta K) 0 0 2 [(0, .ref b), (1, .ref b1), (2, .int 0)] [] (sh, ta, m)) : WP G (rmD (d + 1) 0 0) mX6_carry (QC G sh ta K) 0 0 0 [(0, .ref b), (1, .ref b1)] [] (sh, ta, m) := by
  refine WP.iconst (v := 0) dX6_carry_0 rfl ?_
  refine WP.istore_n (lv2 := [(2, .int 0), (0, .ref b), (1, .ref b1)]) dX6_carry_1 rfl (by decide) rfl ?_
  exact WP.pick [1, 2, 0] rfl h
set_option maxHeartbeats 4000000 in
set_option maxRecDepth 20000 in
theorem rg_X6_carry_2 (hG : fl G = false) (b : Nat) (b1 : Nat) (x2 : Int32) (h : (((502 : Int32) ≤ x2 → K none m) ∧ (¬ (502 : Int32) ≤ x2 → ∃ n3, sh[b]? = some (.inr (0, n3)) ∧ InB x2 n3 ∧ ∃ n6, sh[b1]? = some (.inr (0, n6)) ∧ InB x2 n6 ∧ ∀ m8, m8 = upa m b1 x2 (rd (m b) x2) → WP G (rmD (d + 1) 0 0) mX6_carry (QC G sh ta K) 0 0 2 [(0, .ref b), (1, .ref b1), (2, .int (x2 + 1))] [] (sh, ta, m8)))) : WP G (rmD (d + 1) 0 0) mX6_carry (QC G sh ta K) 0 0 2 [(0, .ref b), (1, .ref b1), (2, .int x2)] [] (sh, ta, m) := by
  refine WP.iload_n 2 dX6_carry_2 rfl rfl ?_
  refine WP.sipush (v := 502) dX6_carry_3 rfl ?_
  refine WP.icmp_ge (tgt := 21) dX6_carry_6 (by decide) (fun c1 => ?_) (fun c1 => ?_)
  · have h := h.1 c1
    exact WP.vret dX6_carry_21 rfl (Nat.le_refl _) (Nat.le_refl _) ⟨_, rfl, h⟩
  · have h := h.2 c1
    refine WP.aload_n 1 dX6_carry_9 rfl rfl ?_
    refine WP.iload_n 2 dX6_carry_10 rfl rfl ?_
    refine WP.aload_n 0 dX6_carry_11 rfl rfl ?_
    refine WP.iload_n 2 dX6_carry_12 rfl rfl ?_
    obtain ⟨n3, h2, h⟩ := h
    obtain ⟨h4, h⟩ := h
    refine WP.iald h2 h4 dX6_carry_13 ?_
    obtain ⟨n6, h5, h⟩ := h
    obtain ⟨h7, h⟩ := h
    have h := h _ rfl
    refine WP.iast h5 h7 dX6_carry_14 ?_
    generalize upa m b1 x2 (rd (m b) x2) = m8 at h ⊢
    refine WP.iinc (lv2 := [(2, .int (x2 + 1)), (0, .ref b), (1, .ref b1)]) 2 1 dX6_carry_15 rfl rfl (by decide) rfl ?_
    refine WP.goto (tgt := 2) dX6_carry_18 (by decide) ?_
    exact WP.pick [1, 2, 0] rfl h
set_option maxHeartbeats 4000000 in
set_option maxRecDepth 20000 in
theorem rg_X6_layDown_0 (hG : fl G = false) (b : Nat) (x1 : Int32) (h : WP G (rmD (d + 1) 0 0) mX6_layDown (QC G sh ta K) 0 0 2 [(0, .ref b), (1, .int x1), (2, .int 0)] [] (sh, ta, m)) : WP G (rmD (d + 1) 0 0) mX6_layDown (QC G sh ta K) 0 0 0 [(0, .ref b), (1, .int x1)] [] (sh, ta, m) := by
  refine WP.iconst (v := 0) dX6_layDown_0 rfl ?_
  refine WP.istore_n (lv2 := [(2, .int 0), (0, .ref b), (1, .int x1)]) dX6_layDown_1 rfl (by decide) rfl ?_
  exact WP.pick [1, 2, 0] rfl h
set_option maxHeartbeats 4000000 in
set_option maxRecDepth 20000 in
theorem rg_X6_layDown_2 (hG : fl G = false) (b : Nat) (x1 : Int32) (x2 : Int32) (h : (((168 : Int32) ≤ x2 → K none m) ∧ (¬ (168 : Int32) ≤ x2 → sh[b]? = some (.inl 6) ∧ ∃ i3, ta b 2 = some i3 ∧ ∃ i5, ta b 0 = some i5 ∧ ∃ n8, sh[i5]? = some (.inr (0, n8)) ∧ InB x2 n8 ∧ ∃ n11, sh[i3]? = some (.inr (0, n11)) ∧ InB ((168 * x1) + x2) n11 ∧ ∀ m13, m13 = upa m i3 ((168 * x1) + x2) (rd (m i5) x2) → WP G (rmD (d + 1) 0 0) mX6_layDown (QC G sh ta K) 0 0 2 [(0, .ref b), (1, .int x1), (2, .int (x2 + 1))] [] (sh, ta, m13)))) : WP G (rmD (d + 1) 0 0) mX6_layDown (QC G sh ta K) 0 0 2 [(0, .ref b), (1, .int x1), (2, .int x2)] [] (sh, ta, m) := by
  refine WP.iload_n 2 dX6_layDown_2 rfl rfl ?_
  refine WP.sipush (v := 168) dX6_layDown_3 rfl ?_
  refine WP.icmp_ge (tgt := 33) dX6_layDown_6 (by decide) (fun c1 => ?_) (fun c1 => ?_)
  · have h := h.1 c1
    exact WP.vret dX6_layDown_33 rfl (Nat.le_refl _) (Nat.le_refl _) ⟨_, rfl, h⟩
  · have h := h.2 c1
    refine WP.aload_n 0 dX6_layDown_9 rfl rfl ?_
    obtain ⟨h2, h⟩ := h
    obtain ⟨i3, h4, h⟩ := h
    refine WP.getR 6 2 wf_X6_16 (by decide) (by decide) rfl h2 h4 dX6_layDown_10 ?_
    refine WP.sipush (v := 168) dX6_layDown_13 rfl ?_
    refine WP.iload_n 1 dX6_layDown_16 rfl rfl ?_
    refine WP.imul dX6_layDown_17 ?_
    refine WP.iload_n 2 dX6_layDown_18 rfl rfl ?_
    refine WP.iadd dX6_layDown_19 ?_
    refine WP.aload_n 0 dX6_layDown_20 rfl rfl ?_
    obtain ⟨i5, h6, h⟩ := h
    refine WP.getR 6 0 wf_X6_7 (by decide) (by decide) rfl h2 h6 dX6_layDown_21 ?_
    refine WP.iload_n 2 dX6_layDown_24 rfl rfl ?_
    obtain ⟨n8, h7, h⟩ := h
    obtain ⟨h9, h⟩ := h
    refine WP.iald h7 h9 dX6_layDown_25 ?_
    obtain ⟨n11, h10, h⟩ := h
    obtain ⟨h12, h⟩ := h
    have h := h _ rfl
    refine WP.iast h10 h12 dX6_layDown_26 ?_
    generalize upa m i3 ((168 * x1) + x2) (rd (m i5) x2) = m13 at h ⊢
    refine WP.iinc (lv2 := [(2, .int (x2 + 1)), (0, .ref b), (1, .int x1)]) 2 1 dX6_layDown_27 rfl rfl (by decide) rfl ?_
    refine WP.goto (tgt := 2) dX6_layDown_30 (by decide) ?_
    exact WP.pick [1, 2, 0] rfl h
set_option maxHeartbeats 4000000 in
set_option maxRecDepth 20000 in
theorem rg_X6_layBack_0 (hG : fl G = false) (b : Nat) (x1 : Int32) (h : WP G (rmD (d + 1) 0 0) mX6_layBack (QC G sh ta K) 0 0 2 [(0, .ref b), (1, .int x1), (2, .int 0)] [] (sh, ta, m)) : WP G (rmD (d + 1) 0 0) mX6_layBack (QC G sh ta K) 0 0 0 [(0, .ref b), (1, .int x1)] [] (sh, ta, m) := by
  refine WP.iconst (v := 0) dX6_layBack_0 rfl ?_
  refine WP.istore_n (lv2 := [(2, .int 0), (0, .ref b), (1, .int x1)]) dX6_layBack_1 rfl (by decide) rfl ?_
  exact WP.pick [1, 2, 0] rfl h
set_option maxHeartbeats 4000000 in
set_option maxRecDepth 20000 in
theorem rg_X6_layBack_2 (hG : fl G = false) (b : Nat) (x1 : Int32) (x2 : Int32) (h : (((168 : Int32) ≤ x2 → K none m) ∧ (¬ (168 : Int32) ≤ x2 → sh[b]? = some (.inl 6) ∧ ∃ i3, ta b 0 = some i3 ∧ ∃ i5, ta b 2 = some i5 ∧ ∃ n8, sh[i5]? = some (.inr (0, n8)) ∧ InB ((168 * x1) + x2) n8 ∧ ∃ n11, sh[i3]? = some (.inr (0, n11)) ∧ InB x2 n11 ∧ ∀ m13, m13 = upa m i3 x2 (rd (m i5) ((168 * x1) + x2)) → WP G (rmD (d + 1) 0 0) mX6_layBack (QC G sh ta K) 0 0 2 [(0, .ref b), (1, .int x1), (2, .int (x2 + 1))] [] (sh, ta, m13)))) : WP G (rmD (d + 1) 0 0) mX6_layBack (QC G sh ta K) 0 0 2 [(0, .ref b), (1, .int x1), (2, .int x2)] [] (sh, ta, m) := by
  refine WP.iload_n 2 dX6_layBack_2 rfl rfl ?_
  refine WP.sipush (v := 168) dX6_layBack_3 rfl ?_
  refine WP.icmp_ge (tgt := 33) dX6_layBack_6 (by decide) (fun c1 => ?_) (fun c1 => ?_)
  · have h := h.1 c1
    exact WP.vret dX6_layBack_33 rfl (Nat.le_refl _) (Nat.le_refl _) ⟨_, rfl, h⟩
  · have h := h.2 c1
    refine WP.aload_n 0 dX6_layBack_9 rfl rfl ?_
    obtain ⟨h2, h⟩ := h
    obtain ⟨i3, h4, h⟩ := h
    refine WP.getR 6 0 wf_X6_7 (by decide) (by decide) rfl h2 h4 dX6_layBack_10 ?_
    refine WP.iload_n 2 dX6_layBack_13 rfl rfl ?_
    refine WP.aload_n 0 dX6_layBack_14 rfl rfl ?_
    obtain ⟨i5, h6, h⟩ := h
    refine WP.getR 6 2 wf_X6_16 (by decide) (by decide) rfl h2 h6 dX6_layBack_15 ?_
    refine WP.sipush (v := 168) dX6_layBack_18 rfl ?_
    refine WP.iload_n 1 dX6_layBack_21 rfl rfl ?_
    refine WP.imul dX6_layBack_22 ?_
    refine WP.iload_n 2 dX6_layBack_23 rfl rfl ?_
    refine WP.iadd dX6_layBack_24 ?_
    obtain ⟨n8, h7, h⟩ := h
    obtain ⟨h9, h⟩ := h
    refine WP.iald h7 h9 dX6_layBack_25 ?_
    obtain ⟨n11, h10, h⟩ := h
    obtain ⟨h12, h⟩ := h
    have h := h _ rfl
    refine WP.iast h10 h12 dX6_layBack_26 ?_
    generalize upa m i3 x2 (rd (m i5) ((168 * x1) + x2)) = m13 at h ⊢
    refine WP.iinc (lv2 := [(2, .int (x2 + 1)), (0, .ref b), (1, .int x1)]) 2 1 dX6_layBack_27 rfl rfl (by decide) rfl ?_
    refine WP.goto (tgt := 2) dX6_layBack_30 (by decide) ?_
    exact WP.pick [1, 2, 0] rfl h
set_option maxHeartbeats 4000000 in
set_option maxRecDepth 20000 in
theorem rg_X6_isCell_0 (hG : fl G = false) (x0 : Int32) (h : Cal G mX6_in d [.int x0, .int 0, .int 15] sh ta m (fun v1 m2 => ∃ r3, v1 = some (.int r3) ∧ isB r3 ∧ K (some (.int r3)) m2)) : WP G (rmD (d + 1) 0 0) mX6_isCell (QC G sh ta K) 0 0 0 [(0, .int x0)] [] (sh, ta, m) := by
  refine WP.iload_n 0 dX6_isCell_0 rfl rfl ?_
  refine WP.iconst (v := 0) dX6_isCell_1 rfl ?_
  refine WP.bipush (v := 15) dX6_isCell_2 rfl ?_
  refine WP.callS (y := mX6_in) (As := [.int x0, .int 0, .int 15]) (st := []) dX6_isCell_4 wm_X6_50 mw_X6_in rfl (Nat.le_of_ble_eq_true rfl) (rmok d) rfl h (fun v1 Sm2 h4 => ?_)
  obtain ⟨m2, rfl, r3, rfl, h⟩ := h4
  show WP G _ _ _ 0 0 7 [(0, .int x0)] [.int r3] (sh, ta, m2)
  obtain ⟨h5, h⟩ := h
  exact WP.zret dX6_isCell_7 rfl (Nat.le_refl _) (Nat.le_refl _) h5.n ⟨_, rfl, h⟩
set_option maxHeartbeats 4000000 in
set_option maxRecDepth 20000 in
theorem rg_X6_isOpen_0 (hG : fl G = false) (x0 : Int32) (h : Cal G mX6_in d [.int x0, .int 1, .int 15] sh ta m (fun v1 m2 => ∃ r3, v1 = some (.int r3) ∧ isB r3 ∧ K (some (.int r3)) m2)) : WP G (rmD (d + 1) 0 0) mX6_isOpen (QC G sh ta K) 0 0 0 [(0, .int x0)] [] (sh, ta, m) := by
  refine WP.iload_n 0 dX6_isOpen_0 rfl rfl ?_
  refine WP.iconst (v := 1) dX6_isOpen_1 rfl ?_
  refine WP.bipush (v := 15) dX6_isOpen_2 rfl ?_
  refine WP.callS (y := mX6_in) (As := [.int x0, .int 1, .int 15]) (st := []) dX6_isOpen_4 wm_X6_50 mw_X6_in rfl (Nat.le_of_ble_eq_true rfl) (rmok d) rfl h (fun v1 Sm2 h4 => ?_)
  obtain ⟨m2, rfl, r3, rfl, h⟩ := h4
  show WP G _ _ _ 0 0 7 [(0, .int x0)] [.int r3] (sh, ta, m2)
  obtain ⟨h5, h⟩ := h
  exact WP.zret dX6_isOpen_7 rfl (Nat.le_refl _) (Nat.le_refl _) h5.n ⟨_, rfl, h⟩
set_option maxHeartbeats 4000000 in
set_option maxRecDepth 20000 in
theorem rg_X6_isThing_0 (hG : fl G = false) (b : Nat) (x1 : Int32) (h : sh[b]? = some (.inl 6) ∧ ∃ i2, ta b 0 = some i2 ∧ ∃ n5, sh[i2]? = some (.inr (0, n5)) ∧ InB 0 n5 ∧ Cal G mX6_in d [.int x1, .int 0, .int ((rd (m i2) (0 : Int32)) - 1)] sh ta m (fun v7 m8 => ∃ r9, v7 = some (.int r9) ∧ isB r9 ∧ K (some (.int r9)) m8)) : WP G (rmD (d + 1) 0 0) mX6_isThing (QC G sh ta K) 0 0 0 [(0, .ref b), (1, .int x1)] [] (sh, ta, m) := by
  refine WP.iload_n 1 dX6_isThing_0 rfl rfl ?_
  refine WP.iconst (v := 0) dX6_isThing_1 rfl ?_
  refine WP.aload_n 0 dX6_isThing_2 rfl rfl ?_
  obtain ⟨h1, h⟩ := h
  obtain ⟨i2, h3, h⟩ := h
  refine WP.getR 6 0 wf_X6_7 (by decide) (by decide) rfl h1 h3 dX6_isThing_3 ?_
  refine WP.iconst (v := 0) dX6_isThing_6 rfl ?_
  obtain ⟨n5, h4, h⟩ := h
  obtain ⟨h6, h⟩ := h
  refine WP.iald h4 h6 dX6_isThing_7 ?_
  refine WP.iconst (v := 1) dX6_isThing_8 rfl ?_
  refine WP.isub dX6_isThing_9 ?_
  refine WP.callS (y := mX6_in) (As := [.int x1, .int 0, .int ((rd (m i2) (0 : Int32)) - 1)]) (st := []) dX6_isThing_10 wm_X6_50 mw_X6_in rfl (Nat.le_of_ble_eq_true rfl) (rmok d) rfl h (fun v7 Sm8 h10 => ?_)
  obtain ⟨m8, rfl, r9, rfl, h⟩ := h10
  show WP G _ _ _ 0 0 13 [(0, .ref b), (1, .int x1)] [.int r9] (sh, ta, m8)
  obtain ⟨h11, h⟩ := h
  exact WP.zret dX6_isThing_13 rfl (Nat.le_refl _) (Nat.le_refl _) h11.n ⟨_, rfl, h⟩
set_option maxHeartbeats 4000000 in
set_option maxRecDepth 20000 in
theorem rg_X6_its_0 (hG : fl G = false) (b : Nat) (x1 : Int32) (x2 : Int32) (h : sh[b]? = some (.inl 6) ∧ ∃ i2, ta b 0 = some i2 ∧ ∃ n5, sh[i2]? = some (.inr (0, n5)) ∧ InB ((8 + (4 * x1)) + x2) n5 ∧ K (some (.int (rd (m i2) ((8 + (4 * x1)) + x2)))) m) : WP G (rmD (d + 1) 0 0) mX6_its (QC G sh ta K) 0 0 0 [(0, .ref b), (1, .int x1), (2, .int x2)] [] (sh, ta, m) := by
  refine WP.aload_n 0 dX6_its_0 rfl rfl ?_
  obtain ⟨h1, h⟩ := h
  obtain ⟨i2, h3, h⟩ := h
  refine WP.getR 6 0 wf_X6_7 (by decide) (by decide) rfl h1 h3 dX6_its_1 ?_
  refine WP.bipush (v := 8) dX6_its_4 rfl ?_
  refine WP.iconst (v := 4) dX6_its_6 rfl ?_
  refine WP.iload_n 1 dX6_its_7 rfl rfl ?_
  refine WP.imul dX6_its_8 ?_
  refine WP.iadd dX6_its_9 ?_
  refine WP.iload_n 2 dX6_its_10 rfl rfl ?_
  refine WP.iadd dX6_its_11 ?_
  obtain ⟨n5, h4, h⟩ := h
  obtain ⟨h6, h⟩ := h
  refine WP.iald h4 h6 dX6_its_12 ?_
  exact WP.iret dX6_its_13 rfl (Nat.le_refl _) (Nat.le_refl _) ⟨_, rfl, h⟩
set_option maxHeartbeats 4000000 in
set_option maxRecDepth 20000 in
theorem rg_X6_size_0 (hG : fl G = false) (b : Nat) (x1 : Int32) (h : sh[b]? = some (.inl 6) ∧ ∃ i2, ta b 0 = some i2 ∧ ∃ n5, sh[i2]? = some (.inr (0, n5)) ∧ InB (72 + (6 * x1)) n5 ∧ K (some (.int (rd (m i2) (72 + (6 * x1))))) m) : WP G (rmD (d + 1) 0 0) mX6_size (QC G sh ta K) 0 0 0 [(0, .ref b), (1, .int x1)] [] (sh, ta, m) := by
  refine WP.aload_n 0 dX6_size_0 rfl rfl ?_
  obtain ⟨h1, h⟩ := h
  obtain ⟨i2, h3, h⟩ := h
  refine WP.getR 6 0 wf_X6_7 (by decide) (by decide) rfl h1 h3 dX6_size_1 ?_
  refine WP.bipush (v := 72) dX6_size_4 rfl ?_
  refine WP.bipush (v := 6) dX6_size_6 rfl ?_
  refine WP.iload_n 1 dX6_size_8 rfl rfl ?_
  refine WP.imul dX6_size_9 ?_
  refine WP.iadd dX6_size_10 ?_
  obtain ⟨n5, h4, h⟩ := h
  obtain ⟨h6, h⟩ := h
  refine WP.iald h4 h6 dX6_size_11 ?_
  exact WP.iret dX6_size_12 rfl (Nat.le_refl _) (Nat.le_refl _) ⟨_, rfl, h⟩
set_option maxHeartbeats 4000000 in
set_option maxRecDepth 20000 in
theorem rg_X6_at1_0 (hG : fl G = false) (b : Nat) (x1 : Int32) (x2 : Int32) (h : sh[b]? = some (.inl 6) ∧ ∃ i2, ta b 0 = some i2 ∧ ∃ n5, sh[i2]? = some (.inr (0, n5)) ∧ InB (((72 + (6 * x1)) + 1) + x2) n5 ∧ K (some (.int (rd (m i2) (((72 + (6 * x1)) + 1) + x2)))) m) : WP G (rmD (d + 1) 0 0) mX6_at1 (QC G sh ta K) 0 0 0 [(0, .ref b), (1, .int x1), (2, .int x2)] [] (sh, ta, m) := by
  refine WP.aload_n 0 dX6_at1_0 rfl rfl ?_
  obtain ⟨h1, h⟩ := h
  obtain ⟨i2, h3, h⟩ := h
  refine WP.getR 6 0 wf_X6_7 (by decide) (by decide) rfl h1 h3 dX6_at1_1 ?_
  refine WP.bipush (v := 72) dX6_at1_4 rfl ?_
  refine WP.bipush (v := 6) dX6_at1_6 rfl ?_
  refine WP.iload_n 1 dX6_at1_8 rfl rfl ?_
  refine WP.imul dX6_at1_9 ?_
  refine WP.iadd dX6_at1_10 ?_
  refine WP.iconst (v := 1) dX6_at1_11 rfl ?_
  refine WP.iadd dX6_at1_12 ?_
  refine WP.iload_n 2 dX6_at1_13 rfl rfl ?_
  refine WP.iadd dX6_at1_14 ?_
  obtain ⟨n5, h4, h⟩ := h
  obtain ⟨h6, h⟩ := h
  refine WP.iald h4 h6 dX6_at1_15 ?_
  exact WP.iret dX6_at1_16 rfl (Nat.le_refl _) (Nat.le_refl _) ⟨_, rfl, h⟩
set_option maxHeartbeats 4000000 in
set_option maxRecDepth 20000 in
theorem rg_X6_uppermost_0 (hG : fl G = false) (b : Nat) (x1 : Int32) (h : sh[b]? = some (.inl 6) ∧ Cal G mX6_size d [.ref b, .int x1] sh ta m (fun v1 m2 => ∃ r3, v1 = some (.int r3) ∧ ((¬ r3 = 0 → Cal G mX6_size d [.ref b, .int x1] sh ta m2 (fun v7 m8 => ∃ r9, v7 = some (.int r9) ∧ Cal G mX6_at1 d [.ref b, .int x1, .int (r9 - 1)] sh ta m8 (fun v11 m12 => ∃ r13, v11 = some (.int r13) ∧ K (some (.int r13)) m12))) ∧ (r3 = 0 → K (some (.int ((-1)))) m2)))) : WP G (rmD (d + 1) 0 0) mX6_uppermost (QC G sh ta K) 0 0 0 [(0, .ref b), (1, .int x1)] [] (sh, ta, m) := by
  refine WP.aload_n 0 dX6_uppermost_0 rfl rfl ?_
  refine WP.iload_n 1 dX6_uppermost_1 rfl rfl ?_
  obtain ⟨h5, h⟩ := h
  refine WP.callV (y := mX6_size) (As := [.int x1]) (st := []) dX6_uppermost_2 wm_X6_54 mw_X6_size rfl (Nat.le_of_ble_eq_true rfl) (rmok d) h5 (by decide) rfl h (fun v1 Sm2 h4 => ?_)
  obtain ⟨m2, rfl, r3, rfl, h⟩ := h4
  show WP G _ _ _ 0 0 5 [(0, .ref b), (1, .int x1)] [.int r3] (sh, ta, m2)
  refine WP.if_ne (tgt := 12) dX6_uppermost_5 (by decide) (fun c6 => ?_) (fun c6 => ?_)
  · have h := h.1 c6
    refine WP.aload_n 0 dX6_uppermost_12 rfl rfl ?_
    refine WP.iload_n 1 dX6_uppermost_13 rfl rfl ?_
    refine WP.aload_n 0 dX6_uppermost_14 rfl rfl ?_
    refine WP.iload_n 1 dX6_uppermost_15 rfl rfl ?_
    refine WP.callV (y := mX6_size) (As := [.int x1]) (st := [.int x1, .ref b]) dX6_uppermost_16 wm_X6_54 mw_X6_size rfl (Nat.le_of_ble_eq_true rfl) (rmok d) h5 (by decide) rfl h (fun v7 Sm8 h10 => ?_)
    obtain ⟨m8, rfl, r9, rfl, h⟩ := h10
    show WP G _ _ _ 0 0 19 [(0, .ref b), (1, .int x1)] [.int r9, .int x1, .ref b] (sh, ta, m8)
    refine WP.iconst (v := 1) dX6_uppermost_19 rfl ?_
    refine WP.isub dX6_uppermost_20 ?_
    refine WP.callV (y := mX6_at1) (As := [.int x1, .int (r9 - 1)]) (st := []) dX6_uppermost_21 wm_X6_58 mw_X6_at1 rfl (Nat.le_of_ble_eq_true rfl) (rmok d) h5 (by decide) rfl h (fun v11 Sm12 h14 => ?_)
    obtain ⟨m12, rfl, r13, rfl, h⟩ := h14
    show WP G _ _ _ 0 0 24 [(0, .ref b), (1, .int x1)] [.int r13] (sh, ta, m12)
    exact WP.iret dX6_uppermost_24 rfl (Nat.le_refl _) (Nat.le_refl _) ⟨_, rfl, h⟩
  · have h := h.2 c6
    refine WP.iconst (v := (-1)) dX6_uppermost_8 rfl ?_
    refine WP.goto (tgt := 24) dX6_uppermost_9 (by decide) ?_
    exact WP.iret dX6_uppermost_24 rfl (Nat.le_refl _) (Nat.le_refl _) ⟨_, rfl, h⟩
set_option maxHeartbeats 4000000 in
set_option maxRecDepth 20000 in
theorem rg_X6_change1_0 (hG : fl G = false) (b : Nat) (x1 : Int32) (x2 : Int32) (h : sh[b]? = some (.inl 6) ∧ ∃ i2, ta b 0 = some i2 ∧ ∃ n5, sh[i2]? = some (.inr (0, n5)) ∧ InB x1 n5 ∧ InB x1 n5 ∧ ∀ m8, m8 = upa m i2 x1 x2 → K (some (.int (rd (m i2) x1))) m8) : WP G (rmD (d + 1) 0 0) mX6_change1 (QC G sh ta K) 0 0 0 [(0, .ref b), (1, .int x1), (2, .int x2)] [] (sh, ta, m) := by
  refine WP.aload_n 0 dX6_change1_0 rfl rfl ?_
  obtain ⟨h1, h⟩ := h
  obtain ⟨i2, h3, h⟩ := h
  refine WP.getR 6 0 wf_X6_7 (by decide) (by decide) rfl h1 h3 dX6_change1_1 ?_
  refine WP.iload_n 1 dX6_change1_4 rfl rfl ?_
  obtain ⟨n5, h4, h⟩ := h
  obtain ⟨h6, h⟩ := h
  refine WP.iald h4 h6 dX6_change1_5 ?_
  refine WP.istore_n (lv2 := [(3, .int (rd (m i2) x1)), (0, .ref b), (1, .int x1), (2, .int x2)]) dX6_change1_6 rfl (by decide) rfl ?_
  refine WP.aload_n 1 dX6_change1_7 rfl rfl ?_
  refine WP.getR 6 0 wf_X6_7 (by decide) (by decide) rfl h1 h3 dX6_change1_8 ?_
  refine WP.iload_n 2 dX6_change1_11 rfl rfl ?_
  refine WP.iload_n 3 dX6_change1_12 rfl rfl ?_
  obtain ⟨h7, h⟩ := h
  have h := h _ rfl
  refine WP.iast h4 h7 dX6_change1_13 ?_
  generalize upa m i2 x1 x2 = m8 at h ⊢
  refine WP.iload_n 0 dX6_change1_14 rfl rfl ?_
  exact WP.iret dX6_change1_15 rfl (Nat.le_refl _) (Nat.le_refl _) ⟨_, rfl, h⟩
set_option maxHeartbeats 4000000 in
set_option maxRecDepth 20000 in
theorem rg_X6_heightOf_0 (hG : fl G = false) (b : Nat) (x1 : Int32) (h : sh[b]? = some (.inl 6) ∧ Cal G mX6_its d [.ref b, .int x1, .int 3] sh ta m (fun v1 m2 => ∃ r3, v1 = some (.int r3) ∧ WP G (rmD (d + 1) 0 0) mX6_heightOf (QC G sh ta K) 0 0 9 [(0, .ref b), (1, .int x1), (2, .int r3), (3, .int 0)] [] (sh, ta, m2))) : WP G (rmD (d + 1) 0 0) mX6_heightOf (QC G sh ta K) 0 0 0 [(0, .ref b), (1, .int x1)] [] (sh, ta, m) := by
  refine WP.aload_n 0 dX6_heightOf_0 rfl rfl ?_
  refine WP.iload_n 1 dX6_heightOf_1 rfl rfl ?_
  refine WP.iconst (v := 3) dX6_heightOf_2 rfl ?_
  obtain ⟨h5, h⟩ := h
  refine WP.callV (y := mX6_its) (As := [.int x1, .int 3]) (st := []) dX6_heightOf_3 wm_X6_62 mw_X6_its rfl (Nat.le_of_ble_eq_true rfl) (rmok d) h5 (by decide) rfl h (fun v1 Sm2 h4 => ?_)
  obtain ⟨m2, rfl, r3, rfl, h⟩ := h4
  show WP G _ _ _ 0 0 6 [(0, .ref b), (1, .int x1)] [.int r3] (sh, ta, m2)
  refine WP.istore_n (lv2 := [(2, .int r3), (0, .ref b), (1, .int x1)]) dX6_heightOf_6 rfl (by decide) rfl ?_
  refine WP.iconst (v := 0) dX6_heightOf_7 rfl ?_
  refine WP.istore_n (lv2 := [(3, .int 0), (2, .int r3), (0, .ref b), (1, .int x1)]) dX6_heightOf_8 rfl (by decide) rfl ?_
  exact WP.pick [2, 3, 1, 0] rfl h
set_option maxHeartbeats 4000000 in
set_option maxRecDepth 20000 in
theorem rg_X6_heightOf_9 (hG : fl G = false) (b : Nat) (x1 : Int32) (x2 : Int32) (x3 : Int32) (h : sh[b]? = some (.inl 6) ∧ Cal G mX6_at1 d [.ref b, .int x2, .int x3] sh ta m (fun v1 m2 => ∃ r3, v1 = some (.int r3) ∧ ((r3 = x1 → K (some (.int x3)) m2) ∧ (¬ r3 = x1 → WP G (rmD (d + 1) 0 0) mX6_heightOf (QC G sh ta K) 0 0 9 [(0, .ref b), (1, .int x1), (2, .int x2), (3, .int (x3 + 1))] [] (sh, ta, m2))))) : WP G (rmD (d + 1) 0 0) mX6_heightOf (QC G sh ta K) 0 0 9 [(0, .ref b), (1, .int x1), (2, .int x2), (3, .int x3)] [] (sh, ta, m) := by
  refine WP.aload_n 0 dX6_heightOf_9 rfl rfl ?_
  refine WP.iload_n 2 dX6_heightOf_10 rfl rfl ?_
  refine WP.iload_n 3 dX6_heightOf_11 rfl rfl ?_
  obtain ⟨h5, h⟩ := h
  refine WP.callV (y := mX6_at1) (As := [.int x2, .int x3]) (st := []) dX6_heightOf_12 wm_X6_58 mw_X6_at1 rfl (Nat.le_of_ble_eq_true rfl) (rmok d) h5 (by decide) rfl h (fun v1 Sm2 h4 => ?_)
  obtain ⟨m2, rfl, r3, rfl, h⟩ := h4
  show WP G _ _ _ 0 0 15 [(0, .ref b), (1, .int x1), (2, .int x2), (3, .int x3)] [.int r3] (sh, ta, m2)
  refine WP.iload_n 1 dX6_heightOf_15 rfl rfl ?_
  refine WP.icmp_eq (tgt := 25) dX6_heightOf_16 (by decide) (fun c6 => ?_) (fun c6 => ?_)
  · have h := h.1 c6
    refine WP.iload_n 3 dX6_heightOf_25 rfl rfl ?_
    exact WP.iret dX6_heightOf_26 rfl (Nat.le_refl _) (Nat.le_refl _) ⟨_, rfl, h⟩
  · have h := h.2 c6
    refine WP.iinc (lv2 := [(3, .int (x3 + 1)), (0, .ref b), (1, .int x1), (2, .int x2)]) 3 1 dX6_heightOf_19 rfl rfl (by decide) rfl ?_
    refine WP.goto (tgt := 9) dX6_heightOf_22 (by decide) ?_
    exact WP.pick [1, 2, 3, 0] rfl h
set_option maxHeartbeats 4000000 in
set_option maxRecDepth 20000 in
theorem rg_X6_under_0 (hG : fl G = false) (b : Nat) (x1 : Int32) (h : sh[b]? = some (.inl 6) ∧ Cal G mX6_its d [.ref b, .int x1, .int 3] sh ta m (fun v1 m2 => ∃ r3, v1 = some (.int r3) ∧ ((0 ≤ r3 → Cal G mX6_heightOf d [.ref b, .int x1] sh ta m2 (fun v7 m8 => ∃ r9, v7 = some (.int r9) ∧ K (some (.int r9)) m8)) ∧ (¬ 0 ≤ r3 → K (some (.int ((-1)))) m2)))) : WP G (rmD (d + 1) 0 0) mX6_under (QC G sh ta K) 0 0 0 [(0, .ref b), (1, .int x1)] [] (sh, ta, m) := by
  refine WP.aload_n 0 dX6_under_0 rfl rfl ?_
  refine WP.iload_n 1 dX6_under_1 rfl rfl ?_
  refine WP.iconst (v := 3) dX6_under_2 rfl ?_
  obtain ⟨h5, h⟩ := h
  refine WP.callV (y := mX6_its) (As := [.int x1, .int 3]) (st := []) dX6_under_3 wm_X6_62 mw_X6_its rfl (Nat.le_of_ble_eq_true rfl) (rmok d) h5 (by decide) rfl h (fun v1 Sm2 h4 => ?_)
  obtain ⟨m2, rfl, r3, rfl, h⟩ := h4
  show WP G _ _ _ 0 0 6 [(0, .ref b), (1, .int x1)] [.int r3] (sh, ta, m2)
  refine WP.if_ge (tgt := 13) dX6_under_6 (by decide) (fun c6 => ?_) (fun c6 => ?_)
  · have h := h.1 c6
    refine WP.aload_n 0 dX6_under_13 rfl rfl ?_
    refine WP.iload_n 1 dX6_under_14 rfl rfl ?_
    refine WP.callV (y := mX6_heightOf) (As := [.int x1]) (st := []) dX6_under_15 wm_X6_65 mw_X6_heightOf rfl (Nat.le_of_ble_eq_true rfl) (rmok d) h5 (by decide) rfl h (fun v7 Sm8 h10 => ?_)
    obtain ⟨m8, rfl, r9, rfl, h⟩ := h10
    show WP G _ _ _ 0 0 18 [(0, .ref b), (1, .int x1)] [.int r9] (sh, ta, m8)
    exact WP.iret dX6_under_18 rfl (Nat.le_refl _) (Nat.le_refl _) ⟨_, rfl, h⟩
  · have h := h.2 c6
    refine WP.iconst (v := (-1)) dX6_under_9 rfl ?_
    refine WP.goto (tgt := 18) dX6_under_10 (by decide) ?_
    exact WP.iret dX6_under_18 rfl (Nat.le_refl _) (Nat.le_refl _) ⟨_, rfl, h⟩
set_option maxHeartbeats 4000000 in
set_option maxRecDepth 20000 in
theorem rg_X6_upon_0 (hG : fl G = false) (b : Nat) (x1 : Int32) (h : sh[b]? = some (.inl 6) ∧ Cal G mX6_its d [.ref b, .int x1, .int 3] sh ta m (fun v1 m2 => ∃ r3, v1 = some (.int r3) ∧ ((0 ≤ r3 → Cal G mX6_its d [.ref b, .int x1, .int 3] sh ta m2 (fun v7 m8 => ∃ r9, v7 = some (.int r9) ∧ Cal G mX6_size d [.ref b, .int r9] sh ta m8 (fun v11 m12 => ∃ r13, v11 = some (.int r13) ∧ Cal G mX6_heightOf d [.ref b, .int x1] sh ta m12 (fun v15 m16 => ∃ r17, v15 = some (.int r17) ∧ K (some (.int ((r13 - 1) - r17))) m16)))) ∧ (¬ 0 ≤ r3 → K (some (.int ((-1)))) m2)))) : WP G (rmD (d + 1) 0 0) mX6_upon (QC G sh ta K) 0 0 0 [(0, .ref b), (1, .int x1)] [] (sh, ta, m) := by
  refine WP.aload_n 0 dX6_upon_0 rfl rfl ?_
  refine WP.iload_n 1 dX6_upon_1 rfl rfl ?_
  refine WP.iconst (v := 3) dX6_upon_2 rfl ?_
  obtain ⟨h5, h⟩ := h
  refine WP.callV (y := mX6_its) (As := [.int x1, .int 3]) (st := []) dX6_upon_3 wm_X6_62 mw_X6_its rfl (Nat.le_of_ble_eq_true rfl) (rmok d) h5 (by decide) rfl h (fun v1 Sm2 h4 => ?_)
  obtain ⟨m2, rfl, r3, rfl, h⟩ := h4
  show WP G _ _ _ 0 0 6 [(0, .ref b), (1, .int x1)] [.int r3] (sh, ta, m2)
  refine WP.if_ge (tgt := 13) dX6_upon_6 (by decide) (fun c6 => ?_) (fun c6 => ?_)
  · have h := h.1 c6
    refine WP.aload_n 0 dX6_upon_13 rfl rfl ?_
    refine WP.aload_n 0 dX6_upon_14 rfl rfl ?_
    refine WP.iload_n 1 dX6_upon_15 rfl rfl ?_
    refine WP.iconst (v := 3) dX6_upon_16 rfl ?_
    refine WP.callV (y := mX6_its) (As := [.int x1, .int 3]) (st := [.ref b]) dX6_upon_17 wm_X6_62 mw_X6_its rfl (Nat.le_of_ble_eq_true rfl) (rmok d) h5 (by decide) rfl h (fun v7 Sm8 h10 => ?_)
    obtain ⟨m8, rfl, r9, rfl, h⟩ := h10
    show WP G _ _ _ 0 0 20 [(0, .ref b), (1, .int x1)] [.int r9, .ref b] (sh, ta, m8)
    refine WP.callV (y := mX6_size) (As := [.int r9]) (st := []) dX6_upon_20 wm_X6_54 mw_X6_size rfl (Nat.le_of_ble_eq_true rfl) (rmok d) h5 (by decide) rfl h (fun v11 Sm12 h14 => ?_)
    obtain ⟨m12, rfl, r13, rfl, h⟩ := h14
    show WP G _ _ _ 0 0 23 [(0, .ref b), (1, .int x1)] [.int r13] (sh, ta, m12)
    refine WP.iconst (v := 1) dX6_upon_23 rfl ?_
    refine WP.isub dX6_upon_24 ?_
    refine WP.aload_n 0 dX6_upon_25 rfl rfl ?_
    refine WP.iload_n 1 dX6_upon_26 rfl rfl ?_
    refine WP.callV (y := mX6_heightOf) (As := [.int x1]) (st := [.int (r13 - 1)]) dX6_upon_27 wm_X6_65 mw_X6_heightOf rfl (Nat.le_of_ble_eq_true rfl) (rmok d) h5 (by decide) rfl h (fun v15 Sm16 h18 => ?_)
    obtain ⟨m16, rfl, r17, rfl, h⟩ := h18
    show WP G _ _ _ 0 0 30 [(0, .ref b), (1, .int x1)] [.int r17, .int (r13 - 1)] (sh, ta, m16)
    refine WP.isub dX6_upon_30 ?_
    exact WP.iret dX6_upon_31 rfl (Nat.le_refl _) (Nat.le_refl _) ⟨_, rfl, h⟩
  · have h := h.2 c6
    refine WP.iconst (v := (-1)) dX6_upon_9 rfl ?_
    refine WP.goto (tgt := 31) dX6_upon_10 (by decide) ?_
    exact WP.iret dX6_upon_31 rfl (Nat.le_refl _) (Nat.le_refl _) ⟨_, rfl, h⟩
set_option maxHeartbeats 4000000 in
set_option maxRecDepth 20000 in
theorem rg_X6_feed_0 (hG : fl G = false) (b : Nat) (l1 : Int64) (x3 : Int32) (h : Cal G mX6_in d [.int x3, .int 1, .int 8] sh ta m (fun v1 m2 => ∃ r3, v1 = some (.int r3) ∧ ((¬ r3 = 0 → sh[b]? = some (.inl 6) ∧ ∃ i7, ta b 0 = some i7 ∧ ∃ n10, sh[i7]? = some (.inr (0, n10)) ∧ InB 5 n10 ∧ ((((rd (m2 i7) (5 : Int32)) + x3) ≤ (60 : Int32) → WP G (rmD (d + 1) 0 0) mX6_feed (QC G sh ta K) 0 0 38 [(0, .ref b), (1, .long l1), (3, .int x3), (4, .int 0)] [] (sh, ta, m2)) ∧ (¬ ((rd (m2 i7) (5 : Int32)) + x3) ≤ (60 : Int32) → Cal G mX6_error d [.ref b, .int 4] sh ta m2 (fun v13 m14 => ∃ r15, v13 = some (.int r15) ∧ K (some (.int r15)) m14)))) ∧ (r3 = 0 → sh[b]? = some (.inl 6) ∧ Cal G mX6_error d [.ref b, .int 1] sh ta m2 (fun v17 m18 => ∃ r19, v17 = some (.int r19) ∧ K (some (.int r19)) m18))))) : WP G (rmD (d + 1) 0 0) mX6_feed (QC G sh ta K) 0 0 0 [(0, .ref b), (1, .long l1), (3, .int x3)] [] (sh, ta, m) := by
  refine WP.iload_n 2 dX6_feed_0 rfl rfl ?_
  refine WP.iconst (v := 1) dX6_feed_1 rfl ?_
  refine WP.bipush (v := 8) dX6_feed_2 rfl ?_
  refine WP.callS (y := mX6_in) (As := [.int x3, .int 1, .int 8]) (st := []) dX6_feed_4 wm_X6_50 mw_X6_in rfl (Nat.le_of_ble_eq_true rfl) (rmok d) rfl h (fun v1 Sm2 h4 => ?_)
  obtain ⟨m2, rfl, r3, rfl, h⟩ := h4
  show WP G _ _ _ 0 0 7 [(0, .ref b), (1, .long l1), (3, .int x3)] [.int r3] (sh, ta, m2)
  refine WP.if_ne (tgt := 16) dX6_feed_7 (by decide) (fun c5 => ?_) (fun c5 => ?_)
  · have h := h.1 c5
    refine WP.aload_n 0 dX6_feed_16 rfl rfl ?_
    obtain ⟨h6, h⟩ := h
    obtain ⟨i7, h8, h⟩ := h
    refine WP.getR 6 0 wf_X6_7 (by decide) (by decide) rfl h6 h8 dX6_feed_17 ?_
    refine WP.iconst (v := 5) dX6_feed_20 rfl ?_
    obtain ⟨n10, h9, h⟩ := h
    obtain ⟨h11, h⟩ := h
    refine WP.iald h9 h11 dX6_feed_21 ?_
    refine WP.iload_n 2 dX6_feed_22 rfl rfl ?_
    refine WP.iadd dX6_feed_23 ?_
    refine WP.bipush (v := 60) dX6_feed_24 rfl ?_
    refine WP.icmp_le (tgt := 35) dX6_feed_26 (by decide) (fun c12 => ?_) (fun c12 => ?_)
    · have h := h.1 c12
      refine WP.iconst (v := 0) dX6_feed_35 rfl ?_
      refine WP.istore (lv2 := [(4, .int 0), (0, .ref b), (1, .long l1), (3, .int x3)]) dX6_feed_36 (by decide) rfl ?_
      exact WP.pick [1, 2, 3, 0] rfl h
    · have h := h.2 c12
      refine WP.aload_n 0 dX6_feed_29 rfl rfl ?_
      refine WP.iconst (v := 4) dX6_feed_30 rfl ?_
      refine WP.callV (y := mX6_error) (As := [.int 4]) (st := []) dX6_feed_31 wm_X6_68 mw_X6_error rfl (Nat.le_of_ble_eq_true rfl) (rmok d) h6 (by decide) rfl h (fun v13 Sm14 h16 => ?_)
      obtain ⟨m14, rfl, r15, rfl, h⟩ := h16
      show WP G _ _ _ 0 0 34 [(0, .ref b), (1, .long l1), (3, .int x3)] [.int r15] (sh, ta, m14)
      exact WP.iret dX6_feed_34 rfl (Nat.le_refl _) (Nat.le_refl _) ⟨_, rfl, h⟩
  · have h := h.2 c5
    refine WP.aload_n 0 dX6_feed_10 rfl rfl ?_
    refine WP.iconst (v := 1) dX6_feed_11 rfl ?_
    obtain ⟨h21, h⟩ := h
    refine WP.callV (y := mX6_error) (As := [.int 1]) (st := []) dX6_feed_12 wm_X6_68 mw_X6_error rfl (Nat.le_of_ble_eq_true rfl) (rmok d) h21 (by decide) rfl h (fun v17 Sm18 h20 => ?_)
    obtain ⟨m18, rfl, r19, rfl, h⟩ := h20
    show WP G _ _ _ 0 0 15 [(0, .ref b), (1, .long l1), (3, .int x3)] [.int r19] (sh, ta, m18)
    exact WP.iret dX6_feed_15 rfl (Nat.le_refl _) (Nat.le_refl _) ⟨_, rfl, h⟩
set_option maxHeartbeats 4000000 in
set_option maxRecDepth 20000 in
theorem rg_X6_feed_38 (hG : fl G = false) (b : Nat) (l1 : Int64) (x3 : Int32) (x4 : Int32) (h : ((x3 ≤ x4 → sh[b]? = some (.inl 6) ∧ ∃ i3, ta b 0 = some i3 ∧ ∃ n6, sh[i3]? = some (.inr (0, n6)) ∧ InB 5 n6 ∧ K (some (.int (rd (m i3) (5 : Int32)))) m) ∧ (¬ x3 ≤ x4 → sh[b]? = some (.inl 6) ∧ ∃ i9, ta b 0 = some i9 ∧ ∃ n12, sh[i9]? = some (.inr (0, n12)) ∧ InB 5 n12 ∧ InB (418 + (rd (m i9) (5 : Int32))) n12 ∧ ∀ m15, m15 = upa m i9 (418 + (rd (m i9) (5 : Int32))) (((l1 >>> ((8 * x4 : Int32).toInt64 &&& 63)) &&& 255 : Int64).toInt32) → InB 5 n12 ∧ InB 5 n12 ∧ ∀ m18, m18 = upa m15 i9 (5 : Int32) ((rd (m15 i9) (5 : Int32)) + 1) → WP G (rmD (d + 1) 0 0) mX6_feed (QC G sh ta K) 0 0 38 [(0, .ref b), (1, .long l1), (3, .int x3), (4, .int (x4 + 1))] [] (sh, ta, m18)))) : WP G (rmD (d + 1) 0 0) mX6_feed (QC G sh ta K) 0 0 38 [(0, .ref b), (1, .long l1), (3, .int x3), (4, .int x4)] [] (sh, ta, m) := by
  refine WP.iload 3 dX6_feed_38 rfl ?_
  refine WP.iload_n 2 dX6_feed_40 rfl rfl ?_
  refine WP.icmp_ge (tgt := 87) dX6_feed_41 (by decide) (fun c1 => ?_) (fun c1 => ?_)
  · have h := h.1 c1
    refine WP.aload_n 0 dX6_feed_87 rfl rfl ?_
    obtain ⟨h2, h⟩ := h
    obtain ⟨i3, h4, h⟩ := h
    refine WP.getR 6 0 wf_X6_7 (by decide) (by decide) rfl h2 h4 dX6_feed_88 ?_
    refine WP.iconst (v := 5) dX6_feed_91 rfl ?_
    obtain ⟨n6, h5, h⟩ := h
    obtain ⟨h7, h⟩ := h
    refine WP.iald h5 h7 dX6_feed_92 ?_
    exact WP.iret dX6_feed_93 rfl (Nat.le_refl _) (Nat.le_refl _) ⟨_, rfl, h⟩
  · have h := h.2 c1
    refine WP.aload_n 0 dX6_feed_44 rfl rfl ?_
    obtain ⟨h8, h⟩ := h
    obtain ⟨i9, h10, h⟩ := h
    refine WP.getR 6 0 wf_X6_7 (by decide) (by decide) rfl h8 h10 dX6_feed_45 ?_
    refine WP.sipush (v := 418) dX6_feed_48 rfl ?_
    refine WP.aload_n 0 dX6_feed_51 rfl rfl ?_
    refine WP.getR 6 0 wf_X6_7 (by decide) (by decide) rfl h8 h10 dX6_feed_52 ?_
    refine WP.iconst (v := 5) dX6_feed_55 rfl ?_
    obtain ⟨n12, h11, h⟩ := h
    obtain ⟨h13, h⟩ := h
    refine WP.iald h11 h13 dX6_feed_56 ?_
    refine WP.iadd dX6_feed_57 ?_
    refine WP.lload_n 1 dX6_feed_58 rfl rfl ?_
    refine WP.bipush (v := 8) dX6_feed_59 rfl ?_
    refine WP.iload 3 dX6_feed_61 rfl ?_
    refine WP.imul dX6_feed_63 ?_
    refine WP.lshr dX6_feed_64 ?_
    refine WP.ldc2 wx_X6_71 dX6_feed_65 ?_
    refine WP.land dX6_feed_68 ?_
    refine WP.l2i dX6_feed_69 ?_
    obtain ⟨h14, h⟩ := h
    have h := h _ rfl
    refine WP.iast h11 h14 dX6_feed_70 ?_
    generalize upa m i9 (418 + (rd (m i9) (5 : Int32))) (((l1 >>> ((8 * x4 : Int32).toInt64 &&& 63)) &&& 255 : Int64).toInt32) = m15 at h ⊢
    refine WP.aload_n 0 dX6_feed_71 rfl rfl ?_
    refine WP.getR 6 0 wf_X6_7 (by decide) (by decide) rfl h8 h10 dX6_feed_72 ?_
    refine WP.iconst (v := 5) dX6_feed_75 rfl ?_
    refine WP.dup2 dX6_feed_76 rfl rfl ?_
    obtain ⟨h16, h⟩ := h
    refine WP.iald h11 h16 dX6_feed_77 ?_
    refine WP.iconst (v := 1) dX6_feed_78 rfl ?_
    refine WP.iadd dX6_feed_79 ?_
    obtain ⟨h17, h⟩ := h
    have h := h _ rfl
    refine WP.iast h11 h17 dX6_feed_80 ?_
    generalize upa m15 i9 (5 : Int32) ((rd (m15 i9) (5 : Int32)) + 1) = m18 at h ⊢
    refine WP.iinc (lv2 := [(4, .int (x4 + 1)), (0, .ref b), (1, .long l1), (3, .int x3)]) 3 1 dX6_feed_81 rfl rfl (by decide) rfl ?_
    refine WP.goto (tgt := 38) dX6_feed_84 (by decide) ?_
    exact WP.pick [1, 2, 3, 0] rfl h
set_option maxHeartbeats 4000000 in
set_option maxRecDepth 20000 in
theorem rg_X6_look_0 (hG : fl G = false) (b : Nat) (h : sh[b]? = some (.inl 6) ∧ ∃ i2, ta b 0 = some i2 ∧ ∃ n5, sh[i2]? = some (.inr (0, n5)) ∧ InB 5 n5 ∧ (((rd (m i2) (5 : Int32)) ≤ (m b 5) → K (some (.int ((-1)))) m) ∧ (¬ (rd (m i2) (5 : Int32)) ≤ (m b 5) → InB (418 + (m b 5)) n5 ∧ K (some (.int (rd (m i2) (418 + (m b 5))))) m))) : WP G (rmD (d + 1) 0 0) mX6_look (QC G sh ta K) 0 0 0 [(0, .ref b)] [] (sh, ta, m) := by
  refine WP.aload_n 0 dX6_look_0 rfl rfl ?_
  obtain ⟨h1, h⟩ := h
  refine WP.getI 6 5 wf_X6_73 (by decide) (by decide) rfl h1 dX6_look_1 ?_
  refine WP.aload_n 0 dX6_look_4 rfl rfl ?_
  obtain ⟨i2, h3, h⟩ := h
  refine WP.getR 6 0 wf_X6_7 (by decide) (by decide) rfl h1 h3 dX6_look_5 ?_
  refine WP.iconst (v := 5) dX6_look_8 rfl ?_
  obtain ⟨n5, h4, h⟩ := h
  obtain ⟨h6, h⟩ := h
  refine WP.iald h4 h6 dX6_look_9 ?_
  refine WP.icmp_ge (tgt := 29) dX6_look_10 (by decide) (fun c7 => ?_) (fun c7 => ?_)
  · have h := h.1 c7
    refine WP.iconst (v := (-1)) dX6_look_29 rfl ?_
    exact WP.iret dX6_look_30 rfl (Nat.le_refl _) (Nat.le_refl _) ⟨_, rfl, h⟩
  · have h := h.2 c7
    refine WP.aload_n 0 dX6_look_13 rfl rfl ?_
    refine WP.getR 6 0 wf_X6_7 (by decide) (by decide) rfl h1 h3 dX6_look_14 ?_
    refine WP.sipush (v := 418) dX6_look_17 rfl ?_
    refine WP.aload_n 0 dX6_look_20 rfl rfl ?_
    refine WP.getI 6 5 wf_X6_73 (by decide) (by decide) rfl h1 dX6_look_21 ?_
    refine WP.iadd dX6_look_24 ?_
    obtain ⟨h8, h⟩ := h
    refine WP.iald h4 h8 dX6_look_25 ?_
    refine WP.goto (tgt := 30) dX6_look_26 (by decide) ?_
    exact WP.iret dX6_look_30 rfl (Nat.le_refl _) (Nat.le_refl _) ⟨_, rfl, h⟩
set_option maxHeartbeats 4000000 in
set_option maxRecDepth 20000 in
theorem rg_X6_isName_0 (hG : fl G = false) (b : Nat) (x1 : Int32) (h : ((¬ x1 = (109 : Int32) → sh[b]? = some (.inl 6) ∧ ((¬ (m b 8) = 0 → ((x1 = (119 : Int32) → K (some (.int 1)) m) ∧ (¬ x1 = (119 : Int32) → ((¬ x1 = (107 : Int32) → K (some (.int 0)) m) ∧ (x1 = (107 : Int32) → K (some (.int 1)) m))))) ∧ ((m b 8) = 0 → ((x1 = (111 : Int32) → K (some (.int 1)) m) ∧ (¬ x1 = (111 : Int32) → ((x1 = (117 : Int32) → K (some (.int 1)) m) ∧ (¬ x1 = (117 : Int32) → ((¬ x1 = (99 : Int32) → K (some (.int 0)) m) ∧ (x1 = (99 : Int32) → K (some (.int 1)) m))))))))) ∧ (x1 = (109 : Int32) → K (some (.int 1)) m))) : WP G (rmD (d + 1) 0 0) mX6_isName (QC G sh ta K) 0 0 0 [(0, .ref b), (1, .int x1)] [] (sh, ta, m) := by
  refine WP.iload_n 1 dX6_isName_0 rfl rfl ?_
  refine WP.bipush (v := 109) dX6_isName_1 rfl ?_
  refine WP.icmp_ne (tgt := 8) dX6_isName_3 (by decide) (fun c1 => ?_) (fun c1 => ?_)
  · have h := h.1 c1
    refine WP.aload_n 0 dX6_isName_8 rfl rfl ?_
    obtain ⟨h2, h⟩ := h
    refine WP.getI 6 8 wf_X6_77 (by decide) (by decide) rfl h2 dX6_isName_9 ?_
    refine WP.if_ne (tgt := 41) dX6_isName_12 (by decide) (fun c3 => ?_) (fun c3 => ?_)
    · have h := h.1 c3
      refine WP.iload_n 1 dX6_isName_41 rfl rfl ?_
      refine WP.bipush (v := 119) dX6_isName_42 rfl ?_
      refine WP.icmp_eq (tgt := 53) dX6_isName_44 (by decide) (fun c4 => ?_) (fun c4 => ?_)
      · have h := h.1 c4
        refine WP.iconst (v := 1) dX6_isName_53 rfl ?_
        refine WP.goto (tgt := 58) dX6_isName_54 (by decide) ?_
        exact WP.zret dX6_isName_58 rfl (Nat.le_refl _) (Nat.le_refl _) rfl ⟨_, rfl, h⟩
      · have h := h.2 c4
        refine WP.iload_n 1 dX6_isName_47 rfl rfl ?_
        refine WP.bipush (v := 107) dX6_isName_48 rfl ?_
        refine WP.icmp_ne (tgt := 57) dX6_isName_50 (by decide) (fun c5 => ?_) (fun c5 => ?_)
        · have h := h.1 c5
          refine WP.iconst (v := 0) dX6_isName_57 rfl ?_
          exact WP.zret dX6_isName_58 rfl (Nat.le_refl _) (Nat.le_refl _) rfl ⟨_, rfl, h⟩
        · have h := h.2 c5
          refine WP.iconst (v := 1) dX6_isName_53 rfl ?_
          refine WP.goto (tgt := 58) dX6_isName_54 (by decide) ?_
          exact WP.zret dX6_isName_58 rfl (Nat.le_refl _) (Nat.le_refl _) rfl ⟨_, rfl, h⟩
    · have h := h.2 c3
      refine WP.iload_n 1 dX6_isName_15 rfl rfl ?_
      refine WP.bipush (v := 111) dX6_isName_16 rfl ?_
      refine WP.icmp_eq (tgt := 33) dX6_isName_18 (by decide) (fun c6 => ?_) (fun c6 => ?_)
      · have h := h.1 c6
        refine WP.iconst (v := 1) dX6_isName_33 rfl ?_
        refine WP.goto (tgt := 58) dX6_isName_34 (by decide) ?_
        exact WP.zret dX6_isName_58 rfl (Nat.le_refl _) (Nat.le_refl _) rfl ⟨_, rfl, h⟩
      · have h := h.2 c6
        refine WP.iload_n 1 dX6_isName_21 rfl rfl ?_
        refine WP.bipush (v := 117) dX6_isName_22 rfl ?_
        refine WP.icmp_eq (tgt := 33) dX6_isName_24 (by decide) (fun c7 => ?_) (fun c7 => ?_)
        · have h := h.1 c7
          refine WP.iconst (v := 1) dX6_isName_33 rfl ?_
          refine WP.goto (tgt := 58) dX6_isName_34 (by decide) ?_
          exact WP.zret dX6_isName_58 rfl (Nat.le_refl _) (Nat.le_refl _) rfl ⟨_, rfl, h⟩
        · have h := h.2 c7
          refine WP.iload_n 1 dX6_isName_27 rfl rfl ?_
          refine WP.bipush (v := 99) dX6_isName_28 rfl ?_
          refine WP.icmp_ne (tgt := 37) dX6_isName_30 (by decide) (fun c8 => ?_) (fun c8 => ?_)
          · have h := h.1 c8
            refine WP.iconst (v := 0) dX6_isName_37 rfl ?_
            refine WP.goto (tgt := 58) dX6_isName_38 (by decide) ?_
            exact WP.zret dX6_isName_58 rfl (Nat.le_refl _) (Nat.le_refl _) rfl ⟨_, rfl, h⟩
          · have h := h.2 c8
            refine WP.iconst (v := 1) dX6_isName_33 rfl ?_
            refine WP.goto (tgt := 58) dX6_isName_34 (by decide) ?_
            exact WP.zret dX6_isName_58 rfl (Nat.le_refl _) (Nat.le_refl _) rfl ⟨_, rfl, h⟩
  · have h := h.2 c1
    refine WP.iconst (v := 1) dX6_isName_6 rfl ?_
    exact WP.zret dX6_isName_7 rfl (Nat.le_refl _) (Nat.le_refl _) rfl ⟨_, rfl, h⟩
set_option maxHeartbeats 4000000 in
set_option maxRecDepth 20000 in
theorem rg_X6_step1_0 (hG : fl G = false) (b : Nat) (x1 : Int32) (x2 : Int32) (h : sh[b]? = some (.inl 6) ∧ ∃ i2, ta b 9 = some i2 ∧ ∃ n5, sh[i2]? = some (.inr (0, n5)) ∧ InB (2 * (m b 7)) n5 ∧ ∀ m7, m7 = upa m i2 (2 * (m b 7)) x1 → InB ((2 * (m7 b 7)) + 1) n5 ∧ ∀ m9, m9 = upa m7 i2 ((2 * (m7 b 7)) + 1) x2 → ∀ m10, m10 = up2 m9 b 7 ((m9 b 7) + 1) → K none m10) : WP G (rmD (d + 1) 0 0) mX6_step1 (QC G sh ta K) 0 0 0 [(0, .ref b), (1, .int x1), (2, .int x2)] [] (sh, ta, m) := by
  refine WP.aload_n 0 dX6_step1_0 rfl rfl ?_
  obtain ⟨h1, h⟩ := h
  obtain ⟨i2, h3, h⟩ := h
  refine WP.getR 6 9 wf_X6_22 (by decide) (by decide) rfl h1 h3 dX6_step1_1 ?_
  refine WP.iconst (v := 2) dX6_step1_4 rfl ?_
  refine WP.aload_n 0 dX6_step1_5 rfl rfl ?_
  refine WP.getI 6 7 wf_X6_80 (by decide) (by decide) rfl h1 dX6_step1_6 ?_
  refine WP.imul dX6_step1_9 ?_
  refine WP.iload_n 1 dX6_step1_10 rfl rfl ?_
  obtain ⟨n5, h4, h⟩ := h
  obtain ⟨h6, h⟩ := h
  have h := h _ rfl
  refine WP.iast h4 h6 dX6_step1_11 ?_
  generalize upa m i2 (2 * (m b 7)) x1 = m7 at h ⊢
  refine WP.aload_n 0 dX6_step1_12 rfl rfl ?_
  refine WP.getR 6 9 wf_X6_22 (by decide) (by decide) rfl h1 h3 dX6_step1_13 ?_
  refine WP.iconst (v := 2) dX6_step1_16 rfl ?_
  refine WP.aload_n 0 dX6_step1_17 rfl rfl ?_
  refine WP.getI 6 7 wf_X6_80 (by decide) (by decide) rfl h1 dX6_step1_18 ?_
  refine WP.imul dX6_step1_21 ?_
  refine WP.iconst (v := 1) dX6_step1_22 rfl ?_
  refine WP.iadd dX6_step1_23 ?_
  refine WP.iload_n 2 dX6_step1_24 rfl rfl ?_
  obtain ⟨h8, h⟩ := h
  have h := h _ rfl
  refine WP.iast h4 h8 dX6_step1_25 ?_
  generalize upa m7 i2 ((2 * (m7 b 7)) + 1) x2 = m9 at h ⊢
  refine WP.aload_n 0 dX6_step1_26 rfl rfl ?_
  refine WP.dup dX6_step1_27 rfl ?_
  refine WP.getI 6 7 wf_X6_80 (by decide) (by decide) rfl h1 dX6_step1_28 ?_
  refine WP.iconst (v := 1) dX6_step1_31 rfl ?_
  refine WP.iadd dX6_step1_32 ?_
  have h := h _ rfl
  refine WP.putI 6 7 wf_X6_80 (by decide) (by decide) rfl h1 rfl rfl rfl dX6_step1_33 ?_
  generalize up2 m9 b 7 ((m9 b 7) + 1) = m10 at h ⊢
  exact WP.vret dX6_step1_36 rfl (Nat.le_refl _) (Nat.le_refl _) ⟨_, rfl, h⟩
set_option maxHeartbeats 4000000 in
set_option maxRecDepth 20000 in
theorem rg_X6_whole_0 (hG : fl G = false) (b : Nat) (h : sh[b]? = some (.inl 6) ∧ Cal G mX6_both d [.ref b] sh ta m (fun v1 m2 => ∃ r3, v1 = some (.int r3) ∧ ((¬ r3 = 0 → WP G (rmD (d + 1) 0 0) mX6_whole (QC G sh ta K) 0 0 9 [(0, .ref b)] [] (sh, ta, m2)) ∧ (r3 = 0 → K (some (.int 0)) m2)))) : WP G (rmD (d + 1) 0 0) mX6_whole (QC G sh ta K) 0 0 0 [(0, .ref b)] [] (sh, ta, m) := by
  refine WP.aload_n 0 dX6_whole_0 rfl rfl ?_
  obtain ⟨h5, h⟩ := h
  refine WP.callV (y := mX6_both) (As := []) (st := []) dX6_whole_1 wm_X6_83 mw_X6_both rfl (Nat.le_of_ble_eq_true rfl) (rmok d) h5 (by decide) rfl h (fun v1 Sm2 h4 => ?_)
  obtain ⟨m2, rfl, r3, rfl, h⟩ := h4
  show WP G _ _ _ 0 0 4 [(0, .ref b)] [.int r3] (sh, ta, m2)
  refine WP.if_ne (tgt := 9) dX6_whole_4 (by decide) (fun c6 => ?_) (fun c6 => ?_)
  · have h := h.1 c6
    exact h
  · have h := h.2 c6
    refine WP.iconst (v := 0) dX6_whole_7 rfl ?_
    exact WP.zret dX6_whole_8 rfl (Nat.le_refl _) (Nat.le_refl _) rfl ⟨_, rfl, h⟩
set_option maxHeartbeats 4000000 in
set_option maxRecDepth 20000 in
theorem rg_X6_whole_9 (hG : fl G = false) (b : Nat) (h : sh[b]? = some (.inl 6) ∧ Cal G mX6_look d [.ref b] sh ta m (fun v1 m2 => ∃ r3, v1 = some (.int r3) ∧ ((¬ r3 = (124 : Int32) → K (some (.int 1)) m2) ∧ (r3 = (124 : Int32) → ∀ m7, m7 = up2 m2 b 5 ((m2 b 5) + 1) → Cal G mX6_both d [.ref b] sh ta m7 (fun v8 m9 => ∃ r10, v8 = some (.int r10) ∧ ((¬ r10 = 0 → Cal G mX6_step1 d [.ref b, .int 3, .int 124] sh ta m9 (fun v13 m14 => v13 = none ∧ WP G (rmD (d + 1) 0 0) mX6_whole (QC G sh ta K) 0 0 9 [(0, .ref b)] [] (sh, ta, m14))) ∧ (r10 = 0 → K (some (.int 0)) m9))))))) : WP G (rmD (d + 1) 0 0) mX6_whole (QC G sh ta K) 0 0 9 [(0, .ref b)] [] (sh, ta, m) := by
  refine WP.aload_n 0 dX6_whole_9 rfl rfl ?_
  obtain ⟨h5, h⟩ := h
  refine WP.callV (y := mX6_look) (As := []) (st := []) dX6_whole_10 wm_X6_87 mw_X6_look rfl (Nat.le_of_ble_eq_true rfl) (rmok d) h5 (by decide) rfl h (fun v1 Sm2 h4 => ?_)
  obtain ⟨m2, rfl, r3, rfl, h⟩ := h4
  show WP G _ _ _ 0 0 13 [(0, .ref b)] [.int r3] (sh, ta, m2)
  refine WP.bipush (v := 124) dX6_whole_13 rfl ?_
  refine WP.icmp_ne (tgt := 47) dX6_whole_15 (by decide) (fun c6 => ?_) (fun c6 => ?_)
  · have h := h.1 c6
    refine WP.iconst (v := 1) dX6_whole_47 rfl ?_
    exact WP.zret dX6_whole_48 rfl (Nat.le_refl _) (Nat.le_refl _) rfl ⟨_, rfl, h⟩
  · have h := h.2 c6
    refine WP.aload_n 0 dX6_whole_18 rfl rfl ?_
    refine WP.dup dX6_whole_19 rfl ?_
    refine WP.getI 6 5 wf_X6_73 (by decide) (by decide) rfl h5 dX6_whole_20 ?_
    refine WP.iconst (v := 1) dX6_whole_23 rfl ?_
    refine WP.iadd dX6_whole_24 ?_
    have h := h _ rfl
    refine WP.putI 6 5 wf_X6_73 (by decide) (by decide) rfl h5 rfl rfl rfl dX6_whole_25 ?_
    generalize up2 m2 b 5 ((m2 b 5) + 1) = m7 at h ⊢
    refine WP.aload_n 0 dX6_whole_28 rfl rfl ?_
    refine WP.callV (y := mX6_both) (As := []) (st := []) dX6_whole_29 wm_X6_83 mw_X6_both rfl (Nat.le_of_ble_eq_true rfl) (rmok d) h5 (by decide) rfl h (fun v8 Sm9 h11 => ?_)
    obtain ⟨m9, rfl, r10, rfl, h⟩ := h11
    show WP G _ _ _ 0 0 32 [(0, .ref b)] [.int r10] (sh, ta, m9)
    refine WP.if_ne (tgt := 37) dX6_whole_32 (by decide) (fun c12 => ?_) (fun c12 => ?_)
    · have h := h.1 c12
      refine WP.aload_n 0 dX6_whole_37 rfl rfl ?_
      refine WP.iconst (v := 3) dX6_whole_38 rfl ?_
      refine WP.bipush (v := 124) dX6_whole_39 rfl ?_
      refine WP.callV (y := mX6_step1) (As := [.int 3, .int 124]) (st := []) dX6_whole_41 wm_X6_91 mw_X6_step1 rfl (Nat.le_of_ble_eq_true rfl) (rmok d) h5 (by decide) rfl h (fun v13 Sm14 h16 => ?_)
      obtain ⟨m14, rfl, rfl, h⟩ := h16
      show WP G _ _ _ 0 0 44 [(0, .ref b)] [] (sh, ta, m14)
      refine WP.goto (tgt := 9) dX6_whole_44 (by decide) ?_
      exact h
    · have h := h.2 c12
      refine WP.iconst (v := 0) dX6_whole_35 rfl ?_
      exact WP.zret dX6_whole_36 rfl (Nat.le_refl _) (Nat.le_refl _) rfl ⟨_, rfl, h⟩
set_option maxHeartbeats 4000000 in
set_option maxRecDepth 20000 in
theorem rg_X6_both_0 (hG : fl G = false) (b : Nat) (h : sh[b]? = some (.inl 6) ∧ Cal G mX6_compared d [.ref b] sh ta m (fun v1 m2 => ∃ r3, v1 = some (.int r3) ∧ ((¬ r3 = 0 → WP G (rmD (d + 1) 0 0) mX6_both (QC G sh ta K) 0 0 9 [(0, .ref b)] [] (sh, ta, m2)) ∧ (r3 = 0 → K (some (.int 0)) m2)))) : WP G (rmD (d + 1) 0 0) mX6_both (QC G sh ta K) 0 0 0 [(0, .ref b)] [] (sh, ta, m) := by
  refine WP.aload_n 0 dX6_both_0 rfl rfl ?_
  obtain ⟨h5, h⟩ := h
  refine WP.callV (y := mX6_compared) (As := []) (st := []) dX6_both_1 wm_X6_95 mw_X6_compared rfl (Nat.le_of_ble_eq_true rfl) (rmok d) h5 (by decide) rfl h (fun v1 Sm2 h4 => ?_)
  obtain ⟨m2, rfl, r3, rfl, h⟩ := h4
  show WP G _ _ _ 0 0 4 [(0, .ref b)] [.int r3] (sh, ta, m2)
  refine WP.if_ne (tgt := 9) dX6_both_4 (by decide) (fun c6 => ?_) (fun c6 => ?_)
  · have h := h.1 c6
    exact h
  · have h := h.2 c6
    refine WP.iconst (v := 0) dX6_both_7 rfl ?_
    exact WP.zret dX6_both_8 rfl (Nat.le_refl _) (Nat.le_refl _) rfl ⟨_, rfl, h⟩
set_option maxHeartbeats 4000000 in
set_option maxRecDepth 20000 in
theorem rg_X6_both_9 (hG : fl G = false) (b : Nat) (h : sh[b]? = some (.inl 6) ∧ Cal G mX6_look d [.ref b] sh ta m (fun v1 m2 => ∃ r3, v1 = some (.int r3) ∧ ((¬ r3 = (38 : Int32) → K (some (.int 1)) m2) ∧ (r3 = (38 : Int32) → ∀ m7, m7 = up2 m2 b 5 ((m2 b 5) + 1) → Cal G mX6_compared d [.ref b] sh ta m7 (fun v8 m9 => ∃ r10, v8 = some (.int r10) ∧ ((¬ r10 = 0 → Cal G mX6_step1 d [.ref b, .int 3, .int 38] sh ta m9 (fun v13 m14 => v13 = none ∧ WP G (rmD (d + 1) 0 0) mX6_both (QC G sh ta K) 0 0 9 [(0, .ref b)] [] (sh, ta, m14))) ∧ (r10 = 0 → K (some (.int 0)) m9))))))) : WP G (rmD (d + 1) 0 0) mX6_both (QC G sh ta K) 0 0 9 [(0, .ref b)] [] (sh, ta, m) := by
  refine WP.aload_n 0 dX6_both_9 rfl rfl ?_
  obtain ⟨h5, h⟩ := h
  refine WP.callV (y := mX6_look) (As := []) (st := []) dX6_both_10 wm_X6_87 mw_X6_look rfl (Nat.le_of_ble_eq_true rfl) (rmok d) h5 (by decide) rfl h (fun v1 Sm2 h4 => ?_)
  obtain ⟨m2, rfl, r3, rfl, h⟩ := h4
  show WP G _ _ _ 0 0 13 [(0, .ref b)] [.int r3] (sh, ta, m2)
  refine WP.bipush (v := 38) dX6_both_13 rfl ?_
  refine WP.icmp_ne (tgt := 47) dX6_both_15 (by decide) (fun c6 => ?_) (fun c6 => ?_)
  · have h := h.1 c6
    refine WP.iconst (v := 1) dX6_both_47 rfl ?_
    exact WP.zret dX6_both_48 rfl (Nat.le_refl _) (Nat.le_refl _) rfl ⟨_, rfl, h⟩
  · have h := h.2 c6
    refine WP.aload_n 0 dX6_both_18 rfl rfl ?_
    refine WP.dup dX6_both_19 rfl ?_
    refine WP.getI 6 5 wf_X6_73 (by decide) (by decide) rfl h5 dX6_both_20 ?_
    refine WP.iconst (v := 1) dX6_both_23 rfl ?_
    refine WP.iadd dX6_both_24 ?_
    have h := h _ rfl
    refine WP.putI 6 5 wf_X6_73 (by decide) (by decide) rfl h5 rfl rfl rfl dX6_both_25 ?_
    generalize up2 m2 b 5 ((m2 b 5) + 1) = m7 at h ⊢
    refine WP.aload_n 0 dX6_both_28 rfl rfl ?_
    refine WP.callV (y := mX6_compared) (As := []) (st := []) dX6_both_29 wm_X6_95 mw_X6_compared rfl (Nat.le_of_ble_eq_true rfl) (rmok d) h5 (by decide) rfl h (fun v8 Sm9 h11 => ?_)
    obtain ⟨m9, rfl, r10, rfl, h⟩ := h11
    show WP G _ _ _ 0 0 32 [(0, .ref b)] [.int r10] (sh, ta, m9)
    refine WP.if_ne (tgt := 37) dX6_both_32 (by decide) (fun c12 => ?_) (fun c12 => ?_)
    · have h := h.1 c12
      refine WP.aload_n 0 dX6_both_37 rfl rfl ?_
      refine WP.iconst (v := 3) dX6_both_38 rfl ?_
      refine WP.bipush (v := 38) dX6_both_39 rfl ?_
      refine WP.callV (y := mX6_step1) (As := [.int 3, .int 38]) (st := []) dX6_both_41 wm_X6_91 mw_X6_step1 rfl (Nat.le_of_ble_eq_true rfl) (rmok d) h5 (by decide) rfl h (fun v13 Sm14 h16 => ?_)
      obtain ⟨m14, rfl, rfl, h⟩ := h16
      show WP G _ _ _ 0 0 44 [(0, .ref b)] [] (sh, ta, m14)
      refine WP.goto (tgt := 9) dX6_both_44 (by decide) ?_
      exact h
    · have h := h.2 c12
      refine WP.iconst (v := 0) dX6_both_35 rfl ?_
      exact WP.zret dX6_both_36 rfl (Nat.le_refl _) (Nat.le_refl _) rfl ⟨_, rfl, h⟩
set_option maxHeartbeats 4000000 in
set_option maxRecDepth 20000 in
theorem rg_X6_compared_0 (hG : fl G = false) (b : Nat) (h : sh[b]? = some (.inl 6) ∧ Cal G mX6_sum d [.ref b] sh ta m (fun v1 m2 => ∃ r3, v1 = some (.int r3) ∧ ((¬ r3 = 0 → Cal G mX6_look d [.ref b] sh ta m2 (fun v7 m8 => ∃ r9, v7 = some (.int r9) ∧ ((r9 = (60 : Int32) → ∀ m12, m12 = up2 m8 b 5 ((m8 b 5) + 1) → Cal G mX6_sum d [.ref b] sh ta m12 (fun v13 m14 => ∃ r15, v13 = some (.int r15) ∧ ((¬ r15 = 0 → Cal G mX6_step1 d [.ref b, .int 3, .int r9] sh ta m14 (fun v18 m19 => v18 = none ∧ K (some (.int 1)) m19)) ∧ (r15 = 0 → K (some (.int 0)) m14)))) ∧ (¬ r9 = (60 : Int32) → ((r9 = (61 : Int32) → ∀ m23, m23 = up2 m8 b 5 ((m8 b 5) + 1) → Cal G mX6_sum d [.ref b] sh ta m23 (fun v24 m25 => ∃ r26, v24 = some (.int r26) ∧ ((¬ r26 = 0 → Cal G mX6_step1 d [.ref b, .int 3, .int r9] sh ta m25 (fun v29 m30 => v29 = none ∧ K (some (.int 1)) m30)) ∧ (r26 = 0 → K (some (.int 0)) m25)))) ∧ (¬ r9 = (61 : Int32) → ((r9 = (62 : Int32) → ∀ m34, m34 = up2 m8 b 5 ((m8 b 5) + 1) → Cal G mX6_sum d [.ref b] sh ta m34 (fun v35 m36 => ∃ r37, v35 = some (.int r37) ∧ ((¬ r37 = 0 → Cal G mX6_step1 d [.ref b, .int 3, .int r9] sh ta m36 (fun v40 m41 => v40 = none ∧ K (some (.int 1)) m41)) ∧ (r37 = 0 → K (some (.int 0)) m36)))) ∧ (¬ r9 = (62 : Int32) → K (some (.int 1)) m8)))))))) ∧ (r3 = 0 → K (some (.int 0)) m2)))) : WP G (rmD (d + 1) 0 0) mX6_compared (QC G sh ta K) 0 0 0 [(0, .ref b)] [] (sh, ta, m) := by
  refine WP.aload_n 0 dX6_compared_0 rfl rfl ?_
  obtain ⟨h5, h⟩ := h
  refine WP.callV (y := mX6_sum) (As := []) (st := []) dX6_compared_1 wm_X6_98 mw_X6_sum rfl (Nat.le_of_ble_eq_true rfl) (rmok d) h5 (by decide) rfl h (fun v1 Sm2 h4 => ?_)
  obtain ⟨m2, rfl, r3, rfl, h⟩ := h4
  show WP G _ _ _ 0 0 4 [(0, .ref b)] [.int r3] (sh, ta, m2)
  refine WP.if_ne (tgt := 9) dX6_compared_4 (by decide) (fun c6 => ?_) (fun c6 => ?_)
  · have h := h.1 c6
    refine WP.aload_n 0 dX6_compared_9 rfl rfl ?_
    refine WP.callV (y := mX6_look) (As := []) (st := []) dX6_compared_10 wm_X6_87 mw_X6_look rfl (Nat.le_of_ble_eq_true rfl) (rmok d) h5 (by decide) rfl h (fun v7 Sm8 h10 => ?_)
    obtain ⟨m8, rfl, r9, rfl, h⟩ := h10
    show WP G _ _ _ 0 0 13 [(0, .ref b)] [.int r9] (sh, ta, m8)
    refine WP.istore_n (lv2 := [(1, .int r9), (0, .ref b)]) dX6_compared_13 rfl (by decide) rfl ?_
    refine WP.iload_n 0 dX6_compared_14 rfl rfl ?_
    refine WP.bipush (v := 60) dX6_compared_15 rfl ?_
    refine WP.icmp_eq (tgt := 34) dX6_compared_17 (by decide) (fun c11 => ?_) (fun c11 => ?_)
    · have h := h.1 c11
      refine WP.aload_n 1 dX6_compared_34 rfl rfl ?_
      refine WP.dup dX6_compared_35 rfl ?_
      refine WP.getI 6 5 wf_X6_73 (by decide) (by decide) rfl h5 dX6_compared_36 ?_
      refine WP.iconst (v := 1) dX6_compared_39 rfl ?_
      refine WP.iadd dX6_compared_40 ?_
      have h := h _ rfl
      refine WP.putI 6 5 wf_X6_73 (by decide) (by decide) rfl h5 rfl rfl rfl dX6_compared_41 ?_
      generalize up2 m8 b 5 ((m8 b 5) + 1) = m12 at h ⊢
      refine WP.aload_n 1 dX6_compared_44 rfl rfl ?_
      refine WP.callV (y := mX6_sum) (As := []) (st := []) dX6_compared_45 wm_X6_98 mw_X6_sum rfl (Nat.le_of_ble_eq_true rfl) (rmok d) h5 (by decide) rfl h (fun v13 Sm14 h16 => ?_)
      obtain ⟨m14, rfl, r15, rfl, h⟩ := h16
      show WP G _ _ _ 0 0 48 [(1, .int r9), (0, .ref b)] [.int r15] (sh, ta, m14)
      refine WP.if_ne (tgt := 53) dX6_compared_48 (by decide) (fun c17 => ?_) (fun c17 => ?_)
      · have h := h.1 c17
        refine WP.aload_n 1 dX6_compared_53 rfl rfl ?_
        refine WP.iconst (v := 3) dX6_compared_54 rfl ?_
        refine WP.iload_n 0 dX6_compared_55 rfl rfl ?_
        refine WP.callV (y := mX6_step1) (As := [.int 3, .int r9]) (st := []) dX6_compared_56 wm_X6_91 mw_X6_step1 rfl (Nat.le_of_ble_eq_true rfl) (rmok d) h5 (by decide) rfl h (fun v18 Sm19 h21 => ?_)
        obtain ⟨m19, rfl, rfl, h⟩ := h21
        show WP G _ _ _ 0 0 59 [(1, .int r9), (0, .ref b)] [] (sh, ta, m19)
        refine WP.iconst (v := 1) dX6_compared_59 rfl ?_
        exact WP.zret dX6_compared_60 rfl (Nat.le_refl _) (Nat.le_refl _) rfl ⟨_, rfl, h⟩
      · have h := h.2 c17
        refine WP.iconst (v := 0) dX6_compared_51 rfl ?_
        exact WP.zret dX6_compared_52 rfl (Nat.le_refl _) (Nat.le_refl _) rfl ⟨_, rfl, h⟩
    · have h := h.2 c11
      refine WP.iload_n 0 dX6_compared_20 rfl rfl ?_
      refine WP.bipush (v := 61) dX6_compared_21 rfl ?_
      refine WP.icmp_eq (tgt := 34) dX6_compared_23 (by decide) (fun c22 => ?_) (fun c22 => ?_)
      · have h := h.1 c22
        refine WP.aload_n 1 dX6_compared_34 rfl rfl ?_
        refine WP.dup dX6_compared_35 rfl ?_
        refine WP.getI 6 5 wf_X6_73 (by decide) (by decide) rfl h5 dX6_compared_36 ?_
        refine WP.iconst (v := 1) dX6_compared_39 rfl ?_
        refine WP.iadd dX6_compared_40 ?_
        have h := h _ rfl
        refine WP.putI 6 5 wf_X6_73 (by decide) (by decide) rfl h5 rfl rfl rfl dX6_compared_41 ?_
        generalize up2 m8 b 5 ((m8 b 5) + 1) = m23 at h ⊢
        refine WP.aload_n 1 dX6_compared_44 rfl rfl ?_
        refine WP.callV (y := mX6_sum) (As := []) (st := []) dX6_compared_45 wm_X6_98 mw_X6_sum rfl (Nat.le_of_ble_eq_true rfl) (rmok d) h5 (by decide) rfl h (fun v24 Sm25 h27 => ?_)
        obtain ⟨m25, rfl, r26, rfl, h⟩ := h27
        show WP G _ _ _ 0 0 48 [(1, .int r9), (0, .ref b)] [.int r26] (sh, ta, m25)
        refine WP.if_ne (tgt := 53) dX6_compared_48 (by decide) (fun c28 => ?_) (fun c28 => ?_)
        · have h := h.1 c28
          refine WP.aload_n 1 dX6_compared_53 rfl rfl ?_
          refine WP.iconst (v := 3) dX6_compared_54 rfl ?_
          refine WP.iload_n 0 dX6_compared_55 rfl rfl ?_
          refine WP.callV (y := mX6_step1) (As := [.int 3, .int r9]) (st := []) dX6_compared_56 wm_X6_91 mw_X6_step1 rfl (Nat.le_of_ble_eq_true rfl) (rmok d) h5 (by decide) rfl h (fun v29 Sm30 h32 => ?_)
          obtain ⟨m30, rfl, rfl, h⟩ := h32
          show WP G _ _ _ 0 0 59 [(1, .int r9), (0, .ref b)] [] (sh, ta, m30)
          refine WP.iconst (v := 1) dX6_compared_59 rfl ?_
          exact WP.zret dX6_compared_60 rfl (Nat.le_refl _) (Nat.le_refl _) rfl ⟨_, rfl, h⟩
        · have h := h.2 c28
          refine WP.iconst (v := 0) dX6_compared_51 rfl ?_
          exact WP.zret dX6_compared_52 rfl (Nat.le_refl _) (Nat.le_refl _) rfl ⟨_, rfl, h⟩
      · have h := h.2 c22
        refine WP.iload_n 0 dX6_compared_26 rfl rfl ?_
        refine WP.bipush (v := 62) dX6_compared_27 rfl ?_
        refine WP.icmp_eq (tgt := 34) dX6_compared_29 (by decide) (fun c33 => ?_) (fun c33 => ?_)
        · have h := h.1 c33
          refine WP.aload_n 1 dX6_compared_34 rfl rfl ?_
          refine WP.dup dX6_compared_35 rfl ?_
          refine WP.getI 6 5 wf_X6_73 (by decide) (by decide) rfl h5 dX6_compared_36 ?_
          refine WP.iconst (v := 1) dX6_compared_39 rfl ?_
          refine WP.iadd dX6_compared_40 ?_
          have h := h _ rfl
          refine WP.putI 6 5 wf_X6_73 (by decide) (by decide) rfl h5 rfl rfl rfl dX6_compared_41 ?_
          generalize up2 m8 b 5 ((m8 b 5) + 1) = m34 at h ⊢
          refine WP.aload_n 1 dX6_compared_44 rfl rfl ?_
          refine WP.callV (y := mX6_sum) (As := []) (st := []) dX6_compared_45 wm_X6_98 mw_X6_sum rfl (Nat.le_of_ble_eq_true rfl) (rmok d) h5 (by decide) rfl h (fun v35 Sm36 h38 => ?_)
          obtain ⟨m36, rfl, r37, rfl, h⟩ := h38
          show WP G _ _ _ 0 0 48 [(1, .int r9), (0, .ref b)] [.int r37] (sh, ta, m36)
          refine WP.if_ne (tgt := 53) dX6_compared_48 (by decide) (fun c39 => ?_) (fun c39 => ?_)
          · have h := h.1 c39
            refine WP.aload_n 1 dX6_compared_53 rfl rfl ?_
            refine WP.iconst (v := 3) dX6_compared_54 rfl ?_
            refine WP.iload_n 0 dX6_compared_55 rfl rfl ?_
            refine WP.callV (y := mX6_step1) (As := [.int 3, .int r9]) (st := []) dX6_compared_56 wm_X6_91 mw_X6_step1 rfl (Nat.le_of_ble_eq_true rfl) (rmok d) h5 (by decide) rfl h (fun v40 Sm41 h43 => ?_)
            obtain ⟨m41, rfl, rfl, h⟩ := h43
            show WP G _ _ _ 0 0 59 [(1, .int r9), (0, .ref b)] [] (sh, ta, m41)
            refine WP.iconst (v := 1) dX6_compared_59 rfl ?_
            exact WP.zret dX6_compared_60 rfl (Nat.le_refl _) (Nat.le_refl _) rfl ⟨_, rfl, h⟩
          · have h := h.2 c39
            refine WP.iconst (v := 0) dX6_compared_51 rfl ?_
            exact WP.zret dX6_compared_52 rfl (Nat.le_refl _) (Nat.le_refl _) rfl ⟨_, rfl, h⟩
        · have h := h.2 c33
          refine WP.iconst (v := 1) dX6_compared_32 rfl ?_
          exact WP.zret dX6_compared_33 rfl (Nat.le_refl _) (Nat.le_refl _) rfl ⟨_, rfl, h⟩
  · have h := h.2 c6
    refine WP.iconst (v := 0) dX6_compared_7 rfl ?_
    exact WP.zret dX6_compared_8 rfl (Nat.le_refl _) (Nat.le_refl _) rfl ⟨_, rfl, h⟩
set_option maxHeartbeats 4000000 in
set_option maxRecDepth 20000 in
theorem rg_X6_sum_0 (hG : fl G = false) (b : Nat) (h : sh[b]? = some (.inl 6) ∧ Cal G mX6_product d [.ref b] sh ta m (fun v1 m2 => ∃ r3, v1 = some (.int r3) ∧ ((¬ r3 = 0 → WP G (rmD (d + 1) 0 0) mX6_sum (QC G sh ta K) 0 0 9 [(0, .ref b)] [] (sh, ta, m2)) ∧ (r3 = 0 → K (some (.int 0)) m2)))) : WP G (rmD (d + 1) 0 0) mX6_sum (QC G sh ta K) 0 0 0 [(0, .ref b)] [] (sh, ta, m) := by
  refine WP.aload_n 0 dX6_sum_0 rfl rfl ?_
  obtain ⟨h5, h⟩ := h
  refine WP.callV (y := mX6_product) (As := []) (st := []) dX6_sum_1 wm_X6_101 mw_X6_product rfl (Nat.le_of_ble_eq_true rfl) (rmok d) h5 (by decide) rfl h (fun v1 Sm2 h4 => ?_)
  obtain ⟨m2, rfl, r3, rfl, h⟩ := h4
  show WP G _ _ _ 0 0 4 [(0, .ref b)] [.int r3] (sh, ta, m2)
  refine WP.if_ne (tgt := 9) dX6_sum_4 (by decide) (fun c6 => ?_) (fun c6 => ?_)
  · have h := h.1 c6
    exact h
  · have h := h.2 c6
    refine WP.iconst (v := 0) dX6_sum_7 rfl ?_
    exact WP.zret dX6_sum_8 rfl (Nat.le_refl _) (Nat.le_refl _) rfl ⟨_, rfl, h⟩
set_option maxHeartbeats 4000000 in
set_option maxRecDepth 20000 in
theorem rg_X6_sum_9 (hG : fl G = false) (b : Nat) (h : sh[b]? = some (.inl 6) ∧ Cal G mX6_look d [.ref b] sh ta m (fun v1 m2 => ∃ r3, v1 = some (.int r3) ∧ ((r3 = (43 : Int32) → Cal G mX6_look d [.ref b] sh ta m2 (fun v7 m8 => ∃ r9, v7 = some (.int r9) ∧ ∀ m11, m11 = up2 m8 b 5 ((m8 b 5) + 1) → Cal G mX6_product d [.ref b] sh ta m11 (fun v12 m13 => ∃ r14, v12 = some (.int r14) ∧ ((¬ r14 = 0 → Cal G mX6_step1 d [.ref b, .int 3, .int r9] sh ta m13 (fun v17 m18 => v17 = none ∧ WP G (rmD (d + 1) 0 0) mX6_sum (QC G sh ta K) 0 0 9 [(0, .ref b)] [] (sh, ta, m18))) ∧ (r14 = 0 → K (some (.int 0)) m13))))) ∧ (¬ r3 = (43 : Int32) → Cal G mX6_look d [.ref b] sh ta m2 (fun v21 m22 => ∃ r23, v21 = some (.int r23) ∧ ((¬ r23 = (45 : Int32) → K (some (.int 1)) m22) ∧ (r23 = (45 : Int32) → Cal G mX6_look d [.ref b] sh ta m22 (fun v26 m27 => ∃ r28, v26 = some (.int r28) ∧ ∀ m30, m30 = up2 m27 b 5 ((m27 b 5) + 1) → Cal G mX6_product d [.ref b] sh ta m30 (fun v31 m32 => ∃ r33, v31 = some (.int r33) ∧ ((¬ r33 = 0 → Cal G mX6_step1 d [.ref b, .int 3, .int r28] sh ta m32 (fun v36 m37 => v36 = none ∧ WP G (rmD (d + 1) 0 0) mX6_sum (QC G sh ta K) 0 0 9 [(0, .ref b)] [] (sh, ta, m37))) ∧ (r33 = 0 → K (some (.int 0)) m32))))))))))) : WP G (rmD (d + 1) 0 0) mX6_sum (QC G sh ta K) 0 0 9 [(0, .ref b)] [] (sh, ta, m) := by
  refine WP.aload_n 0 dX6_sum_9 rfl rfl ?_
  obtain ⟨h5, h⟩ := h
  refine WP.callV (y := mX6_look) (As := []) (st := []) dX6_sum_10 wm_X6_87 mw_X6_look rfl (Nat.le_of_ble_eq_true rfl) (rmok d) h5 (by decide) rfl h (fun v1 Sm2 h4 => ?_)
  obtain ⟨m2, rfl, r3, rfl, h⟩ := h4
  show WP G _ _ _ 0 0 13 [(0, .ref b)] [.int r3] (sh, ta, m2)
  refine WP.bipush (v := 43) dX6_sum_13 rfl ?_
  refine WP.icmp_eq (tgt := 27) dX6_sum_15 (by decide) (fun c6 => ?_) (fun c6 => ?_)
  · have h := h.1 c6
    refine WP.aload_n 0 dX6_sum_27 rfl rfl ?_
    refine WP.callV (y := mX6_look) (As := []) (st := []) dX6_sum_28 wm_X6_87 mw_X6_look rfl (Nat.le_of_ble_eq_true rfl) (rmok d) h5 (by decide) rfl h (fun v7 Sm8 h10 => ?_)
    obtain ⟨m8, rfl, r9, rfl, h⟩ := h10
    show WP G _ _ _ 0 0 31 [(0, .ref b)] [.int r9] (sh, ta, m8)
    refine WP.istore_n (lv2 := [(1, .int r9), (0, .ref b)]) dX6_sum_31 rfl (by decide) rfl ?_
    refine WP.aload_n 1 dX6_sum_32 rfl rfl ?_
    refine WP.dup dX6_sum_33 rfl ?_
    refine WP.getI 6 5 wf_X6_73 (by decide) (by decide) rfl h5 dX6_sum_34 ?_
    refine WP.iconst (v := 1) dX6_sum_37 rfl ?_
    refine WP.iadd dX6_sum_38 ?_
    have h := h _ rfl
    refine WP.putI 6 5 wf_X6_73 (by decide) (by decide) rfl h5 rfl rfl rfl dX6_sum_39 ?_
    generalize up2 m8 b 5 ((m8 b 5) + 1) = m11 at h ⊢
    refine WP.aload_n 1 dX6_sum_42 rfl rfl ?_
    refine WP.callV (y := mX6_product) (As := []) (st := []) dX6_sum_43 wm_X6_101 mw_X6_product rfl (Nat.le_of_ble_eq_true rfl) (rmok d) h5 (by decide) rfl h (fun v12 Sm13 h15 => ?_)
    obtain ⟨m13, rfl, r14, rfl, h⟩ := h15
    show WP G _ _ _ 0 0 46 [(1, .int r9), (0, .ref b)] [.int r14] (sh, ta, m13)
    refine WP.if_ne (tgt := 51) dX6_sum_46 (by decide) (fun c16 => ?_) (fun c16 => ?_)
    · have h := h.1 c16
      refine WP.aload_n 1 dX6_sum_51 rfl rfl ?_
      refine WP.iconst (v := 3) dX6_sum_52 rfl ?_
      refine WP.iload_n 0 dX6_sum_53 rfl rfl ?_
      refine WP.callV (y := mX6_step1) (As := [.int 3, .int r9]) (st := []) dX6_sum_54 wm_X6_91 mw_X6_step1 rfl (Nat.le_of_ble_eq_true rfl) (rmok d) h5 (by decide) rfl h (fun v17 Sm18 h20 => ?_)
      obtain ⟨m18, rfl, rfl, h⟩ := h20
      show WP G _ _ _ 0 0 57 [(1, .int r9), (0, .ref b)] [] (sh, ta, m18)
      refine WP.goto (tgt := 9) dX6_sum_57 (by decide) ?_
      exact WP.pick [1] rfl h
    · have h := h.2 c16
      refine WP.iconst (v := 0) dX6_sum_49 rfl ?_
      exact WP.zret dX6_sum_50 rfl (Nat.le_refl _) (Nat.le_refl _) rfl ⟨_, rfl, h⟩
  · have h := h.2 c6
    refine WP.aload_n 0 dX6_sum_18 rfl rfl ?_
    refine WP.callV (y := mX6_look) (As := []) (st := []) dX6_sum_19 wm_X6_87 mw_X6_look rfl (Nat.le_of_ble_eq_true rfl) (rmok d) h5 (by decide) rfl h (fun v21 Sm22 h24 => ?_)
    obtain ⟨m22, rfl, r23, rfl, h⟩ := h24
    show WP G _ _ _ 0 0 22 [(0, .ref b)] [.int r23] (sh, ta, m22)
    refine WP.bipush (v := 45) dX6_sum_22 rfl ?_
    refine WP.icmp_ne (tgt := 60) dX6_sum_24 (by decide) (fun c25 => ?_) (fun c25 => ?_)
    · have h := h.1 c25
      refine WP.iconst (v := 1) dX6_sum_60 rfl ?_
      exact WP.zret dX6_sum_61 rfl (Nat.le_refl _) (Nat.le_refl _) rfl ⟨_, rfl, h⟩
    · have h := h.2 c25
      refine WP.aload_n 0 dX6_sum_27 rfl rfl ?_
      refine WP.callV (y := mX6_look) (As := []) (st := []) dX6_sum_28 wm_X6_87 mw_X6_look rfl (Nat.le_of_ble_eq_true rfl) (rmok d) h5 (by decide) rfl h (fun v26 Sm27 h29 => ?_)
      obtain ⟨m27, rfl, r28, rfl, h⟩ := h29
      show WP G _ _ _ 0 0 31 [(0, .ref b)] [.int r28] (sh, ta, m27)
      refine WP.istore_n (lv2 := [(1, .int r28), (0, .ref b)]) dX6_sum_31 rfl (by decide) rfl ?_
      refine WP.aload_n 1 dX6_sum_32 rfl rfl ?_
      refine WP.dup dX6_sum_33 rfl ?_
      refine WP.getI 6 5 wf_X6_73 (by decide) (by decide) rfl h5 dX6_sum_34 ?_
      refine WP.iconst (v := 1) dX6_sum_37 rfl ?_
      refine WP.iadd dX6_sum_38 ?_
      have h := h _ rfl
      refine WP.putI 6 5 wf_X6_73 (by decide) (by decide) rfl h5 rfl rfl rfl dX6_sum_39 ?_
      generalize up2 m27 b 5 ((m27 b 5) + 1) = m30 at h ⊢
      refine WP.aload_n 1 dX6_sum_42 rfl rfl ?_
      refine WP.callV (y := mX6_product) (As := []) (st := []) dX6_sum_43 wm_X6_101 mw_X6_product rfl (Nat.le_of_ble_eq_true rfl) (rmok d) h5 (by decide) rfl h (fun v31 Sm32 h34 => ?_)
      obtain ⟨m32, rfl, r33, rfl, h⟩ := h34
      show WP G _ _ _ 0 0 46 [(1, .int r28), (0, .ref b)] [.int r33] (sh, ta, m32)
      refine WP.if_ne (tgt := 51) dX6_sum_46 (by decide) (fun c35 => ?_) (fun c35 => ?_)
      · have h := h.1 c35
        refine WP.aload_n 1 dX6_sum_51 rfl rfl ?_
        refine WP.iconst (v := 3) dX6_sum_52 rfl ?_
        refine WP.iload_n 0 dX6_sum_53 rfl rfl ?_
        refine WP.callV (y := mX6_step1) (As := [.int 3, .int r28]) (st := []) dX6_sum_54 wm_X6_91 mw_X6_step1 rfl (Nat.le_of_ble_eq_true rfl) (rmok d) h5 (by decide) rfl h (fun v36 Sm37 h39 => ?_)
        obtain ⟨m37, rfl, rfl, h⟩ := h39
        show WP G _ _ _ 0 0 57 [(1, .int r28), (0, .ref b)] [] (sh, ta, m37)
        refine WP.goto (tgt := 9) dX6_sum_57 (by decide) ?_
        exact WP.pick [1] rfl h
      · have h := h.2 c35
        refine WP.iconst (v := 0) dX6_sum_49 rfl ?_
        exact WP.zret dX6_sum_50 rfl (Nat.le_refl _) (Nat.le_refl _) rfl ⟨_, rfl, h⟩
set_option maxHeartbeats 4000000 in
set_option maxRecDepth 20000 in
theorem rg_X6_product_0 (hG : fl G = false) (b : Nat) (h : sh[b]? = some (.inl 6) ∧ Cal G mX6_one d [.ref b] sh ta m (fun v1 m2 => ∃ r3, v1 = some (.int r3) ∧ ((¬ r3 = 0 → WP G (rmD (d + 1) 0 0) mX6_product (QC G sh ta K) 0 0 9 [(0, .ref b)] [] (sh, ta, m2)) ∧ (r3 = 0 → K (some (.int 0)) m2)))) : WP G (rmD (d + 1) 0 0) mX6_product (QC G sh ta K) 0 0 0 [(0, .ref b)] [] (sh, ta, m) := by
  refine WP.aload_n 0 dX6_product_0 rfl rfl ?_
  obtain ⟨h5, h⟩ := h
  refine WP.callV (y := mX6_one) (As := []) (st := []) dX6_product_1 wm_X6_104 mw_X6_one rfl (Nat.le_of_ble_eq_true rfl) (rmok d) h5 (by decide) rfl h (fun v1 Sm2 h4 => ?_)
  obtain ⟨m2, rfl, r3, rfl, h⟩ := h4
  show WP G _ _ _ 0 0 4 [(0, .ref b)] [.int r3] (sh, ta, m2)
  refine WP.if_ne (tgt := 9) dX6_product_4 (by decide) (fun c6 => ?_) (fun c6 => ?_)
  · have h := h.1 c6
    exact h
  · have h := h.2 c6
    refine WP.iconst (v := 0) dX6_product_7 rfl ?_
    exact WP.zret dX6_product_8 rfl (Nat.le_refl _) (Nat.le_refl _) rfl ⟨_, rfl, h⟩
set_option maxHeartbeats 4000000 in
set_option maxRecDepth 20000 in
theorem rg_X6_product_9 (hG : fl G = false) (b : Nat) (h : sh[b]? = some (.inl 6) ∧ Cal G mX6_look d [.ref b] sh ta m (fun v1 m2 => ∃ r3, v1 = some (.int r3) ∧ ((r3 = (42 : Int32) → Cal G mX6_look d [.ref b] sh ta m2 (fun v7 m8 => ∃ r9, v7 = some (.int r9) ∧ ∀ m11, m11 = up2 m8 b 5 ((m8 b 5) + 1) → Cal G mX6_one d [.ref b] sh ta m11 (fun v12 m13 => ∃ r14, v12 = some (.int r14) ∧ ((¬ r14 = 0 → Cal G mX6_step1 d [.ref b, .int 3, .int r9] sh ta m13 (fun v17 m18 => v17 = none ∧ WP G (rmD (d + 1) 0 0) mX6_product (QC G sh ta K) 0 0 9 [(0, .ref b)] [] (sh, ta, m18))) ∧ (r14 = 0 → K (some (.int 0)) m13))))) ∧ (¬ r3 = (42 : Int32) → Cal G mX6_look d [.ref b] sh ta m2 (fun v21 m22 => ∃ r23, v21 = some (.int r23) ∧ ((r23 = (47 : Int32) → Cal G mX6_look d [.ref b] sh ta m22 (fun v26 m27 => ∃ r28, v26 = some (.int r28) ∧ ∀ m30, m30 = up2 m27 b 5 ((m27 b 5) + 1) → Cal G mX6_one d [.ref b] sh ta m30 (fun v31 m32 => ∃ r33, v31 = some (.int r33) ∧ ((¬ r33 = 0 → Cal G mX6_step1 d [.ref b, .int 3, .int r28] sh ta m32 (fun v36 m37 => v36 = none ∧ WP G (rmD (d + 1) 0 0) mX6_product (QC G sh ta K) 0 0 9 [(0, .ref b)] [] (sh, ta, m37))) ∧ (r33 = 0 → K (some (.int 0)) m32))))) ∧ (¬ r23 = (47 : Int32) → Cal G mX6_look d [.ref b] sh ta m22 (fun v40 m41 => ∃ r42, v40 = some (.int r42) ∧ ((¬ r42 = (37 : Int32) → K (some (.int 1)) m41) ∧ (r42 = (37 : Int32) → Cal G mX6_look d [.ref b] sh ta m41 (fun v45 m46 => ∃ r47, v45 = some (.int r47) ∧ ∀ m49, m49 = up2 m46 b 5 ((m46 b 5) + 1) → Cal G mX6_one d [.ref b] sh ta m49 (fun v50 m51 => ∃ r52, v50 = some (.int r52) ∧ ((¬ r52 = 0 → Cal G mX6_step1 d [.ref b, .int 3, .int r47] sh ta m51 (fun v55 m56 => v55 = none ∧ WP G (rmD (d + 1) 0 0) mX6_product (QC G sh ta K) 0 0 9 [(0, .ref b)] [] (sh, ta, m56))) ∧ (r52 = 0 → K (some (.int 0)) m51)))))))))))))) : WP G (rmD (d + 1) 0 0) mX6_product (QC G sh ta K) 0 0 9 [(0, .ref b)] [] (sh, ta, m) := by
  refine WP.aload_n 0 dX6_product_9 rfl rfl ?_
  obtain ⟨h5, h⟩ := h
  refine WP.callV (y := mX6_look) (As := []) (st := []) dX6_product_10 wm_X6_87 mw_X6_look rfl (Nat.le_of_ble_eq_true rfl) (rmok d) h5 (by decide) rfl h (fun v1 Sm2 h4 => ?_)
  obtain ⟨m2, rfl, r3, rfl, h⟩ := h4
  show WP G _ _ _ 0 0 13 [(0, .ref b)] [.int r3] (sh, ta, m2)
  refine WP.bipush (v := 42) dX6_product_13 rfl ?_
  refine WP.icmp_eq (tgt := 36) dX6_product_15 (by decide) (fun c6 => ?_) (fun c6 => ?_)
  · have h := h.1 c6
    refine WP.aload_n 0 dX6_product_36 rfl rfl ?_
    refine WP.callV (y := mX6_look) (As := []) (st := []) dX6_product_37 wm_X6_87 mw_X6_look rfl (Nat.le_of_ble_eq_true rfl) (rmok d) h5 (by decide) rfl h (fun v7 Sm8 h10 => ?_)
    obtain ⟨m8, rfl, r9, rfl, h⟩ := h10
    show WP G _ _ _ 0 0 40 [(0, .ref b)] [.int r9] (sh, ta, m8)
    refine WP.istore_n (lv2 := [(1, .int r9), (0, .ref b)]) dX6_product_40 rfl (by decide) rfl ?_
    refine WP.aload_n 1 dX6_product_41 rfl rfl ?_
    refine WP.dup dX6_product_42 rfl ?_
    refine WP.getI 6 5 wf_X6_73 (by decide) (by decide) rfl h5 dX6_product_43 ?_
    refine WP.iconst (v := 1) dX6_product_46 rfl ?_
    refine WP.iadd dX6_product_47 ?_
    have h := h _ rfl
    refine WP.putI 6 5 wf_X6_73 (by decide) (by decide) rfl h5 rfl rfl rfl dX6_product_48 ?_
    generalize up2 m8 b 5 ((m8 b 5) + 1) = m11 at h ⊢
    refine WP.aload_n 1 dX6_product_51 rfl rfl ?_
    refine WP.callV (y := mX6_one) (As := []) (st := []) dX6_product_52 wm_X6_104 mw_X6_one rfl (Nat.le_of_ble_eq_true rfl) (rmok d) h5 (by decide) rfl h (fun v12 Sm13 h15 => ?_)
    obtain ⟨m13, rfl, r14, rfl, h⟩ := h15
    show WP G _ _ _ 0 0 55 [(1, .int r9), (0, .ref b)] [.int r14] (sh, ta, m13)
    refine WP.if_ne (tgt := 60) dX6_product_55 (by decide) (fun c16 => ?_) (fun c16 => ?_)
    · have h := h.1 c16
      refine WP.aload_n 1 dX6_product_60 rfl rfl ?_
      refine WP.iconst (v := 3) dX6_product_61 rfl ?_
      refine WP.iload_n 0 dX6_product_62 rfl rfl ?_
      refine WP.callV (y := mX6_step1) (As := [.int 3, .int r9]) (st := []) dX6_product_63 wm_X6_91 mw_X6_step1 rfl (Nat.le_of_ble_eq_true rfl) (rmok d) h5 (by decide) rfl h (fun v17 Sm18 h20 => ?_)
      obtain ⟨m18, rfl, rfl, h⟩ := h20
      show WP G _ _ _ 0 0 66 [(1, .int r9), (0, .ref b)] [] (sh, ta, m18)
      refine WP.goto (tgt := 9) dX6_product_66 (by decide) ?_
      exact WP.pick [1] rfl h
    · have h := h.2 c16
      refine WP.iconst (v := 0) dX6_product_58 rfl ?_
      exact WP.zret dX6_product_59 rfl (Nat.le_refl _) (Nat.le_refl _) rfl ⟨_, rfl, h⟩
  · have h := h.2 c6
    refine WP.aload_n 0 dX6_product_18 rfl rfl ?_
    refine WP.callV (y := mX6_look) (As := []) (st := []) dX6_product_19 wm_X6_87 mw_X6_look rfl (Nat.le_of_ble_eq_true rfl) (rmok d) h5 (by decide) rfl h (fun v21 Sm22 h24 => ?_)
    obtain ⟨m22, rfl, r23, rfl, h⟩ := h24
    show WP G _ _ _ 0 0 22 [(0, .ref b)] [.int r23] (sh, ta, m22)
    refine WP.bipush (v := 47) dX6_product_22 rfl ?_
    refine WP.icmp_eq (tgt := 36) dX6_product_24 (by decide) (fun c25 => ?_) (fun c25 => ?_)
    · have h := h.1 c25
      refine WP.aload_n 0 dX6_product_36 rfl rfl ?_
      refine WP.callV (y := mX6_look) (As := []) (st := []) dX6_product_37 wm_X6_87 mw_X6_look rfl (Nat.le_of_ble_eq_true rfl) (rmok d) h5 (by decide) rfl h (fun v26 Sm27 h29 => ?_)
      obtain ⟨m27, rfl, r28, rfl, h⟩ := h29
      show WP G _ _ _ 0 0 40 [(0, .ref b)] [.int r28] (sh, ta, m27)
      refine WP.istore_n (lv2 := [(1, .int r28), (0, .ref b)]) dX6_product_40 rfl (by decide) rfl ?_
      refine WP.aload_n 1 dX6_product_41 rfl rfl ?_
      refine WP.dup dX6_product_42 rfl ?_
      refine WP.getI 6 5 wf_X6_73 (by decide) (by decide) rfl h5 dX6_product_43 ?_
      refine WP.iconst (v := 1) dX6_product_46 rfl ?_
      refine WP.iadd dX6_product_47 ?_
      have h := h _ rfl
      refine WP.putI 6 5 wf_X6_73 (by decide) (by decide) rfl h5 rfl rfl rfl dX6_product_48 ?_
      generalize up2 m27 b 5 ((m27 b 5) + 1) = m30 at h ⊢
      refine WP.aload_n 1 dX6_product_51 rfl rfl ?_
      refine WP.callV (y := mX6_one) (As := []) (st := []) dX6_product_52 wm_X6_104 mw_X6_one rfl (Nat.le_of_ble_eq_true rfl) (rmok d) h5 (by decide) rfl h (fun v31 Sm32 h34 => ?_)
      obtain ⟨m32, rfl, r33, rfl, h⟩ := h34
      show WP G _ _ _ 0 0 55 [(1, .int r28), (0, .ref b)] [.int r33] (sh, ta, m32)
      refine WP.if_ne (tgt := 60) dX6_product_55 (by decide) (fun c35 => ?_) (fun c35 => ?_)
      · have h := h.1 c35
        refine WP.aload_n 1 dX6_product_60 rfl rfl ?_
        refine WP.iconst (v := 3) dX6_product_61 rfl ?_
        refine WP.iload_n 0 dX6_product_62 rfl rfl ?_
        refine WP.callV (y := mX6_step1) (As := [.int 3, .int r28]) (st := []) dX6_product_63 wm_X6_91 mw_X6_step1 rfl (Nat.le_of_ble_eq_true rfl) (rmok d) h5 (by decide) rfl h (fun v36 Sm37 h39 => ?_)
        obtain ⟨m37, rfl, rfl, h⟩ := h39
        show WP G _ _ _ 0 0 66 [(1, .int r28), (0, .ref b)] [] (sh, ta, m37)
        refine WP.goto (tgt := 9) dX6_product_66 (by decide) ?_
        exact WP.pick [1] rfl h
      · have h := h.2 c35
        refine WP.iconst (v := 0) dX6_product_58 rfl ?_
        exact WP.zret dX6_product_59 rfl (Nat.le_refl _) (Nat.le_refl _) rfl ⟨_, rfl, h⟩
    · have h := h.2 c25
      refine WP.aload_n 0 dX6_product_27 rfl rfl ?_
      refine WP.callV (y := mX6_look) (As := []) (st := []) dX6_product_28 wm_X6_87 mw_X6_look rfl (Nat.le_of_ble_eq_true rfl) (rmok d) h5 (by decide) rfl h (fun v40 Sm41 h43 => ?_)
      obtain ⟨m41, rfl, r42, rfl, h⟩ := h43
      show WP G _ _ _ 0 0 31 [(0, .ref b)] [.int r42] (sh, ta, m41)
      refine WP.bipush (v := 37) dX6_product_31 rfl ?_
      refine WP.icmp_ne (tgt := 69) dX6_product_33 (by decide) (fun c44 => ?_) (fun c44 => ?_)
      · have h := h.1 c44
        refine WP.iconst (v := 1) dX6_product_69 rfl ?_
        exact WP.zret dX6_product_70 rfl (Nat.le_refl _) (Nat.le_refl _) rfl ⟨_, rfl, h⟩
      · have h := h.2 c44
        refine WP.aload_n 0 dX6_product_36 rfl rfl ?_
        refine WP.callV (y := mX6_look) (As := []) (st := []) dX6_product_37 wm_X6_87 mw_X6_look rfl (Nat.le_of_ble_eq_true rfl) (rmok d) h5 (by decide) rfl h (fun v45 Sm46 h48 => ?_)
        obtain ⟨m46, rfl, r47, rfl, h⟩ := h48
        show WP G _ _ _ 0 0 40 [(0, .ref b)] [.int r47] (sh, ta, m46)
        refine WP.istore_n (lv2 := [(1, .int r47), (0, .ref b)]) dX6_product_40 rfl (by decide) rfl ?_
        refine WP.aload_n 1 dX6_product_41 rfl rfl ?_
        refine WP.dup dX6_product_42 rfl ?_
        refine WP.getI 6 5 wf_X6_73 (by decide) (by decide) rfl h5 dX6_product_43 ?_
        refine WP.iconst (v := 1) dX6_product_46 rfl ?_
        refine WP.iadd dX6_product_47 ?_
        have h := h _ rfl
        refine WP.putI 6 5 wf_X6_73 (by decide) (by decide) rfl h5 rfl rfl rfl dX6_product_48 ?_
        generalize up2 m46 b 5 ((m46 b 5) + 1) = m49 at h ⊢
        refine WP.aload_n 1 dX6_product_51 rfl rfl ?_
        refine WP.callV (y := mX6_one) (As := []) (st := []) dX6_product_52 wm_X6_104 mw_X6_one rfl (Nat.le_of_ble_eq_true rfl) (rmok d) h5 (by decide) rfl h (fun v50 Sm51 h53 => ?_)
        obtain ⟨m51, rfl, r52, rfl, h⟩ := h53
        show WP G _ _ _ 0 0 55 [(1, .int r47), (0, .ref b)] [.int r52] (sh, ta, m51)
        refine WP.if_ne (tgt := 60) dX6_product_55 (by decide) (fun c54 => ?_) (fun c54 => ?_)
        · have h := h.1 c54
          refine WP.aload_n 1 dX6_product_60 rfl rfl ?_
          refine WP.iconst (v := 3) dX6_product_61 rfl ?_
          refine WP.iload_n 0 dX6_product_62 rfl rfl ?_
          refine WP.callV (y := mX6_step1) (As := [.int 3, .int r47]) (st := []) dX6_product_63 wm_X6_91 mw_X6_step1 rfl (Nat.le_of_ble_eq_true rfl) (rmok d) h5 (by decide) rfl h (fun v55 Sm56 h58 => ?_)
          obtain ⟨m56, rfl, rfl, h⟩ := h58
          show WP G _ _ _ 0 0 66 [(1, .int r47), (0, .ref b)] [] (sh, ta, m56)
          refine WP.goto (tgt := 9) dX6_product_66 (by decide) ?_
          exact WP.pick [1] rfl h
        · have h := h.2 c54
          refine WP.iconst (v := 0) dX6_product_58 rfl ?_
          exact WP.zret dX6_product_59 rfl (Nat.le_refl _) (Nat.le_refl _) rfl ⟨_, rfl, h⟩
set_option maxHeartbeats 4000000 in
set_option maxRecDepth 20000 in
theorem rg_X6_opens_0 (hG : fl G = false) (b : Nat) (h : sh[b]? = some (.inl 6) ∧ ((¬ (m b 6) = (5 : Int32) → ∀ m3, m3 = up2 m b 6 ((m b 6) + 1) → ∀ m4, m4 = up2 m3 b 5 ((m3 b 5) + 1) → K (some (.int 1)) m4) ∧ ((m b 6) = (5 : Int32) → K (some (.int 0)) m))) : WP G (rmD (d + 1) 0 0) mX6_opens (QC G sh ta K) 0 0 0 [(0, .ref b)] [] (sh, ta, m) := by
  refine WP.aload_n 0 dX6_opens_0 rfl rfl ?_
  obtain ⟨h1, h⟩ := h
  refine WP.getI 6 6 wf_X6_107 (by decide) (by decide) rfl h1 dX6_opens_1 ?_
  refine WP.iconst (v := 5) dX6_opens_4 rfl ?_
  refine WP.icmp_ne (tgt := 10) dX6_opens_5 (by decide) (fun c2 => ?_) (fun c2 => ?_)
  · have h := h.1 c2
    refine WP.aload_n 0 dX6_opens_10 rfl rfl ?_
    refine WP.dup dX6_opens_11 rfl ?_
    refine WP.getI 6 6 wf_X6_107 (by decide) (by decide) rfl h1 dX6_opens_12 ?_
    refine WP.iconst (v := 1) dX6_opens_15 rfl ?_
    refine WP.iadd dX6_opens_16 ?_
    have h := h _ rfl
    refine WP.putI 6 6 wf_X6_107 (by decide) (by decide) rfl h1 rfl rfl rfl dX6_opens_17 ?_
    generalize up2 m b 6 ((m b 6) + 1) = m3 at h ⊢
    refine WP.aload_n 0 dX6_opens_20 rfl rfl ?_
    refine WP.dup dX6_opens_21 rfl ?_
    refine WP.getI 6 5 wf_X6_73 (by decide) (by decide) rfl h1 dX6_opens_22 ?_
    refine WP.iconst (v := 1) dX6_opens_25 rfl ?_
    refine WP.iadd dX6_opens_26 ?_
    have h := h _ rfl
    refine WP.putI 6 5 wf_X6_73 (by decide) (by decide) rfl h1 rfl rfl rfl dX6_opens_27 ?_
    generalize up2 m3 b 5 ((m3 b 5) + 1) = m4 at h ⊢
    refine WP.iconst (v := 1) dX6_opens_30 rfl ?_
    exact WP.zret dX6_opens_31 rfl (Nat.le_refl _) (Nat.le_refl _) rfl ⟨_, rfl, h⟩
  · have h := h.2 c2
    refine WP.iconst (v := 0) dX6_opens_8 rfl ?_
    exact WP.zret dX6_opens_9 rfl (Nat.le_refl _) (Nat.le_refl _) rfl ⟨_, rfl, h⟩
set_option maxHeartbeats 4000000 in
set_option maxRecDepth 20000 in
theorem rg_X6_one_0 (hG : fl G = false) (b : Nat) (h : sh[b]? = some (.inl 6) ∧ Cal G mX6_look d [.ref b] sh ta m (fun v1 m2 => ∃ r3, v1 = some (.int r3) ∧ Cal G mX6_isName d [.ref b, .int r3] sh ta m2 (fun v6 m7 => ∃ r8, v6 = some (.int r8) ∧ ((r8 = 0 → Cal G mX6_in d [.int r3, .int 48, .int 57] sh ta m7 (fun v11 m12 => ∃ r13, v11 = some (.int r13) ∧ ((r13 = 0 → ((¬ r3 = (33 : Int32) → ((¬ r3 = (40 : Int32) → K (some (.int 0)) m12) ∧ (r3 = (40 : Int32) → Cal G mX6_opens d [.ref b] sh ta m12 (fun v18 m19 => ∃ r20, v18 = some (.int r20) ∧ ((r20 = 0 → K (some (.int 0)) m19) ∧ (¬ r20 = 0 → Cal G mX6_whole d [.ref b] sh ta m19 (fun v23 m24 => ∃ r25, v23 = some (.int r25) ∧ ((r25 = 0 → K (some (.int 0)) m24) ∧ (¬ r25 = 0 → Cal G mX6_look d [.ref b] sh ta m24 (fun v28 m29 => ∃ r30, v28 = some (.int r30) ∧ ((r30 = (41 : Int32) → ∀ m33, m33 = up2 m29 b 5 ((m29 b 5) + 1) → ∀ m34, m34 = up2 m33 b 6 ((m33 b 6) - 1) → K (some (.int 1)) m34) ∧ (¬ r30 = (41 : Int32) → K (some (.int 0)) m29)))))))))))) ∧ (r3 = (33 : Int32) → Cal G mX6_opens d [.ref b] sh ta m12 (fun v35 m36 => ∃ r37, v35 = some (.int r37) ∧ ((r37 = 0 → K (some (.int 0)) m36) ∧ (¬ r37 = 0 → Cal G mX6_one d [.ref b] sh ta m36 (fun v40 m41 => ∃ r42, v40 = some (.int r42) ∧ ((¬ r42 = 0 → ∀ m45, m45 = up2 m41 b 6 ((m41 b 6) - 1) → Cal G mX6_step1 d [.ref b, .int 2, .int 0] sh ta m45 (fun v46 m47 => v46 = none ∧ K (some (.int 1)) m47)) ∧ (r42 = 0 → K (some (.int 0)) m41))))))))) ∧ (¬ r13 = 0 → WP G (rmD (d + 1) 0 0) mX6_one (QC G sh ta K) 0 0 46 [(0, .ref b), (2, .int 0), (3, .int 0)] [] (sh, ta, m12))))) ∧ (¬ r8 = 0 → ∀ m50, m50 = up2 m7 b 5 ((m7 b 5) + 1) → Cal G mX6_step1 d [.ref b, .int 1, .int r3] sh ta m50 (fun v51 m52 => v51 = none ∧ K (some (.int 1)) m52)))))) : WP G (rmD (d + 1) 0 0) mX6_one (QC G sh ta K) 0 0 0 [(0, .ref b)] [] (sh, ta, m) := by
  refine WP.aload_n 0 dX6_one_0 rfl rfl ?_
  obtain ⟨h5, h⟩ := h
  refine WP.callV (y := mX6_look) (As := []) (st := []) dX6_one_1 wm_X6_87 mw_X6_look rfl (Nat.le_of_ble_eq_true rfl) (rmok d) h5 (by decide) rfl h (fun v1 Sm2 h4 => ?_)
  obtain ⟨m2, rfl, r3, rfl, h⟩ := h4
  show WP G _ _ _ 0 0 4 [(0, .ref b)] [.int r3] (sh, ta, m2)
  refine WP.istore_n (lv2 := [(1, .int r3), (0, .ref b)]) dX6_one_4 rfl (by decide) rfl ?_
  refine WP.aload_n 1 dX6_one_5 rfl rfl ?_
  refine WP.iload_n 0 dX6_one_6 rfl rfl ?_
  refine WP.callV (y := mX6_isName) (As := [.int r3]) (st := []) dX6_one_7 wm_X6_110 mw_X6_isName rfl (Nat.le_of_ble_eq_true rfl) (rmok d) h5 (by decide) rfl h (fun v6 Sm7 h9 => ?_)
  obtain ⟨m7, rfl, r8, rfl, h⟩ := h9
  show WP G _ _ _ 0 0 10 [(1, .int r3), (0, .ref b)] [.int r8] (sh, ta, m7)
  refine WP.if_eq (tgt := 31) dX6_one_10 (by decide) (fun c10 => ?_) (fun c10 => ?_)
  · have h := h.1 c10
    refine WP.iload_n 0 dX6_one_31 rfl rfl ?_
    refine WP.bipush (v := 48) dX6_one_32 rfl ?_
    refine WP.bipush (v := 57) dX6_one_34 rfl ?_
    refine WP.callS (y := mX6_in) (As := [.int r3, .int 48, .int 57]) (st := []) dX6_one_36 wm_X6_50 mw_X6_in rfl (Nat.le_of_ble_eq_true rfl) (rmok d) rfl h (fun v11 Sm12 h14 => ?_)
    obtain ⟨m12, rfl, r13, rfl, h⟩ := h14
    show WP G _ _ _ 0 0 39 [(1, .int r3), (0, .ref b)] [.int r13] (sh, ta, m12)
    refine WP.if_eq (tgt := 102) dX6_one_39 (by decide) (fun c15 => ?_) (fun c15 => ?_)
    · have h := h.1 c15
      refine WP.iload_n 0 dX6_one_102 rfl rfl ?_
      refine WP.bipush (v := 33) dX6_one_103 rfl ?_
      refine WP.icmp_ne (tgt := 142) dX6_one_105 (by decide) (fun c16 => ?_) (fun c16 => ?_)
      · have h := h.1 c16
        refine WP.iload_n 0 dX6_one_142 rfl rfl ?_
        refine WP.bipush (v := 40) dX6_one_143 rfl ?_
        refine WP.icmp_ne (tgt := 171) dX6_one_145 (by decide) (fun c17 => ?_) (fun c17 => ?_)
        · have h := h.1 c17
          refine WP.iconst (v := 0) dX6_one_171 rfl ?_
          exact WP.zret dX6_one_172 rfl (Nat.le_refl _) (Nat.le_refl _) rfl ⟨_, rfl, h⟩
        · have h := h.2 c17
          refine WP.aload_n 1 dX6_one_148 rfl rfl ?_
          refine WP.callV (y := mX6_opens) (As := []) (st := []) dX6_one_149 wm_X6_114 mw_X6_opens rfl (Nat.le_of_ble_eq_true rfl) (rmok d) h5 (by decide) rfl h (fun v18 Sm19 h21 => ?_)
          obtain ⟨m19, rfl, r20, rfl, h⟩ := h21
          show WP G _ _ _ 0 0 152 [(1, .int r3), (0, .ref b)] [.int r20] (sh, ta, m19)
          refine WP.if_eq (tgt := 171) dX6_one_152 (by decide) (fun c22 => ?_) (fun c22 => ?_)
          · have h := h.1 c22
            refine WP.iconst (v := 0) dX6_one_171 rfl ?_
            exact WP.zret dX6_one_172 rfl (Nat.le_refl _) (Nat.le_refl _) rfl ⟨_, rfl, h⟩
          · have h := h.2 c22
            refine WP.aload_n 1 dX6_one_155 rfl rfl ?_
            refine WP.callV (y := mX6_whole) (As := []) (st := []) dX6_one_156 wm_X6_117 mw_X6_whole rfl (Nat.le_of_ble_eq_true rfl) (rmok d) h5 (by decide) rfl h (fun v23 Sm24 h26 => ?_)
            obtain ⟨m24, rfl, r25, rfl, h⟩ := h26
            show WP G _ _ _ 0 0 159 [(1, .int r3), (0, .ref b)] [.int r25] (sh, ta, m24)
            refine WP.if_eq (tgt := 171) dX6_one_159 (by decide) (fun c27 => ?_) (fun c27 => ?_)
            · have h := h.1 c27
              refine WP.iconst (v := 0) dX6_one_171 rfl ?_
              exact WP.zret dX6_one_172 rfl (Nat.le_refl _) (Nat.le_refl _) rfl ⟨_, rfl, h⟩
            · have h := h.2 c27
              refine WP.aload_n 1 dX6_one_162 rfl rfl ?_
              refine WP.callV (y := mX6_look) (As := []) (st := []) dX6_one_163 wm_X6_87 mw_X6_look rfl (Nat.le_of_ble_eq_true rfl) (rmok d) h5 (by decide) rfl h (fun v28 Sm29 h31 => ?_)
              obtain ⟨m29, rfl, r30, rfl, h⟩ := h31
              show WP G _ _ _ 0 0 166 [(1, .int r3), (0, .ref b)] [.int r30] (sh, ta, m29)
              refine WP.bipush (v := 41) dX6_one_166 rfl ?_
              refine WP.icmp_eq (tgt := 173) dX6_one_168 (by decide) (fun c32 => ?_) (fun c32 => ?_)
              · have h := h.1 c32
                refine WP.aload_n 1 dX6_one_173 rfl rfl ?_
                refine WP.dup dX6_one_174 rfl ?_
                refine WP.getI 6 5 wf_X6_73 (by decide) (by decide) rfl h5 dX6_one_175 ?_
                refine WP.iconst (v := 1) dX6_one_178 rfl ?_
                refine WP.iadd dX6_one_179 ?_
                have h := h _ rfl
                refine WP.putI 6 5 wf_X6_73 (by decide) (by decide) rfl h5 rfl rfl rfl dX6_one_180 ?_
                generalize up2 m29 b 5 ((m29 b 5) + 1) = m33 at h ⊢
                refine WP.aload_n 1 dX6_one_183 rfl rfl ?_
                refine WP.dup dX6_one_184 rfl ?_
                refine WP.getI 6 6 wf_X6_107 (by decide) (by decide) rfl h5 dX6_one_185 ?_
                refine WP.iconst (v := 1) dX6_one_188 rfl ?_
                refine WP.isub dX6_one_189 ?_
                have h := h _ rfl
                refine WP.putI 6 6 wf_X6_107 (by decide) (by decide) rfl h5 rfl rfl rfl dX6_one_190 ?_
                generalize up2 m33 b 6 ((m33 b 6) - 1) = m34 at h ⊢
                refine WP.iconst (v := 1) dX6_one_193 rfl ?_
                exact WP.zret dX6_one_194 rfl (Nat.le_refl _) (Nat.le_refl _) rfl ⟨_, rfl, h⟩
              · have h := h.2 c32
                refine WP.iconst (v := 0) dX6_one_171 rfl ?_
                exact WP.zret dX6_one_172 rfl (Nat.le_refl _) (Nat.le_refl _) rfl ⟨_, rfl, h⟩
      · have h := h.2 c16
        refine WP.aload_n 1 dX6_one_108 rfl rfl ?_
        refine WP.callV (y := mX6_opens) (As := []) (st := []) dX6_one_109 wm_X6_114 mw_X6_opens rfl (Nat.le_of_ble_eq_true rfl) (rmok d) h5 (by decide) rfl h (fun v35 Sm36 h38 => ?_)
        obtain ⟨m36, rfl, r37, rfl, h⟩ := h38
        show WP G _ _ _ 0 0 112 [(1, .int r3), (0, .ref b)] [.int r37] (sh, ta, m36)
        refine WP.if_eq (tgt := 122) dX6_one_112 (by decide) (fun c39 => ?_) (fun c39 => ?_)
        · have h := h.1 c39
          refine WP.iconst (v := 0) dX6_one_122 rfl ?_
          exact WP.zret dX6_one_123 rfl (Nat.le_refl _) (Nat.le_refl _) rfl ⟨_, rfl, h⟩
        · have h := h.2 c39
          refine WP.aload_n 1 dX6_one_115 rfl rfl ?_
          refine WP.callV (y := mX6_one) (As := []) (st := []) dX6_one_116 wm_X6_104 mw_X6_one rfl (Nat.le_of_ble_eq_true rfl) (rmok d) h5 (by decide) rfl h (fun v40 Sm41 h43 => ?_)
          obtain ⟨m41, rfl, r42, rfl, h⟩ := h43
          show WP G _ _ _ 0 0 119 [(1, .int r3), (0, .ref b)] [.int r42] (sh, ta, m41)
          refine WP.if_ne (tgt := 124) dX6_one_119 (by decide) (fun c44 => ?_) (fun c44 => ?_)
          · have h := h.1 c44
            refine WP.aload_n 1 dX6_one_124 rfl rfl ?_
            refine WP.dup dX6_one_125 rfl ?_
            refine WP.getI 6 6 wf_X6_107 (by decide) (by decide) rfl h5 dX6_one_126 ?_
            refine WP.iconst (v := 1) dX6_one_129 rfl ?_
            refine WP.isub dX6_one_130 ?_
            have h := h _ rfl
            refine WP.putI 6 6 wf_X6_107 (by decide) (by decide) rfl h5 rfl rfl rfl dX6_one_131 ?_
            generalize up2 m41 b 6 ((m41 b 6) - 1) = m45 at h ⊢
            refine WP.aload_n 1 dX6_one_134 rfl rfl ?_
            refine WP.iconst (v := 2) dX6_one_135 rfl ?_
            refine WP.iconst (v := 0) dX6_one_136 rfl ?_
            refine WP.callV (y := mX6_step1) (As := [.int 2, .int 0]) (st := []) dX6_one_137 wm_X6_91 mw_X6_step1 rfl (Nat.le_of_ble_eq_true rfl) (rmok d) h5 (by decide) rfl h (fun v46 Sm47 h49 => ?_)
            obtain ⟨m47, rfl, rfl, h⟩ := h49
            show WP G _ _ _ 0 0 140 [(1, .int r3), (0, .ref b)] [] (sh, ta, m47)
            refine WP.iconst (v := 1) dX6_one_140 rfl ?_
            exact WP.zret dX6_one_141 rfl (Nat.le_refl _) (Nat.le_refl _) rfl ⟨_, rfl, h⟩
          · have h := h.2 c44
            refine WP.iconst (v := 0) dX6_one_122 rfl ?_
            exact WP.zret dX6_one_123 rfl (Nat.le_refl _) (Nat.le_refl _) rfl ⟨_, rfl, h⟩
    · have h := h.2 c15
      refine WP.iconst (v := 0) dX6_one_42 rfl ?_
      refine WP.istore_n (lv2 := [(2, .int 0), (1, .int r3), (0, .ref b)]) dX6_one_43 rfl (by decide) rfl ?_
      refine WP.iconst (v := 0) dX6_one_44 rfl ?_
      refine WP.istore_n (lv2 := [(3, .int 0), (2, .int 0), (1, .int r3), (0, .ref b)]) dX6_one_45 rfl (by decide) rfl ?_
      exact WP.pick [3, 1, 0] rfl h
  · have h := h.2 c10
    refine WP.aload_n 1 dX6_one_13 rfl rfl ?_
    refine WP.dup dX6_one_14 rfl ?_
    refine WP.getI 6 5 wf_X6_73 (by decide) (by decide) rfl h5 dX6_one_15 ?_
    refine WP.iconst (v := 1) dX6_one_18 rfl ?_
    refine WP.iadd dX6_one_19 ?_
    have h := h _ rfl
    refine WP.putI 6 5 wf_X6_73 (by decide) (by decide) rfl h5 rfl rfl rfl dX6_one_20 ?_
    generalize up2 m7 b 5 ((m7 b 5) + 1) = m50 at h ⊢
    refine WP.aload_n 1 dX6_one_23 rfl rfl ?_
    refine WP.iconst (v := 1) dX6_one_24 rfl ?_
    refine WP.iload_n 0 dX6_one_25 rfl rfl ?_
    refine WP.callV (y := mX6_step1) (As := [.int 1, .int r3]) (st := []) dX6_one_26 wm_X6_91 mw_X6_step1 rfl (Nat.le_of_ble_eq_true rfl) (rmok d) h5 (by decide) rfl h (fun v51 Sm52 h54 => ?_)
    obtain ⟨m52, rfl, rfl, h⟩ := h54
    show WP G _ _ _ 0 0 29 [(1, .int r3), (0, .ref b)] [] (sh, ta, m52)
    refine WP.iconst (v := 1) dX6_one_29 rfl ?_
    exact WP.zret dX6_one_30 rfl (Nat.le_refl _) (Nat.le_refl _) rfl ⟨_, rfl, h⟩
set_option maxHeartbeats 4000000 in
set_option maxRecDepth 20000 in
theorem rg_X6_one_46 (hG : fl G = false) (b : Nat) (x2 : Int32) (x3 : Int32) (h : (((4 : Int32) ≤ x3 → sh[b]? = some (.inl 6) ∧ Cal G mX6_step1 d [.ref b, .int 0, .int x2] sh ta m (fun v2 m3 => v2 = none ∧ K (some (.int 1)) m3)) ∧ (¬ (4 : Int32) ≤ x3 → sh[b]? = some (.inl 6) ∧ Cal G mX6_look d [.ref b] sh ta m (fun v7 m8 => ∃ r9, v7 = some (.int r9) ∧ Cal G mX6_in d [.int r9, .int 48, .int 57] sh ta m8 (fun v12 m13 => ∃ r14, v12 = some (.int r14) ∧ ((r14 = 0 → Cal G mX6_step1 d [.ref b, .int 0, .int x2] sh ta m13 (fun v17 m18 => v17 = none ∧ K (some (.int 1)) m18)) ∧ (¬ r14 = 0 → Cal G mX6_look d [.ref b] sh ta m13 (fun v21 m22 => ∃ r23, v21 = some (.int r23) ∧ ∀ m25, m25 = up2 m22 b 5 ((m22 b 5) + 1) → WP G (rmD (d + 1) 0 0) mX6_one (QC G sh ta K) 0 0 46 [(0, .ref b), (2, .int (((10 * x2) + r23) - 48)), (3, .int (x3 + 1))] [] (sh, ta, m25))))))))) : WP G (rmD (d + 1) 0 0) mX6_one (QC G sh ta K) 0 0 46 [(0, .ref b), (2, .int x2), (3, .int x3)] [] (sh, ta, m) := by
  refine WP.iload_n 2 dX6_one_46 rfl rfl ?_
  refine WP.iconst (v := 4) dX6_one_47 rfl ?_
  refine WP.icmp_ge (tgt := 94) dX6_one_48 (by decide) (fun c1 => ?_) (fun c1 => ?_)
  · have h := h.1 c1
    refine WP.aload_n 0 dX6_one_94 rfl rfl ?_
    refine WP.iconst (v := 0) dX6_one_95 rfl ?_
    refine WP.iload_n 1 dX6_one_96 rfl rfl ?_
    obtain ⟨h6, h⟩ := h
    refine WP.callV (y := mX6_step1) (As := [.int 0, .int x2]) (st := []) dX6_one_97 wm_X6_91 mw_X6_step1 rfl (Nat.le_of_ble_eq_true rfl) (rmok d) h6 (by decide) rfl h (fun v2 Sm3 h5 => ?_)
    obtain ⟨m3, rfl, rfl, h⟩ := h5
    show WP G _ _ _ 0 0 100 [(0, .ref b), (2, .int x2), (3, .int x3)] [] (sh, ta, m3)
    refine WP.iconst (v := 1) dX6_one_100 rfl ?_
    exact WP.zret dX6_one_101 rfl (Nat.le_refl _) (Nat.le_refl _) rfl ⟨_, rfl, h⟩
  · have h := h.2 c1
    refine WP.aload_n 0 dX6_one_51 rfl rfl ?_
    obtain ⟨h11, h⟩ := h
    refine WP.callV (y := mX6_look) (As := []) (st := []) dX6_one_52 wm_X6_87 mw_X6_look rfl (Nat.le_of_ble_eq_true rfl) (rmok d) h11 (by decide) rfl h (fun v7 Sm8 h10 => ?_)
    obtain ⟨m8, rfl, r9, rfl, h⟩ := h10
    show WP G _ _ _ 0 0 55 [(0, .ref b), (2, .int x2), (3, .int x3)] [.int r9] (sh, ta, m8)
    refine WP.bipush (v := 48) dX6_one_55 rfl ?_
    refine WP.bipush (v := 57) dX6_one_57 rfl ?_
    refine WP.callS (y := mX6_in) (As := [.int r9, .int 48, .int 57]) (st := []) dX6_one_59 wm_X6_50 mw_X6_in rfl (Nat.le_of_ble_eq_true rfl) (rmok d) rfl h (fun v12 Sm13 h15 => ?_)
    obtain ⟨m13, rfl, r14, rfl, h⟩ := h15
    show WP G _ _ _ 0 0 62 [(0, .ref b), (2, .int x2), (3, .int x3)] [.int r14] (sh, ta, m13)
    refine WP.if_eq (tgt := 94) dX6_one_62 (by decide) (fun c16 => ?_) (fun c16 => ?_)
    · have h := h.1 c16
      refine WP.aload_n 0 dX6_one_94 rfl rfl ?_
      refine WP.iconst (v := 0) dX6_one_95 rfl ?_
      refine WP.iload_n 1 dX6_one_96 rfl rfl ?_
      refine WP.callV (y := mX6_step1) (As := [.int 0, .int x2]) (st := []) dX6_one_97 wm_X6_91 mw_X6_step1 rfl (Nat.le_of_ble_eq_true rfl) (rmok d) h11 (by decide) rfl h (fun v17 Sm18 h20 => ?_)
      obtain ⟨m18, rfl, rfl, h⟩ := h20
      show WP G _ _ _ 0 0 100 [(0, .ref b), (2, .int x2), (3, .int x3)] [] (sh, ta, m18)
      refine WP.iconst (v := 1) dX6_one_100 rfl ?_
      exact WP.zret dX6_one_101 rfl (Nat.le_refl _) (Nat.le_refl _) rfl ⟨_, rfl, h⟩
    · have h := h.2 c16
      refine WP.bipush (v := 10) dX6_one_65 rfl ?_
      refine WP.iload_n 1 dX6_one_67 rfl rfl ?_
      refine WP.imul dX6_one_68 ?_
      refine WP.aload_n 0 dX6_one_69 rfl rfl ?_
      refine WP.callV (y := mX6_look) (As := []) (st := [.int (10 * x2)]) dX6_one_70 wm_X6_87 mw_X6_look rfl (Nat.le_of_ble_eq_true rfl) (rmok d) h11 (by decide) rfl h (fun v21 Sm22 h24 => ?_)
      obtain ⟨m22, rfl, r23, rfl, h⟩ := h24
      show WP G _ _ _ 0 0 73 [(0, .ref b), (2, .int x2), (3, .int x3)] [.int r23, .int (10 * x2)] (sh, ta, m22)
      refine WP.iadd dX6_one_73 ?_
      refine WP.bipush (v := 48) dX6_one_74 rfl ?_
      refine WP.isub dX6_one_76 ?_
      refine WP.istore_n (lv2 := [(2, .int (((10 * x2) + r23) - 48)), (0, .ref b), (3, .int x3)]) dX6_one_77 rfl (by decide) rfl ?_
      refine WP.aload_n 1 dX6_one_78 rfl rfl ?_
      refine WP.dup dX6_one_79 rfl ?_
      refine WP.getI 6 5 wf_X6_73 (by decide) (by decide) rfl h11 dX6_one_80 ?_
      refine WP.iconst (v := 1) dX6_one_83 rfl ?_
      refine WP.iadd dX6_one_84 ?_
      have h := h _ rfl
      refine WP.putI 6 5 wf_X6_73 (by decide) (by decide) rfl h11 rfl rfl rfl dX6_one_85 ?_
      generalize up2 m22 b 5 ((m22 b 5) + 1) = m25 at h ⊢
      refine WP.iinc (lv2 := [(3, .int (x3 + 1)), (2, .int (((10 * x2) + r23) - 48)), (0, .ref b)]) 2 1 dX6_one_88 rfl rfl (by decide) rfl ?_
      refine WP.goto (tgt := 46) dX6_one_91 (by decide) ?_
      exact WP.pick [2, 1, 0] rfl h
set_option maxHeartbeats 4000000 in
set_option maxRecDepth 20000 in
theorem rg_X6_hasText_0 (hG : fl G = false) (b : Nat) (x1 : Int32) (h : sh[b]? = some (.inl 6) ∧ ∃ i2, ta b 0 = some i2 ∧ ∃ n5, sh[i2]? = some (.inr (0, n5)) ∧ InB (168 + (125 * x1)) n5 ∧ (((rd (m i2) (168 + (125 * x1))) ≤ 0 → K (some (.int 0)) m) ∧ (¬ (rd (m i2) (168 + (125 * x1))) ≤ 0 → K (some (.int 1)) m))) : WP G (rmD (d + 1) 0 0) mX6_hasText (QC G sh ta K) 0 0 0 [(0, .ref b), (1, .int x1)] [] (sh, ta, m) := by
  refine WP.aload_n 0 dX6_hasText_0 rfl rfl ?_
  obtain ⟨h1, h⟩ := h
  obtain ⟨i2, h3, h⟩ := h
  refine WP.getR 6 0 wf_X6_7 (by decide) (by decide) rfl h1 h3 dX6_hasText_1 ?_
  refine WP.sipush (v := 168) dX6_hasText_4 rfl ?_
  refine WP.bipush (v := 125) dX6_hasText_7 rfl ?_
  refine WP.iload_n 1 dX6_hasText_9 rfl rfl ?_
  refine WP.imul dX6_hasText_10 ?_
  refine WP.iadd dX6_hasText_11 ?_
  obtain ⟨n5, h4, h⟩ := h
  obtain ⟨h6, h⟩ := h
  refine WP.iald h4 h6 dX6_hasText_12 ?_
  refine WP.if_le (tgt := 20) dX6_hasText_13 (by decide) (fun c7 => ?_) (fun c7 => ?_)
  · have h := h.1 c7
    refine WP.iconst (v := 0) dX6_hasText_20 rfl ?_
    exact WP.zret dX6_hasText_21 rfl (Nat.le_refl _) (Nat.le_refl _) rfl ⟨_, rfl, h⟩
  · have h := h.2 c7
    refine WP.iconst (v := 1) dX6_hasText_16 rfl ?_
    refine WP.goto (tgt := 21) dX6_hasText_17 (by decide) ?_
    exact WP.zret dX6_hasText_21 rfl (Nat.le_refl _) (Nat.le_refl _) rfl ⟨_, rfl, h⟩
set_option maxHeartbeats 4000000 in
set_option maxRecDepth 20000 in
theorem rg_X6_text_0 (hG : fl G = false) (b : Nat) (x1 : Int32) (h : Cal G mX6_in d [.int x1, .int 0, .int 1] sh ta m (fun v1 m2 => ∃ r3, v1 = some (.int r3) ∧ ((¬ r3 = 0 → sh[b]? = some (.inl 6) ∧ ∀ m7, m7 = up2 m2 b 8 x1 → ∀ m8, m8 = up2 m7 b 5 0 → ∀ m9, m9 = up2 m8 b 6 0 → ∀ m10, m10 = up2 m9 b 7 0 → Cal G mX6_whole d [.ref b] sh ta m10 (fun v11 m12 => ∃ r13, v11 = some (.int r13) ∧ ((r13 = 0 → ∃ i16, ta b 0 = some i16 ∧ ∃ n19, sh[i16]? = some (.inr (0, n19)) ∧ InB 5 n19 ∧ ∀ m21, m21 = upa m12 i16 (5 : Int32) (0 : Int32) → K (some (.int (((-10)) - (m21 b 5)))) m21) ∧ (¬ r13 = 0 → ∃ i23, ta b 0 = some i23 ∧ ∃ n26, sh[i23]? = some (.inr (0, n26)) ∧ InB 5 n26 ∧ ((¬ (m12 b 5) = (rd (m12 i23) (5 : Int32)) → InB 5 n26 ∧ ∀ m30, m30 = upa m12 i23 (5 : Int32) (0 : Int32) → K (some (.int (((-10)) - (m30 b 5)))) m30) ∧ ((m12 b 5) = (rd (m12 i23) (5 : Int32)) → InB 5 n26 ∧ ∀ m33, m33 = upa m12 i23 (5 : Int32) (0 : Int32) → InB (168 + (125 * x1)) n26 ∧ ∀ m36, m36 = upa m33 i23 (168 + (125 * x1)) (m33 b 7) → WP G (rmD (d + 1) 0 0) mX6_text (QC G sh ta K) 0 0 102 [(0, .ref b), (3, .int (168 + (125 * x1))), (4, .int 0)] [] (sh, ta, m36))))))) ∧ (r3 = 0 → sh[b]? = some (.inl 6) ∧ Cal G mX6_error d [.ref b, .int 1] sh ta m2 (fun v37 m38 => ∃ r39, v37 = some (.int r39) ∧ K (some (.int r39)) m38))))) : WP G (rmD (d + 1) 0 0) mX6_text (QC G sh ta K) 0 0 0 [(0, .ref b), (1, .int x1)] [] (sh, ta, m) := by
  refine WP.iload_n 1 dX6_text_0 rfl rfl ?_
  refine WP.iconst (v := 0) dX6_text_1 rfl ?_
  refine WP.iconst (v := 1) dX6_text_2 rfl ?_
  refine WP.callS (y := mX6_in) (As := [.int x1, .int 0, .int 1]) (st := []) dX6_text_3 wm_X6_50 mw_X6_in rfl (Nat.le_of_ble_eq_true rfl) (rmok d) rfl h (fun v1 Sm2 h4 => ?_)
  obtain ⟨m2, rfl, r3, rfl, h⟩ := h4
  show WP G _ _ _ 0 0 6 [(0, .ref b), (1, .int x1)] [.int r3] (sh, ta, m2)
  refine WP.if_ne (tgt := 15) dX6_text_6 (by decide) (fun c5 => ?_) (fun c5 => ?_)
  · have h := h.1 c5
    refine WP.aload_n 0 dX6_text_15 rfl rfl ?_
    refine WP.iload_n 1 dX6_text_16 rfl rfl ?_
    obtain ⟨h6, h⟩ := h
    have h := h _ rfl
    refine WP.putI 6 8 wf_X6_77 (by decide) (by decide) rfl h6 rfl rfl rfl dX6_text_17 ?_
    generalize up2 m2 b 8 x1 = m7 at h ⊢
    refine WP.aload_n 0 dX6_text_20 rfl rfl ?_
    refine WP.iconst (v := 0) dX6_text_21 rfl ?_
    have h := h _ rfl
    refine WP.putI 6 5 wf_X6_73 (by decide) (by decide) rfl h6 rfl rfl rfl dX6_text_22 ?_
    generalize up2 m7 b 5 0 = m8 at h ⊢
    refine WP.aload_n 0 dX6_text_25 rfl rfl ?_
    refine WP.iconst (v := 0) dX6_text_26 rfl ?_
    have h := h _ rfl
    refine WP.putI 6 6 wf_X6_107 (by decide) (by decide) rfl h6 rfl rfl rfl dX6_text_27 ?_
    generalize up2 m8 b 6 0 = m9 at h ⊢
    refine WP.aload_n 0 dX6_text_30 rfl rfl ?_
    refine WP.iconst (v := 0) dX6_text_31 rfl ?_
    have h := h _ rfl
    refine WP.putI 6 7 wf_X6_80 (by decide) (by decide) rfl h6 rfl rfl rfl dX6_text_32 ?_
    generalize up2 m9 b 7 0 = m10 at h ⊢
    refine WP.aload_n 0 dX6_text_35 rfl rfl ?_
    refine WP.callV (y := mX6_whole) (As := []) (st := []) dX6_text_36 wm_X6_117 mw_X6_whole rfl (Nat.le_of_ble_eq_true rfl) (rmok d) h6 (by decide) rfl h (fun v11 Sm12 h14 => ?_)
    obtain ⟨m12, rfl, r13, rfl, h⟩ := h14
    show WP G _ _ _ 0 0 39 [(0, .ref b), (1, .int x1)] [.int r13] (sh, ta, m12)
    refine WP.if_eq (tgt := 59) dX6_text_39 (by decide) (fun c15 => ?_) (fun c15 => ?_)
    · have h := h.1 c15
      refine WP.iconst (v := 0) dX6_text_59 rfl ?_
      refine WP.istore_n (lv2 := [(2, .int 0), (0, .ref b), (1, .int x1)]) dX6_text_60 rfl (by decide) rfl ?_
      refine WP.aload_n 1 dX6_text_61 rfl rfl ?_
      obtain ⟨i16, h17, h⟩ := h
      refine WP.getR 6 0 wf_X6_7 (by decide) (by decide) rfl h6 h17 dX6_text_62 ?_
      refine WP.iconst (v := 5) dX6_text_65 rfl ?_
      refine WP.iconst (v := 0) dX6_text_66 rfl ?_
      obtain ⟨n19, h18, h⟩ := h
      obtain ⟨h20, h⟩ := h
      have h := h _ rfl
      refine WP.iast h18 h20 dX6_text_67 ?_
      generalize upa m12 i16 (5 : Int32) (0 : Int32) = m21 at h ⊢
      refine WP.iload_n 0 dX6_text_68 rfl rfl ?_
      refine WP.if_ne (tgt := 80) dX6_text_69 (by decide) (fun c22 => absurd (by decide) c22) (fun _ => ?_)
      refine WP.bipush (v := (-10)) dX6_text_72 rfl ?_
      refine WP.aload_n 1 dX6_text_74 rfl rfl ?_
      refine WP.getI 6 5 wf_X6_73 (by decide) (by decide) rfl h6 dX6_text_75 ?_
      refine WP.isub dX6_text_78 ?_
      exact WP.iret dX6_text_79 rfl (Nat.le_refl _) (Nat.le_refl _) ⟨_, rfl, h⟩
    · have h := h.2 c15
      refine WP.aload_n 0 dX6_text_42 rfl rfl ?_
      refine WP.getI 6 5 wf_X6_73 (by decide) (by decide) rfl h6 dX6_text_43 ?_
      refine WP.aload_n 0 dX6_text_46 rfl rfl ?_
      obtain ⟨i23, h24, h⟩ := h
      refine WP.getR 6 0 wf_X6_7 (by decide) (by decide) rfl h6 h24 dX6_text_47 ?_
      refine WP.iconst (v := 5) dX6_text_50 rfl ?_
      obtain ⟨n26, h25, h⟩ := h
      obtain ⟨h27, h⟩ := h
      refine WP.iald h25 h27 dX6_text_51 ?_
      refine WP.icmp_ne (tgt := 59) dX6_text_52 (by decide) (fun c28 => ?_) (fun c28 => ?_)
      · have h := h.1 c28
        refine WP.iconst (v := 0) dX6_text_59 rfl ?_
        refine WP.istore_n (lv2 := [(2, .int 0), (0, .ref b), (1, .int x1)]) dX6_text_60 rfl (by decide) rfl ?_
        refine WP.aload_n 1 dX6_text_61 rfl rfl ?_
        refine WP.getR 6 0 wf_X6_7 (by decide) (by decide) rfl h6 h24 dX6_text_62 ?_
        refine WP.iconst (v := 5) dX6_text_65 rfl ?_
        refine WP.iconst (v := 0) dX6_text_66 rfl ?_
        obtain ⟨h29, h⟩ := h
        have h := h _ rfl
        refine WP.iast h25 h29 dX6_text_67 ?_
        generalize upa m12 i23 (5 : Int32) (0 : Int32) = m30 at h ⊢
        refine WP.iload_n 0 dX6_text_68 rfl rfl ?_
        refine WP.if_ne (tgt := 80) dX6_text_69 (by decide) (fun c31 => absurd (by decide) c31) (fun _ => ?_)
        refine WP.bipush (v := (-10)) dX6_text_72 rfl ?_
        refine WP.aload_n 1 dX6_text_74 rfl rfl ?_
        refine WP.getI 6 5 wf_X6_73 (by decide) (by decide) rfl h6 dX6_text_75 ?_
        refine WP.isub dX6_text_78 ?_
        exact WP.iret dX6_text_79 rfl (Nat.le_refl _) (Nat.le_refl _) ⟨_, rfl, h⟩
      · have h := h.2 c28
        refine WP.iconst (v := 1) dX6_text_55 rfl ?_
        refine WP.goto (tgt := 60) dX6_text_56 (by decide) ?_
        refine WP.istore_n (lv2 := [(2, .int 1), (0, .ref b), (1, .int x1)]) dX6_text_60 rfl (by decide) rfl ?_
        refine WP.aload_n 1 dX6_text_61 rfl rfl ?_
        refine WP.getR 6 0 wf_X6_7 (by decide) (by decide) rfl h6 h24 dX6_text_62 ?_
        refine WP.iconst (v := 5) dX6_text_65 rfl ?_
        refine WP.iconst (v := 0) dX6_text_66 rfl ?_
        obtain ⟨h32, h⟩ := h
        have h := h _ rfl
        refine WP.iast h25 h32 dX6_text_67 ?_
        generalize upa m12 i23 (5 : Int32) (0 : Int32) = m33 at h ⊢
        refine WP.iload_n 0 dX6_text_68 rfl rfl ?_
        refine WP.if_ne (tgt := 80) dX6_text_69 (by decide) (fun _ => ?_) (fun c34 => absurd c34 (by decide))
        refine WP.sipush (v := 168) dX6_text_80 rfl ?_
        refine WP.bipush (v := 125) dX6_text_83 rfl ?_
        refine WP.iload_n 2 dX6_text_85 rfl rfl ?_
        refine WP.imul dX6_text_86 ?_
        refine WP.iadd dX6_text_87 ?_
        refine WP.istore_n (lv2 := [(3, .int (168 + (125 * x1))), (2, .int 1), (0, .ref b), (1, .int x1)]) dX6_text_88 rfl (by decide) rfl ?_
        refine WP.aload_n 2 dX6_text_89 rfl rfl ?_
        refine WP.getR 6 0 wf_X6_7 (by decide) (by decide) rfl h6 h24 dX6_text_90 ?_
        refine WP.iload_n 0 dX6_text_93 rfl rfl ?_
        refine WP.aload_n 2 dX6_text_94 rfl rfl ?_
        refine WP.getI 6 7 wf_X6_80 (by decide) (by decide) rfl h6 dX6_text_95 ?_
        obtain ⟨h35, h⟩ := h
        have h := h _ rfl
        refine WP.iast h25 h35 dX6_text_98 ?_
        generalize upa m33 i23 (168 + (125 * x1)) (m33 b 7) = m36 at h ⊢
        refine WP.iconst (v := 0) dX6_text_99 rfl ?_
        refine WP.istore (lv2 := [(4, .int 0), (3, .int (168 + (125 * x1))), (2, .int 1), (0, .ref b), (1, .int x1)]) dX6_text_100 (by decide) rfl ?_
        exact WP.pick [3, 1, 0] rfl h
  · have h := h.2 c5
    refine WP.aload_n 0 dX6_text_9 rfl rfl ?_
    refine WP.iconst (v := 1) dX6_text_10 rfl ?_
    obtain ⟨h41, h⟩ := h
    refine WP.callV (y := mX6_error) (As := [.int 1]) (st := []) dX6_text_11 wm_X6_68 mw_X6_error rfl (Nat.le_of_ble_eq_true rfl) (rmok d) h41 (by decide) rfl h (fun v37 Sm38 h40 => ?_)
    obtain ⟨m38, rfl, r39, rfl, h⟩ := h40
    show WP G _ _ _ 0 0 14 [(0, .ref b), (1, .int x1)] [.int r39] (sh, ta, m38)
    exact WP.iret dX6_text_14 rfl (Nat.le_refl _) (Nat.le_refl _) ⟨_, rfl, h⟩
set_option maxHeartbeats 4000000 in
set_option maxRecDepth 20000 in
theorem rg_X6_text_102 (hG : fl G = false) (b : Nat) (x3 : Int32) (x4 : Int32) (h : sh[b]? = some (.inl 6) ∧ (((2 * (m b 7)) ≤ x4 → K (some (.int 1)) m) ∧ (¬ (2 * (m b 7)) ≤ x4 → ∃ i3, ta b 0 = some i3 ∧ ∃ i5, ta b 9 = some i5 ∧ ∃ n8, sh[i5]? = some (.inr (0, n8)) ∧ InB x4 n8 ∧ ∃ n11, sh[i3]? = some (.inr (0, n11)) ∧ InB ((x3 + 1) + x4) n11 ∧ ∀ m13, m13 = upa m i3 ((x3 + 1) + x4) (rd (m i5) x4) → WP G (rmD (d + 1) 0 0) mX6_text (QC G sh ta K) 0 0 102 [(0, .ref b), (3, .int x3), (4, .int (x4 + 1))] [] (sh, ta, m13)))) : WP G (rmD (d + 1) 0 0) mX6_text (QC G sh ta K) 0 0 102 [(0, .ref b), (3, .int x3), (4, .int x4)] [] (sh, ta, m) := by
  refine WP.iload 2 dX6_text_102 rfl ?_
  refine WP.iconst (v := 2) dX6_text_104 rfl ?_
  refine WP.aload_n 0 dX6_text_105 rfl rfl ?_
  obtain ⟨h1, h⟩ := h
  refine WP.getI 6 7 wf_X6_80 (by decide) (by decide) rfl h1 dX6_text_106 ?_
  refine WP.imul dX6_text_109 ?_
  refine WP.icmp_ge (tgt := 137) dX6_text_110 (by decide) (fun c2 => ?_) (fun c2 => ?_)
  · have h := h.1 c2
    refine WP.iconst (v := 1) dX6_text_137 rfl ?_
    exact WP.iret dX6_text_138 rfl (Nat.le_refl _) (Nat.le_refl _) ⟨_, rfl, h⟩
  · have h := h.2 c2
    refine WP.aload_n 0 dX6_text_113 rfl rfl ?_
    obtain ⟨i3, h4, h⟩ := h
    refine WP.getR 6 0 wf_X6_7 (by decide) (by decide) rfl h1 h4 dX6_text_114 ?_
    refine WP.iload_n 1 dX6_text_117 rfl rfl ?_
    refine WP.iconst (v := 1) dX6_text_118 rfl ?_
    refine WP.iadd dX6_text_119 ?_
    refine WP.iload 2 dX6_text_120 rfl ?_
    refine WP.iadd dX6_text_122 ?_
    refine WP.aload_n 0 dX6_text_123 rfl rfl ?_
    obtain ⟨i5, h6, h⟩ := h
    refine WP.getR 6 9 wf_X6_22 (by decide) (by decide) rfl h1 h6 dX6_text_124 ?_
    refine WP.iload 2 dX6_text_127 rfl ?_
    obtain ⟨n8, h7, h⟩ := h
    obtain ⟨h9, h⟩ := h
    refine WP.iald h7 h9 dX6_text_129 ?_
    obtain ⟨n11, h10, h⟩ := h
    obtain ⟨h12, h⟩ := h
    have h := h _ rfl
    refine WP.iast h10 h12 dX6_text_130 ?_
    generalize upa m i3 ((x3 + 1) + x4) (rd (m i5) x4) = m13 at h ⊢
    refine WP.iinc (lv2 := [(4, .int (x4 + 1)), (0, .ref b), (3, .int x3)]) 2 1 dX6_text_131 rfl rfl (by decide) rfl ?_
    refine WP.goto (tgt := 102) dX6_text_134 (by decide) ?_
    exact WP.pick [1, 2, 0] rfl h
set_option maxHeartbeats 4000000 in
set_option maxRecDepth 20000 in
theorem rg_X6_untell_0 (hG : fl G = false) (b : Nat) (x1 : Int32) (h : Cal G mX6_in d [.int x1, .int 0, .int 1] sh ta m (fun v1 m2 => ∃ r3, v1 = some (.int r3) ∧ ((¬ r3 = 0 → sh[b]? = some (.inl 6) ∧ Cal G mX6_hasText d [.ref b, .int x1] sh ta m2 (fun v6 m7 => ∃ r8, v6 = some (.int r8) ∧ ((r8 = 0 → ∃ i12, ta b 0 = some i12 ∧ ∃ n15, sh[i12]? = some (.inr (0, n15)) ∧ InB (168 + (125 * x1)) n15 ∧ ∀ m17, m17 = upa m7 i12 (168 + (125 * x1)) (0 : Int32) → K (some (.int 0)) m17) ∧ (¬ r8 = 0 → ∃ i18, ta b 0 = some i18 ∧ ∃ n21, sh[i18]? = some (.inr (0, n21)) ∧ InB (168 + (125 * x1)) n21 ∧ ∀ m23, m23 = upa m7 i18 (168 + (125 * x1)) (0 : Int32) → K (some (.int 1)) m23)))) ∧ (r3 = 0 → sh[b]? = some (.inl 6) ∧ Cal G mX6_error d [.ref b, .int 1] sh ta m2 (fun v24 m25 => ∃ r26, v24 = some (.int r26) ∧ K (some (.int r26)) m25))))) : WP G (rmD (d + 1) 0 0) mX6_untell (QC G sh ta K) 0 0 0 [(0, .ref b), (1, .int x1)] [] (sh, ta, m) := by
  refine WP.iload_n 1 dX6_untell_0 rfl rfl ?_
  refine WP.iconst (v := 0) dX6_untell_1 rfl ?_
  refine WP.iconst (v := 1) dX6_untell_2 rfl ?_
  refine WP.callS (y := mX6_in) (As := [.int x1, .int 0, .int 1]) (st := []) dX6_untell_3 wm_X6_50 mw_X6_in rfl (Nat.le_of_ble_eq_true rfl) (rmok d) rfl h (fun v1 Sm2 h4 => ?_)
  obtain ⟨m2, rfl, r3, rfl, h⟩ := h4
  show WP G _ _ _ 0 0 6 [(0, .ref b), (1, .int x1)] [.int r3] (sh, ta, m2)
  refine WP.if_ne (tgt := 15) dX6_untell_6 (by decide) (fun c5 => ?_) (fun c5 => ?_)
  · have h := h.1 c5
    refine WP.aload_n 0 dX6_untell_15 rfl rfl ?_
    refine WP.iload_n 1 dX6_untell_16 rfl rfl ?_
    obtain ⟨h10, h⟩ := h
    refine WP.callV (y := mX6_hasText) (As := [.int x1]) (st := []) dX6_untell_17 wm_X6_120 mw_X6_hasText rfl (Nat.le_of_ble_eq_true rfl) (rmok d) h10 (by decide) rfl h (fun v6 Sm7 h9 => ?_)
    obtain ⟨m7, rfl, r8, rfl, h⟩ := h9
    show WP G _ _ _ 0 0 20 [(0, .ref b), (1, .int x1)] [.int r8] (sh, ta, m7)
    refine WP.if_eq (tgt := 27) dX6_untell_20 (by decide) (fun c11 => ?_) (fun c11 => ?_)
    · have h := h.1 c11
      refine WP.iconst (v := 0) dX6_untell_27 rfl ?_
      refine WP.istore_n (lv2 := [(2, .int 0), (0, .ref b), (1, .int x1)]) dX6_untell_28 rfl (by decide) rfl ?_
      refine WP.aload_n 1 dX6_untell_29 rfl rfl ?_
      obtain ⟨i12, h13, h⟩ := h
      refine WP.getR 6 0 wf_X6_7 (by decide) (by decide) rfl h10 h13 dX6_untell_30 ?_
      refine WP.sipush (v := 168) dX6_untell_33 rfl ?_
      refine WP.bipush (v := 125) dX6_untell_36 rfl ?_
      refine WP.iload_n 2 dX6_untell_38 rfl rfl ?_
      refine WP.imul dX6_untell_39 ?_
      refine WP.iadd dX6_untell_40 ?_
      refine WP.iconst (v := 0) dX6_untell_41 rfl ?_
      obtain ⟨n15, h14, h⟩ := h
      obtain ⟨h16, h⟩ := h
      have h := h _ rfl
      refine WP.iast h14 h16 dX6_untell_42 ?_
      generalize upa m7 i12 (168 + (125 * x1)) (0 : Int32) = m17 at h ⊢
      refine WP.iload_n 0 dX6_untell_43 rfl rfl ?_
      exact WP.iret dX6_untell_44 rfl (Nat.le_refl _) (Nat.le_refl _) ⟨_, rfl, h⟩
    · have h := h.2 c11
      refine WP.iconst (v := 1) dX6_untell_23 rfl ?_
      refine WP.goto (tgt := 28) dX6_untell_24 (by decide) ?_
      refine WP.istore_n (lv2 := [(2, .int 1), (0, .ref b), (1, .int x1)]) dX6_untell_28 rfl (by decide) rfl ?_
      refine WP.aload_n 1 dX6_untell_29 rfl rfl ?_
      obtain ⟨i18, h19, h⟩ := h
      refine WP.getR 6 0 wf_X6_7 (by decide) (by decide) rfl h10 h19 dX6_untell_30 ?_
      refine WP.sipush (v := 168) dX6_untell_33 rfl ?_
      refine WP.bipush (v := 125) dX6_untell_36 rfl ?_
      refine WP.iload_n 2 dX6_untell_38 rfl rfl ?_
      refine WP.imul dX6_untell_39 ?_
      refine WP.iadd dX6_untell_40 ?_
      refine WP.iconst (v := 0) dX6_untell_41 rfl ?_
      obtain ⟨n21, h20, h⟩ := h
      obtain ⟨h22, h⟩ := h
      have h := h _ rfl
      refine WP.iast h20 h22 dX6_untell_42 ?_
      generalize upa m7 i18 (168 + (125 * x1)) (0 : Int32) = m23 at h ⊢
      refine WP.iload_n 0 dX6_untell_43 rfl rfl ?_
      exact WP.iret dX6_untell_44 rfl (Nat.le_refl _) (Nat.le_refl _) ⟨_, rfl, h⟩
  · have h := h.2 c5
    refine WP.aload_n 0 dX6_untell_9 rfl rfl ?_
    refine WP.iconst (v := 1) dX6_untell_10 rfl ?_
    obtain ⟨h28, h⟩ := h
    refine WP.callV (y := mX6_error) (As := [.int 1]) (st := []) dX6_untell_11 wm_X6_68 mw_X6_error rfl (Nat.le_of_ble_eq_true rfl) (rmok d) h28 (by decide) rfl h (fun v24 Sm25 h27 => ?_)
    obtain ⟨m25, rfl, r26, rfl, h⟩ := h27
    show WP G _ _ _ 0 0 14 [(0, .ref b), (1, .int x1)] [.int r26] (sh, ta, m25)
    exact WP.iret dX6_untell_14 rfl (Nat.le_refl _) (Nat.le_refl _) ⟨_, rfl, h⟩
set_option maxHeartbeats 4000000 in
set_option maxRecDepth 20000 in
theorem rg_X6_joined_0 (hG : fl G = false) (x0 : Int32) (x1 : Int32) (x2 : Int32) (h : (((x0.toInt < 37 ∨ 62 < x0.toInt) → ((¬ x1 = 0 → K (some (.int 1)) m) ∧ (x1 = 0 → ((x2 = 0 → K (some (.int 0)) m) ∧ (¬ x2 = 0 → K (some (.int 1)) m))))) ∧ (x0 = 37 → ((x2 = 0 → K (some (.int 0)) m) ∧ (¬ x2 = 0 → ((¬ x2 = ((-1) : Int32) → ¬ (x2 : Int32) = 0 ∧ K (some (.int (x1 - x1 / x2 * x2))) m) ∧ (x2 = ((-1) : Int32) → K (some (.int 0)) m))))) ∧ (x0 = 38 → ((x1 = 0 → K (some (.int 0)) m) ∧ (¬ x1 = 0 → ((x2 = 0 → K (some (.int 0)) m) ∧ (¬ x2 = 0 → K (some (.int 1)) m))))) ∧ (x0 = 39 → ((¬ x1 = 0 → K (some (.int 1)) m) ∧ (x1 = 0 → ((x2 = 0 → K (some (.int 0)) m) ∧ (¬ x2 = 0 → K (some (.int 1)) m))))) ∧ (x0 = 40 → ((¬ x1 = 0 → K (some (.int 1)) m) ∧ (x1 = 0 → ((x2 = 0 → K (some (.int 0)) m) ∧ (¬ x2 = 0 → K (some (.int 1)) m))))) ∧ (x0 = 41 → ((¬ x1 = 0 → K (some (.int 1)) m) ∧ (x1 = 0 → ((x2 = 0 → K (some (.int 0)) m) ∧ (¬ x2 = 0 → K (some (.int 1)) m))))) ∧ (x0 = 42 → K (some (.int (x1 * x2))) m) ∧ (x0 = 43 → K (some (.int (x1 + x2))) m) ∧ (x0 = 44 → ((¬ x1 = 0 → K (some (.int 1)) m) ∧ (x1 = 0 → ((x2 = 0 → K (some (.int 0)) m) ∧ (¬ x2 = 0 → K (some (.int 1)) m))))) ∧ (x0 = 45 → K (some (.int (x1 - x2))) m) ∧ (x0 = 46 → ((¬ x1 = 0 → K (some (.int 1)) m) ∧ (x1 = 0 → ((x2 = 0 → K (some (.int 0)) m) ∧ (¬ x2 = 0 → K (some (.int 1)) m))))) ∧ (x0 = 47 → ((¬ x2 = 0 → ((¬ x2 = ((-1) : Int32) → ¬ (x2 : Int32) = 0 ∧ K (some (.int (x1 / x2))) m) ∧ (x2 = ((-1) : Int32) → K (some (.int (-x1))) m))) ∧ (x2 = 0 → K (some (.int 0)) m))) ∧ (x0 = 48 → ((¬ x1 = 0 → K (some (.int 1)) m) ∧ (x1 = 0 → ((x2 = 0 → K (some (.int 0)) m) ∧ (¬ x2 = 0 → K (some (.int 1)) m))))) ∧ (x0 = 49 → ((¬ x1 = 0 → K (some (.int 1)) m) ∧ (x1 = 0 → ((x2 = 0 → K (some (.int 0)) m) ∧ (¬ x2 = 0 → K (some (.int 1)) m))))) ∧ (x0 = 50 → ((¬ x1 = 0 → K (some (.int 1)) m) ∧ (x1 = 0 → ((x2 = 0 → K (some (.int 0)) m) ∧ (¬ x2 = 0 → K (some (.int 1)) m))))) ∧ (x0 = 51 → ((¬ x1 = 0 → K (some (.int 1)) m) ∧ (x1 = 0 → ((x2 = 0 → K (some (.int 0)) m) ∧ (¬ x2 = 0 → K (some (.int 1)) m))))) ∧ (x0 = 52 → ((¬ x1 = 0 → K (some (.int 1)) m) ∧ (x1 = 0 → ((x2 = 0 → K (some (.int 0)) m) ∧ (¬ x2 = 0 → K (some (.int 1)) m))))) ∧ (x0 = 53 → ((¬ x1 = 0 → K (some (.int 1)) m) ∧ (x1 = 0 → ((x2 = 0 → K (some (.int 0)) m) ∧ (¬ x2 = 0 → K (some (.int 1)) m))))) ∧ (x0 = 54 → ((¬ x1 = 0 → K (some (.int 1)) m) ∧ (x1 = 0 → ((x2 = 0 → K (some (.int 0)) m) ∧ (¬ x2 = 0 → K (some (.int 1)) m))))) ∧ (x0 = 55 → ((¬ x1 = 0 → K (some (.int 1)) m) ∧ (x1 = 0 → ((x2 = 0 → K (some (.int 0)) m) ∧ (¬ x2 = 0 → K (some (.int 1)) m))))) ∧ (x0 = 56 → ((¬ x1 = 0 → K (some (.int 1)) m) ∧ (x1 = 0 → ((x2 = 0 → K (some (.int 0)) m) ∧ (¬ x2 = 0 → K (some (.int 1)) m))))) ∧ (x0 = 57 → ((¬ x1 = 0 → K (some (.int 1)) m) ∧ (x1 = 0 → ((x2 = 0 → K (some (.int 0)) m) ∧ (¬ x2 = 0 → K (some (.int 1)) m))))) ∧ (x0 = 58 → ((¬ x1 = 0 → K (some (.int 1)) m) ∧ (x1 = 0 → ((x2 = 0 → K (some (.int 0)) m) ∧ (¬ x2 = 0 → K (some (.int 1)) m))))) ∧ (x0 = 59 → ((¬ x1 = 0 → K (some (.int 1)) m) ∧ (x1 = 0 → ((x2 = 0 → K (some (.int 0)) m) ∧ (¬ x2 = 0 → K (some (.int 1)) m))))) ∧ (x0 = 60 → ((x2 ≤ x1 → K (some (.int 0)) m) ∧ (¬ x2 ≤ x1 → K (some (.int 1)) m))) ∧ (x0 = 61 → ((¬ x1 = x2 → K (some (.int 0)) m) ∧ (x1 = x2 → K (some (.int 1)) m))) ∧ (x0 = 62 → ((x1 ≤ x2 → K (some (.int 0)) m) ∧ (¬ x1 ≤ x2 → K (some (.int 1)) m))))) : WP G (rmD (d + 1) 0 0) mX6_joined (QC G sh ta K) 0 0 0 [(0, .int x0), (1, .int x1), (2, .int x2)] [] (sh, ta, m) := by
  refine WP.iload_n 0 dX6_joined_0 rfl rfl ?_
  by_cases c1 : (x0 : Int32).toInt < 37 ∨ 62 < (x0 : Int32).toInt
  · have h := h.1 c1
    refine WP.tswO (td := 218) dX6_joined_1 c1 (by decide) ?_
    refine WP.iload_n 1 dX6_joined_218 rfl rfl ?_
    refine WP.if_ne (tgt := 226) dX6_joined_219 (by decide) (fun c2 => ?_) (fun c2 => ?_)
    · have h := h.1 c2
      refine WP.iconst (v := 1) dX6_joined_226 rfl ?_
      refine WP.goto (tgt := 231) dX6_joined_227 (by decide) ?_
      exact WP.iret dX6_joined_231 rfl (Nat.le_refl _) (Nat.le_refl _) ⟨_, rfl, h⟩
    · have h := h.2 c2
      refine WP.iload_n 2 dX6_joined_222 rfl rfl ?_
      refine WP.if_eq (tgt := 230) dX6_joined_223 (by decide) (fun c3 => ?_) (fun c3 => ?_)
      · have h := h.1 c3
        refine WP.iconst (v := 0) dX6_joined_230 rfl ?_
        exact WP.iret dX6_joined_231 rfl (Nat.le_refl _) (Nat.le_refl _) ⟨_, rfl, h⟩
      · have h := h.2 c3
        refine WP.iconst (v := 1) dX6_joined_226 rfl ?_
        refine WP.goto (tgt := 231) dX6_joined_227 (by decide) ?_
        exact WP.iret dX6_joined_231 rfl (Nat.le_refl _) (Nat.le_refl _) ⟨_, rfl, h⟩
  rcases (show (x0 : Int32).toInt = 37 ∨ (x0 : Int32).toInt = 38 ∨ (x0 : Int32).toInt = 39 ∨ (x0 : Int32).toInt = 40 ∨ (x0 : Int32).toInt = 41 ∨ (x0 : Int32).toInt = 42 ∨ (x0 : Int32).toInt = 43 ∨ (x0 : Int32).toInt = 44 ∨ (x0 : Int32).toInt = 45 ∨ (x0 : Int32).toInt = 46 ∨ (x0 : Int32).toInt = 47 ∨ (x0 : Int32).toInt = 48 ∨ (x0 : Int32).toInt = 49 ∨ (x0 : Int32).toInt = 50 ∨ (x0 : Int32).toInt = 51 ∨ (x0 : Int32).toInt = 52 ∨ (x0 : Int32).toInt = 53 ∨ (x0 : Int32).toInt = 54 ∨ (x0 : Int32).toInt = 55 ∨ (x0 : Int32).toInt = 56 ∨ (x0 : Int32).toInt = 57 ∨ (x0 : Int32).toInt = 58 ∨ (x0 : Int32).toInt = 59 ∨ (x0 : Int32).toInt = 60 ∨ (x0 : Int32).toInt = 61 ∨ (x0 : Int32).toInt = 62 by omega) with c1 | c1 | c1 | c1 | c1 | c1 | c1 | c1 | c1 | c1 | c1 | c1 | c1 | c1 | c1 | c1 | c1 | c1 | c1 | c1 | c1 | c1 | c1 | c1 | c1 | c1
  · have h := h.2.1 (i32_of c1 rfl)
    refine WP.tswI (td := 154) 0 dX6_joined_1 c1 (by decide) rfl (by decide) ?_
    refine WP.iload_n 2 dX6_joined_154 rfl rfl ?_
    refine WP.if_eq (tgt := 163) dX6_joined_155 (by decide) (fun c4 => ?_) (fun c4 => ?_)
    · have h := h.1 c4
      refine WP.iconst (v := 0) dX6_joined_163 rfl ?_
      refine WP.goto (tgt := 170) dX6_joined_164 (by decide) ?_
      exact WP.iret dX6_joined_170 rfl (Nat.le_refl _) (Nat.le_refl _) ⟨_, rfl, h⟩
    · have h := h.2 c4
      refine WP.iload_n 2 dX6_joined_158 rfl rfl ?_
      refine WP.iconst (v := (-1)) dX6_joined_159 rfl ?_
      refine WP.icmp_ne (tgt := 167) dX6_joined_160 (by decide) (fun c5 => ?_) (fun c5 => ?_)
      · have h := h.1 c5
        refine WP.iload_n 1 dX6_joined_167 rfl rfl ?_
        refine WP.iload_n 2 dX6_joined_168 rfl rfl ?_
        obtain ⟨h6, h⟩ := h
        refine WP.irem dX6_joined_169 h6 ?_
        exact WP.iret dX6_joined_170 rfl (Nat.le_refl _) (Nat.le_refl _) ⟨_, rfl, h⟩
      · have h := h.2 c5
        refine WP.iconst (v := 0) dX6_joined_163 rfl ?_
        refine WP.goto (tgt := 170) dX6_joined_164 (by decide) ?_
        exact WP.iret dX6_joined_170 rfl (Nat.le_refl _) (Nat.le_refl _) ⟨_, rfl, h⟩
  · have h := h.2.2.1 (i32_of c1 rfl)
    refine WP.tswI (td := 204) 1 dX6_joined_1 c1 (by decide) rfl (by decide) ?_
    refine WP.iload_n 1 dX6_joined_204 rfl rfl ?_
    refine WP.if_eq (tgt := 216) dX6_joined_205 (by decide) (fun c7 => ?_) (fun c7 => ?_)
    · have h := h.1 c7
      refine WP.iconst (v := 0) dX6_joined_216 rfl ?_
      exact WP.iret dX6_joined_217 rfl (Nat.le_refl _) (Nat.le_refl _) ⟨_, rfl, h⟩
    · have h := h.2 c7
      refine WP.iload_n 2 dX6_joined_208 rfl rfl ?_
      refine WP.if_eq (tgt := 216) dX6_joined_209 (by decide) (fun c8 => ?_) (fun c8 => ?_)
      · have h := h.1 c8
        refine WP.iconst (v := 0) dX6_joined_216 rfl ?_
        exact WP.iret dX6_joined_217 rfl (Nat.le_refl _) (Nat.le_refl _) ⟨_, rfl, h⟩
      · have h := h.2 c8
        refine WP.iconst (v := 1) dX6_joined_212 rfl ?_
        refine WP.goto (tgt := 217) dX6_joined_213 (by decide) ?_
        exact WP.iret dX6_joined_217 rfl (Nat.le_refl _) (Nat.le_refl _) ⟨_, rfl, h⟩
  · have h := h.2.2.2.1 (i32_of c1 rfl)
    refine WP.tswI (td := 218) 2 dX6_joined_1 c1 (by decide) rfl (by decide) ?_
    refine WP.iload_n 1 dX6_joined_218 rfl rfl ?_
    refine WP.if_ne (tgt := 226) dX6_joined_219 (by decide) (fun c9 => ?_) (fun c9 => ?_)
    · have h := h.1 c9
      refine WP.iconst (v := 1) dX6_joined_226 rfl ?_
      refine WP.goto (tgt := 231) dX6_joined_227 (by decide) ?_
      exact WP.iret dX6_joined_231 rfl (Nat.le_refl _) (Nat.le_refl _) ⟨_, rfl, h⟩
    · have h := h.2 c9
      refine WP.iload_n 2 dX6_joined_222 rfl rfl ?_
      refine WP.if_eq (tgt := 230) dX6_joined_223 (by decide) (fun c10 => ?_) (fun c10 => ?_)
      · have h := h.1 c10
        refine WP.iconst (v := 0) dX6_joined_230 rfl ?_
        exact WP.iret dX6_joined_231 rfl (Nat.le_refl _) (Nat.le_refl _) ⟨_, rfl, h⟩
      · have h := h.2 c10
        refine WP.iconst (v := 1) dX6_joined_226 rfl ?_
        refine WP.goto (tgt := 231) dX6_joined_227 (by decide) ?_
        exact WP.iret dX6_joined_231 rfl (Nat.le_refl _) (Nat.le_refl _) ⟨_, rfl, h⟩
  · have h := h.2.2.2.2.1 (i32_of c1 rfl)
    refine WP.tswI (td := 218) 3 dX6_joined_1 c1 (by decide) rfl (by decide) ?_
    refine WP.iload_n 1 dX6_joined_218 rfl rfl ?_
    refine WP.if_ne (tgt := 226) dX6_joined_219 (by decide) (fun c11 => ?_) (fun c11 => ?_)
    · have h := h.1 c11
      refine WP.iconst (v := 1) dX6_joined_226 rfl ?_
      refine WP.goto (tgt := 231) dX6_joined_227 (by decide) ?_
      exact WP.iret dX6_joined_231 rfl (Nat.le_refl _) (Nat.le_refl _) ⟨_, rfl, h⟩
    · have h := h.2 c11
      refine WP.iload_n 2 dX6_joined_222 rfl rfl ?_
      refine WP.if_eq (tgt := 230) dX6_joined_223 (by decide) (fun c12 => ?_) (fun c12 => ?_)
      · have h := h.1 c12
        refine WP.iconst (v := 0) dX6_joined_230 rfl ?_
        exact WP.iret dX6_joined_231 rfl (Nat.le_refl _) (Nat.le_refl _) ⟨_, rfl, h⟩
      · have h := h.2 c12
        refine WP.iconst (v := 1) dX6_joined_226 rfl ?_
        refine WP.goto (tgt := 231) dX6_joined_227 (by decide) ?_
        exact WP.iret dX6_joined_231 rfl (Nat.le_refl _) (Nat.le_refl _) ⟨_, rfl, h⟩
  · have h := h.2.2.2.2.2.1 (i32_of c1 rfl)
    refine WP.tswI (td := 218) 4 dX6_joined_1 c1 (by decide) rfl (by decide) ?_
    refine WP.iload_n 1 dX6_joined_218 rfl rfl ?_
    refine WP.if_ne (tgt := 226) dX6_joined_219 (by decide) (fun c13 => ?_) (fun c13 => ?_)
    · have h := h.1 c13
      refine WP.iconst (v := 1) dX6_joined_226 rfl ?_
      refine WP.goto (tgt := 231) dX6_joined_227 (by decide) ?_
      exact WP.iret dX6_joined_231 rfl (Nat.le_refl _) (Nat.le_refl _) ⟨_, rfl, h⟩
    · have h := h.2 c13
      refine WP.iload_n 2 dX6_joined_222 rfl rfl ?_
      refine WP.if_eq (tgt := 230) dX6_joined_223 (by decide) (fun c14 => ?_) (fun c14 => ?_)
      · have h := h.1 c14
        refine WP.iconst (v := 0) dX6_joined_230 rfl ?_
        exact WP.iret dX6_joined_231 rfl (Nat.le_refl _) (Nat.le_refl _) ⟨_, rfl, h⟩
      · have h := h.2 c14
        refine WP.iconst (v := 1) dX6_joined_226 rfl ?_
        refine WP.goto (tgt := 231) dX6_joined_227 (by decide) ?_
        exact WP.iret dX6_joined_231 rfl (Nat.le_refl _) (Nat.le_refl _) ⟨_, rfl, h⟩
  · have h := h.2.2.2.2.2.2.1 (i32_of c1 rfl)
    refine WP.tswI (td := 128) 5 dX6_joined_1 c1 (by decide) rfl (by decide) ?_
    refine WP.iload_n 1 dX6_joined_128 rfl rfl ?_
    refine WP.iload_n 2 dX6_joined_129 rfl rfl ?_
    refine WP.imul dX6_joined_130 ?_
    exact WP.iret dX6_joined_131 rfl (Nat.le_refl _) (Nat.le_refl _) ⟨_, rfl, h⟩
  · have h := h.2.2.2.2.2.2.2.1 (i32_of c1 rfl)
    refine WP.tswI (td := 120) 6 dX6_joined_1 c1 (by decide) rfl (by decide) ?_
    refine WP.iload_n 1 dX6_joined_120 rfl rfl ?_
    refine WP.iload_n 2 dX6_joined_121 rfl rfl ?_
    refine WP.iadd dX6_joined_122 ?_
    exact WP.iret dX6_joined_123 rfl (Nat.le_refl _) (Nat.le_refl _) ⟨_, rfl, h⟩
  · have h := h.2.2.2.2.2.2.2.2.1 (i32_of c1 rfl)
    refine WP.tswI (td := 218) 7 dX6_joined_1 c1 (by decide) rfl (by decide) ?_
    refine WP.iload_n 1 dX6_joined_218 rfl rfl ?_
    refine WP.if_ne (tgt := 226) dX6_joined_219 (by decide) (fun c15 => ?_) (fun c15 => ?_)
    · have h := h.1 c15
      refine WP.iconst (v := 1) dX6_joined_226 rfl ?_
      refine WP.goto (tgt := 231) dX6_joined_227 (by decide) ?_
      exact WP.iret dX6_joined_231 rfl (Nat.le_refl _) (Nat.le_refl _) ⟨_, rfl, h⟩
    · have h := h.2 c15
      refine WP.iload_n 2 dX6_joined_222 rfl rfl ?_
      refine WP.if_eq (tgt := 230) dX6_joined_223 (by decide) (fun c16 => ?_) (fun c16 => ?_)
      · have h := h.1 c16
        refine WP.iconst (v := 0) dX6_joined_230 rfl ?_
        exact WP.iret dX6_joined_231 rfl (Nat.le_refl _) (Nat.le_refl _) ⟨_, rfl, h⟩
      · have h := h.2 c16
        refine WP.iconst (v := 1) dX6_joined_226 rfl ?_
        refine WP.goto (tgt := 231) dX6_joined_227 (by decide) ?_
        exact WP.iret dX6_joined_231 rfl (Nat.le_refl _) (Nat.le_refl _) ⟨_, rfl, h⟩
  · have h := h.2.2.2.2.2.2.2.2.2.1 (i32_of c1 rfl)
    refine WP.tswI (td := 124) 8 dX6_joined_1 c1 (by decide) rfl (by decide) ?_
    refine WP.iload_n 1 dX6_joined_124 rfl rfl ?_
    refine WP.iload_n 2 dX6_joined_125 rfl rfl ?_
    refine WP.isub dX6_joined_126 ?_
    exact WP.iret dX6_joined_127 rfl (Nat.le_refl _) (Nat.le_refl _) ⟨_, rfl, h⟩
  · have h := h.2.2.2.2.2.2.2.2.2.2.1 (i32_of c1 rfl)
    refine WP.tswI (td := 218) 9 dX6_joined_1 c1 (by decide) rfl (by decide) ?_
    refine WP.iload_n 1 dX6_joined_218 rfl rfl ?_
    refine WP.if_ne (tgt := 226) dX6_joined_219 (by decide) (fun c17 => ?_) (fun c17 => ?_)
    · have h := h.1 c17
      refine WP.iconst (v := 1) dX6_joined_226 rfl ?_
      refine WP.goto (tgt := 231) dX6_joined_227 (by decide) ?_
      exact WP.iret dX6_joined_231 rfl (Nat.le_refl _) (Nat.le_refl _) ⟨_, rfl, h⟩
    · have h := h.2 c17
      refine WP.iload_n 2 dX6_joined_222 rfl rfl ?_
      refine WP.if_eq (tgt := 230) dX6_joined_223 (by decide) (fun c18 => ?_) (fun c18 => ?_)
      · have h := h.1 c18
        refine WP.iconst (v := 0) dX6_joined_230 rfl ?_
        exact WP.iret dX6_joined_231 rfl (Nat.le_refl _) (Nat.le_refl _) ⟨_, rfl, h⟩
      · have h := h.2 c18
        refine WP.iconst (v := 1) dX6_joined_226 rfl ?_
        refine WP.goto (tgt := 231) dX6_joined_227 (by decide) ?_
        exact WP.iret dX6_joined_231 rfl (Nat.le_refl _) (Nat.le_refl _) ⟨_, rfl, h⟩
  · have h := h.2.2.2.2.2.2.2.2.2.2.2.1 (i32_of c1 rfl)
    refine WP.tswI (td := 132) 10 dX6_joined_1 c1 (by decide) rfl (by decide) ?_
    refine WP.iload_n 2 dX6_joined_132 rfl rfl ?_
    refine WP.if_ne (tgt := 140) dX6_joined_133 (by decide) (fun c19 => ?_) (fun c19 => ?_)
    · have h := h.1 c19
      refine WP.iload_n 2 dX6_joined_140 rfl rfl ?_
      refine WP.iconst (v := (-1)) dX6_joined_141 rfl ?_
      refine WP.icmp_ne (tgt := 150) dX6_joined_142 (by decide) (fun c20 => ?_) (fun c20 => ?_)
      · have h := h.1 c20
        refine WP.iload_n 1 dX6_joined_150 rfl rfl ?_
        refine WP.iload_n 2 dX6_joined_151 rfl rfl ?_
        obtain ⟨h21, h⟩ := h
        refine WP.idiv dX6_joined_152 h21 ?_
        exact WP.iret dX6_joined_153 rfl (Nat.le_refl _) (Nat.le_refl _) ⟨_, rfl, h⟩
      · have h := h.2 c20
        refine WP.iload_n 1 dX6_joined_145 rfl rfl ?_
        refine WP.ineg dX6_joined_146 ?_
        refine WP.goto (tgt := 153) dX6_joined_147 (by decide) ?_
        exact WP.iret dX6_joined_153 rfl (Nat.le_refl _) (Nat.le_refl _) ⟨_, rfl, h⟩
    · have h := h.2 c19
      refine WP.iconst (v := 0) dX6_joined_136 rfl ?_
      refine WP.goto (tgt := 153) dX6_joined_137 (by decide) ?_
      exact WP.iret dX6_joined_153 rfl (Nat.le_refl _) (Nat.le_refl _) ⟨_, rfl, h⟩
  · have h := h.2.2.2.2.2.2.2.2.2.2.2.2.1 (i32_of c1 rfl)
    refine WP.tswI (td := 218) 11 dX6_joined_1 c1 (by decide) rfl (by decide) ?_
    refine WP.iload_n 1 dX6_joined_218 rfl rfl ?_
    refine WP.if_ne (tgt := 226) dX6_joined_219 (by decide) (fun c22 => ?_) (fun c22 => ?_)
    · have h := h.1 c22
      refine WP.iconst (v := 1) dX6_joined_226 rfl ?_
      refine WP.goto (tgt := 231) dX6_joined_227 (by decide) ?_
      exact WP.iret dX6_joined_231 rfl (Nat.le_refl _) (Nat.le_refl _) ⟨_, rfl, h⟩
    · have h := h.2 c22
      refine WP.iload_n 2 dX6_joined_222 rfl rfl ?_
      refine WP.if_eq (tgt := 230) dX6_joined_223 (by decide) (fun c23 => ?_) (fun c23 => ?_)
      · have h := h.1 c23
        refine WP.iconst (v := 0) dX6_joined_230 rfl ?_
        exact WP.iret dX6_joined_231 rfl (Nat.le_refl _) (Nat.le_refl _) ⟨_, rfl, h⟩
      · have h := h.2 c23
        refine WP.iconst (v := 1) dX6_joined_226 rfl ?_
        refine WP.goto (tgt := 231) dX6_joined_227 (by decide) ?_
        exact WP.iret dX6_joined_231 rfl (Nat.le_refl _) (Nat.le_refl _) ⟨_, rfl, h⟩
  · have h := h.2.2.2.2.2.2.2.2.2.2.2.2.2.1 (i32_of c1 rfl)
    refine WP.tswI (td := 218) 12 dX6_joined_1 c1 (by decide) rfl (by decide) ?_
    refine WP.iload_n 1 dX6_joined_218 rfl rfl ?_
    refine WP.if_ne (tgt := 226) dX6_joined_219 (by decide) (fun c24 => ?_) (fun c24 => ?_)
    · have h := h.1 c24
      refine WP.iconst (v := 1) dX6_joined_226 rfl ?_
      refine WP.goto (tgt := 231) dX6_joined_227 (by decide) ?_
      exact WP.iret dX6_joined_231 rfl (Nat.le_refl _) (Nat.le_refl _) ⟨_, rfl, h⟩
    · have h := h.2 c24
      refine WP.iload_n 2 dX6_joined_222 rfl rfl ?_
      refine WP.if_eq (tgt := 230) dX6_joined_223 (by decide) (fun c25 => ?_) (fun c25 => ?_)
      · have h := h.1 c25
        refine WP.iconst (v := 0) dX6_joined_230 rfl ?_
        exact WP.iret dX6_joined_231 rfl (Nat.le_refl _) (Nat.le_refl _) ⟨_, rfl, h⟩
      · have h := h.2 c25
        refine WP.iconst (v := 1) dX6_joined_226 rfl ?_
        refine WP.goto (tgt := 231) dX6_joined_227 (by decide) ?_
        exact WP.iret dX6_joined_231 rfl (Nat.le_refl _) (Nat.le_refl _) ⟨_, rfl, h⟩
  · have h := h.2.2.2.2.2.2.2.2.2.2.2.2.2.2.1 (i32_of c1 rfl)
    refine WP.tswI (td := 218) 13 dX6_joined_1 c1 (by decide) rfl (by decide) ?_
    refine WP.iload_n 1 dX6_joined_218 rfl rfl ?_
    refine WP.if_ne (tgt := 226) dX6_joined_219 (by decide) (fun c26 => ?_) (fun c26 => ?_)
    · have h := h.1 c26
      refine WP.iconst (v := 1) dX6_joined_226 rfl ?_
      refine WP.goto (tgt := 231) dX6_joined_227 (by decide) ?_
      exact WP.iret dX6_joined_231 rfl (Nat.le_refl _) (Nat.le_refl _) ⟨_, rfl, h⟩
    · have h := h.2 c26
      refine WP.iload_n 2 dX6_joined_222 rfl rfl ?_
      refine WP.if_eq (tgt := 230) dX6_joined_223 (by decide) (fun c27 => ?_) (fun c27 => ?_)
      · have h := h.1 c27
        refine WP.iconst (v := 0) dX6_joined_230 rfl ?_
        exact WP.iret dX6_joined_231 rfl (Nat.le_refl _) (Nat.le_refl _) ⟨_, rfl, h⟩
      · have h := h.2 c27
        refine WP.iconst (v := 1) dX6_joined_226 rfl ?_
        refine WP.goto (tgt := 231) dX6_joined_227 (by decide) ?_
        exact WP.iret dX6_joined_231 rfl (Nat.le_refl _) (Nat.le_refl _) ⟨_, rfl, h⟩
  · have h := h.2.2.2.2.2.2.2.2.2.2.2.2.2.2.2.1 (i32_of c1 rfl)
    refine WP.tswI (td := 218) 14 dX6_joined_1 c1 (by decide) rfl (by decide) ?_
    refine WP.iload_n 1 dX6_joined_218 rfl rfl ?_
    refine WP.if_ne (tgt := 226) dX6_joined_219 (by decide) (fun c28 => ?_) (fun c28 => ?_)
    · have h := h.1 c28
      refine WP.iconst (v := 1) dX6_joined_226 rfl ?_
      refine WP.goto (tgt := 231) dX6_joined_227 (by decide) ?_
      exact WP.iret dX6_joined_231 rfl (Nat.le_refl _) (Nat.le_refl _) ⟨_, rfl, h⟩
    · have h := h.2 c28
      refine WP.iload_n 2 dX6_joined_222 rfl rfl ?_
      refine WP.if_eq (tgt := 230) dX6_joined_223 (by decide) (fun c29 => ?_) (fun c29 => ?_)
      · have h := h.1 c29
        refine WP.iconst (v := 0) dX6_joined_230 rfl ?_
        exact WP.iret dX6_joined_231 rfl (Nat.le_refl _) (Nat.le_refl _) ⟨_, rfl, h⟩
      · have h := h.2 c29
        refine WP.iconst (v := 1) dX6_joined_226 rfl ?_
        refine WP.goto (tgt := 231) dX6_joined_227 (by decide) ?_
        exact WP.iret dX6_joined_231 rfl (Nat.le_refl _) (Nat.le_refl _) ⟨_, rfl, h⟩
  · have h := h.2.2.2.2.2.2.2.2.2.2.2.2.2.2.2.2.1 (i32_of c1 rfl)
    refine WP.tswI (td := 218) 15 dX6_joined_1 c1 (by decide) rfl (by decide) ?_
    refine WP.iload_n 1 dX6_joined_218 rfl rfl ?_
    refine WP.if_ne (tgt := 226) dX6_joined_219 (by decide) (fun c30 => ?_) (fun c30 => ?_)
    · have h := h.1 c30
      refine WP.iconst (v := 1) dX6_joined_226 rfl ?_
      refine WP.goto (tgt := 231) dX6_joined_227 (by decide) ?_
      exact WP.iret dX6_joined_231 rfl (Nat.le_refl _) (Nat.le_refl _) ⟨_, rfl, h⟩
    · have h := h.2 c30
      refine WP.iload_n 2 dX6_joined_222 rfl rfl ?_
      refine WP.if_eq (tgt := 230) dX6_joined_223 (by decide) (fun c31 => ?_) (fun c31 => ?_)
      · have h := h.1 c31
        refine WP.iconst (v := 0) dX6_joined_230 rfl ?_
        exact WP.iret dX6_joined_231 rfl (Nat.le_refl _) (Nat.le_refl _) ⟨_, rfl, h⟩
      · have h := h.2 c31
        refine WP.iconst (v := 1) dX6_joined_226 rfl ?_
        refine WP.goto (tgt := 231) dX6_joined_227 (by decide) ?_
        exact WP.iret dX6_joined_231 rfl (Nat.le_refl _) (Nat.le_refl _) ⟨_, rfl, h⟩
  · have h := h.2.2.2.2.2.2.2.2.2.2.2.2.2.2.2.2.2.1 (i32_of c1 rfl)
    refine WP.tswI (td := 218) 16 dX6_joined_1 c1 (by decide) rfl (by decide) ?_
    refine WP.iload_n 1 dX6_joined_218 rfl rfl ?_
    refine WP.if_ne (tgt := 226) dX6_joined_219 (by decide) (fun c32 => ?_) (fun c32 => ?_)
    · have h := h.1 c32
      refine WP.iconst (v := 1) dX6_joined_226 rfl ?_
      refine WP.goto (tgt := 231) dX6_joined_227 (by decide) ?_
      exact WP.iret dX6_joined_231 rfl (Nat.le_refl _) (Nat.le_refl _) ⟨_, rfl, h⟩
    · have h := h.2 c32
      refine WP.iload_n 2 dX6_joined_222 rfl rfl ?_
      refine WP.if_eq (tgt := 230) dX6_joined_223 (by decide) (fun c33 => ?_) (fun c33 => ?_)
      · have h := h.1 c33
        refine WP.iconst (v := 0) dX6_joined_230 rfl ?_
        exact WP.iret dX6_joined_231 rfl (Nat.le_refl _) (Nat.le_refl _) ⟨_, rfl, h⟩
      · have h := h.2 c33
        refine WP.iconst (v := 1) dX6_joined_226 rfl ?_
        refine WP.goto (tgt := 231) dX6_joined_227 (by decide) ?_
        exact WP.iret dX6_joined_231 rfl (Nat.le_refl _) (Nat.le_refl _) ⟨_, rfl, h⟩
  · have h := h.2.2.2.2.2.2.2.2.2.2.2.2.2.2.2.2.2.2.1 (i32_of c1 rfl)
    refine WP.tswI (td := 218) 17 dX6_joined_1 c1 (by decide) rfl (by decide) ?_
    refine WP.iload_n 1 dX6_joined_218 rfl rfl ?_
    refine WP.if_ne (tgt := 226) dX6_joined_219 (by decide) (fun c34 => ?_) (fun c34 => ?_)
    · have h := h.1 c34
      refine WP.iconst (v := 1) dX6_joined_226 rfl ?_
      refine WP.goto (tgt := 231) dX6_joined_227 (by decide) ?_
      exact WP.iret dX6_joined_231 rfl (Nat.le_refl _) (Nat.le_refl _) ⟨_, rfl, h⟩
    · have h := h.2 c34
      refine WP.iload_n 2 dX6_joined_222 rfl rfl ?_
      refine WP.if_eq (tgt := 230) dX6_joined_223 (by decide) (fun c35 => ?_) (fun c35 => ?_)
      · have h := h.1 c35
        refine WP.iconst (v := 0) dX6_joined_230 rfl ?_
        exact WP.iret dX6_joined_231 rfl (Nat.le_refl _) (Nat.le_refl _) ⟨_, rfl, h⟩
      · have h := h.2 c35
        refine WP.iconst (v := 1) dX6_joined_226 rfl ?_
        refine WP.goto (tgt := 231) dX6_joined_227 (by decide) ?_
        exact WP.iret dX6_joined_231 rfl (Nat.le_refl _) (Nat.le_refl _) ⟨_, rfl, h⟩
  · have h := h.2.2.2.2.2.2.2.2.2.2.2.2.2.2.2.2.2.2.2.1 (i32_of c1 rfl)
    refine WP.tswI (td := 218) 18 dX6_joined_1 c1 (by decide) rfl (by decide) ?_
    refine WP.iload_n 1 dX6_joined_218 rfl rfl ?_
    refine WP.if_ne (tgt := 226) dX6_joined_219 (by decide) (fun c36 => ?_) (fun c36 => ?_)
    · have h := h.1 c36
      refine WP.iconst (v := 1) dX6_joined_226 rfl ?_
      refine WP.goto (tgt := 231) dX6_joined_227 (by decide) ?_
      exact WP.iret dX6_joined_231 rfl (Nat.le_refl _) (Nat.le_refl _) ⟨_, rfl, h⟩
    · have h := h.2 c36
      refine WP.iload_n 2 dX6_joined_222 rfl rfl ?_
      refine WP.if_eq (tgt := 230) dX6_joined_223 (by decide) (fun c37 => ?_) (fun c37 => ?_)
      · have h := h.1 c37
        refine WP.iconst (v := 0) dX6_joined_230 rfl ?_
        exact WP.iret dX6_joined_231 rfl (Nat.le_refl _) (Nat.le_refl _) ⟨_, rfl, h⟩
      · have h := h.2 c37
        refine WP.iconst (v := 1) dX6_joined_226 rfl ?_
        refine WP.goto (tgt := 231) dX6_joined_227 (by decide) ?_
        exact WP.iret dX6_joined_231 rfl (Nat.le_refl _) (Nat.le_refl _) ⟨_, rfl, h⟩
  · have h := h.2.2.2.2.2.2.2.2.2.2.2.2.2.2.2.2.2.2.2.2.1 (i32_of c1 rfl)
    refine WP.tswI (td := 218) 19 dX6_joined_1 c1 (by decide) rfl (by decide) ?_
    refine WP.iload_n 1 dX6_joined_218 rfl rfl ?_
    refine WP.if_ne (tgt := 226) dX6_joined_219 (by decide) (fun c38 => ?_) (fun c38 => ?_)
    · have h := h.1 c38
      refine WP.iconst (v := 1) dX6_joined_226 rfl ?_
      refine WP.goto (tgt := 231) dX6_joined_227 (by decide) ?_
      exact WP.iret dX6_joined_231 rfl (Nat.le_refl _) (Nat.le_refl _) ⟨_, rfl, h⟩
    · have h := h.2 c38
      refine WP.iload_n 2 dX6_joined_222 rfl rfl ?_
      refine WP.if_eq (tgt := 230) dX6_joined_223 (by decide) (fun c39 => ?_) (fun c39 => ?_)
      · have h := h.1 c39
        refine WP.iconst (v := 0) dX6_joined_230 rfl ?_
        exact WP.iret dX6_joined_231 rfl (Nat.le_refl _) (Nat.le_refl _) ⟨_, rfl, h⟩
      · have h := h.2 c39
        refine WP.iconst (v := 1) dX6_joined_226 rfl ?_
        refine WP.goto (tgt := 231) dX6_joined_227 (by decide) ?_
        exact WP.iret dX6_joined_231 rfl (Nat.le_refl _) (Nat.le_refl _) ⟨_, rfl, h⟩
  · have h := h.2.2.2.2.2.2.2.2.2.2.2.2.2.2.2.2.2.2.2.2.2.1 (i32_of c1 rfl)
    refine WP.tswI (td := 218) 20 dX6_joined_1 c1 (by decide) rfl (by decide) ?_
    refine WP.iload_n 1 dX6_joined_218 rfl rfl ?_
    refine WP.if_ne (tgt := 226) dX6_joined_219 (by decide) (fun c40 => ?_) (fun c40 => ?_)
    · have h := h.1 c40
      refine WP.iconst (v := 1) dX6_joined_226 rfl ?_
      refine WP.goto (tgt := 231) dX6_joined_227 (by decide) ?_
      exact WP.iret dX6_joined_231 rfl (Nat.le_refl _) (Nat.le_refl _) ⟨_, rfl, h⟩
    · have h := h.2 c40
      refine WP.iload_n 2 dX6_joined_222 rfl rfl ?_
      refine WP.if_eq (tgt := 230) dX6_joined_223 (by decide) (fun c41 => ?_) (fun c41 => ?_)
      · have h := h.1 c41
        refine WP.iconst (v := 0) dX6_joined_230 rfl ?_
        exact WP.iret dX6_joined_231 rfl (Nat.le_refl _) (Nat.le_refl _) ⟨_, rfl, h⟩
      · have h := h.2 c41
        refine WP.iconst (v := 1) dX6_joined_226 rfl ?_
        refine WP.goto (tgt := 231) dX6_joined_227 (by decide) ?_
        exact WP.iret dX6_joined_231 rfl (Nat.le_refl _) (Nat.le_refl _) ⟨_, rfl, h⟩
  · have h := h.2.2.2.2.2.2.2.2.2.2.2.2.2.2.2.2.2.2.2.2.2.2.1 (i32_of c1 rfl)
    refine WP.tswI (td := 218) 21 dX6_joined_1 c1 (by decide) rfl (by decide) ?_
    refine WP.iload_n 1 dX6_joined_218 rfl rfl ?_
    refine WP.if_ne (tgt := 226) dX6_joined_219 (by decide) (fun c42 => ?_) (fun c42 => ?_)
    · have h := h.1 c42
      refine WP.iconst (v := 1) dX6_joined_226 rfl ?_
      refine WP.goto (tgt := 231) dX6_joined_227 (by decide) ?_
      exact WP.iret dX6_joined_231 rfl (Nat.le_refl _) (Nat.le_refl _) ⟨_, rfl, h⟩
    · have h := h.2 c42
      refine WP.iload_n 2 dX6_joined_222 rfl rfl ?_
      refine WP.if_eq (tgt := 230) dX6_joined_223 (by decide) (fun c43 => ?_) (fun c43 => ?_)
      · have h := h.1 c43
        refine WP.iconst (v := 0) dX6_joined_230 rfl ?_
        exact WP.iret dX6_joined_231 rfl (Nat.le_refl _) (Nat.le_refl _) ⟨_, rfl, h⟩
      · have h := h.2 c43
        refine WP.iconst (v := 1) dX6_joined_226 rfl ?_
        refine WP.goto (tgt := 231) dX6_joined_227 (by decide) ?_
        exact WP.iret dX6_joined_231 rfl (Nat.le_refl _) (Nat.le_refl _) ⟨_, rfl, h⟩
  · have h := h.2.2.2.2.2.2.2.2.2.2.2.2.2.2.2.2.2.2.2.2.2.2.2.1 (i32_of c1 rfl)
    refine WP.tswI (td := 218) 22 dX6_joined_1 c1 (by decide) rfl (by decide) ?_
    refine WP.iload_n 1 dX6_joined_218 rfl rfl ?_
    refine WP.if_ne (tgt := 226) dX6_joined_219 (by decide) (fun c44 => ?_) (fun c44 => ?_)
    · have h := h.1 c44
      refine WP.iconst (v := 1) dX6_joined_226 rfl ?_
      refine WP.goto (tgt := 231) dX6_joined_227 (by decide) ?_
      exact WP.iret dX6_joined_231 rfl (Nat.le_refl _) (Nat.le_refl _) ⟨_, rfl, h⟩
    · have h := h.2 c44
      refine WP.iload_n 2 dX6_joined_222 rfl rfl ?_
      refine WP.if_eq (tgt := 230) dX6_joined_223 (by decide) (fun c45 => ?_) (fun c45 => ?_)
      · have h := h.1 c45
        refine WP.iconst (v := 0) dX6_joined_230 rfl ?_
        exact WP.iret dX6_joined_231 rfl (Nat.le_refl _) (Nat.le_refl _) ⟨_, rfl, h⟩
      · have h := h.2 c45
        refine WP.iconst (v := 1) dX6_joined_226 rfl ?_
        refine WP.goto (tgt := 231) dX6_joined_227 (by decide) ?_
        exact WP.iret dX6_joined_231 rfl (Nat.le_refl _) (Nat.le_refl _) ⟨_, rfl, h⟩
  · have h := h.2.2.2.2.2.2.2.2.2.2.2.2.2.2.2.2.2.2.2.2.2.2.2.2.1 (i32_of c1 rfl)
    refine WP.tswI (td := 171) 23 dX6_joined_1 c1 (by decide) rfl (by decide) ?_
    refine WP.iload_n 1 dX6_joined_171 rfl rfl ?_
    refine WP.iload_n 2 dX6_joined_172 rfl rfl ?_
    refine WP.icmp_ge (tgt := 180) dX6_joined_173 (by decide) (fun c46 => ?_) (fun c46 => ?_)
    · have h := h.1 c46
      refine WP.iconst (v := 0) dX6_joined_180 rfl ?_
      exact WP.iret dX6_joined_181 rfl (Nat.le_refl _) (Nat.le_refl _) ⟨_, rfl, h⟩
    · have h := h.2 c46
      refine WP.iconst (v := 1) dX6_joined_176 rfl ?_
      refine WP.goto (tgt := 181) dX6_joined_177 (by decide) ?_
      exact WP.iret dX6_joined_181 rfl (Nat.le_refl _) (Nat.le_refl _) ⟨_, rfl, h⟩
  · have h := h.2.2.2.2.2.2.2.2.2.2.2.2.2.2.2.2.2.2.2.2.2.2.2.2.2.1 (i32_of c1 rfl)
    refine WP.tswI (td := 193) 24 dX6_joined_1 c1 (by decide) rfl (by decide) ?_
    refine WP.iload_n 1 dX6_joined_193 rfl rfl ?_
    refine WP.iload_n 2 dX6_joined_194 rfl rfl ?_
    refine WP.icmp_ne (tgt := 202) dX6_joined_195 (by decide) (fun c47 => ?_) (fun c47 => ?_)
    · have h := h.1 c47
      refine WP.iconst (v := 0) dX6_joined_202 rfl ?_
      exact WP.iret dX6_joined_203 rfl (Nat.le_refl _) (Nat.le_refl _) ⟨_, rfl, h⟩
    · have h := h.2 c47
      refine WP.iconst (v := 1) dX6_joined_198 rfl ?_
      refine WP.goto (tgt := 203) dX6_joined_199 (by decide) ?_
      exact WP.iret dX6_joined_203 rfl (Nat.le_refl _) (Nat.le_refl _) ⟨_, rfl, h⟩
  · have h := h.2.2.2.2.2.2.2.2.2.2.2.2.2.2.2.2.2.2.2.2.2.2.2.2.2.2 (i32_of c1 rfl)
    refine WP.tswI (td := 182) 25 dX6_joined_1 c1 (by decide) rfl (by decide) ?_
    refine WP.iload_n 1 dX6_joined_182 rfl rfl ?_
    refine WP.iload_n 2 dX6_joined_183 rfl rfl ?_
    refine WP.icmp_le (tgt := 191) dX6_joined_184 (by decide) (fun c48 => ?_) (fun c48 => ?_)
    · have h := h.1 c48
      refine WP.iconst (v := 0) dX6_joined_191 rfl ?_
      exact WP.iret dX6_joined_192 rfl (Nat.le_refl _) (Nat.le_refl _) ⟨_, rfl, h⟩
    · have h := h.2 c48
      refine WP.iconst (v := 1) dX6_joined_187 rfl ?_
      refine WP.goto (tgt := 192) dX6_joined_188 (by decide) ?_
      exact WP.iret dX6_joined_192 rfl (Nat.le_refl _) (Nat.le_refl _) ⟨_, rfl, h⟩
set_option maxHeartbeats 4000000 in
set_option maxRecDepth 20000 in
theorem rg_X6_worked_0 (hG : fl G = false) (b : Nat) (x1 : Int32) (h : WP G (rmD (d + 1) 0 0) mX6_worked (QC G sh ta K) 0 0 14 [(0, .ref b), (2, .int (168 + (125 * x1))), (3, .int 0), (4, .int 0)] [] (sh, ta, m)) : WP G (rmD (d + 1) 0 0) mX6_worked (QC G sh ta K) 0 0 0 [(0, .ref b), (1, .int x1)] [] (sh, ta, m) := by
  refine WP.sipush (v := 168) dX6_worked_0 rfl ?_
  refine WP.bipush (v := 125) dX6_worked_3 rfl ?_
  refine WP.iload_n 1 dX6_worked_5 rfl rfl ?_
  refine WP.imul dX6_worked_6 ?_
  refine WP.iadd dX6_worked_7 ?_
  refine WP.istore_n (lv2 := [(2, .int (168 + (125 * x1))), (0, .ref b), (1, .int x1)]) dX6_worked_8 rfl (by decide) rfl ?_
  refine WP.iconst (v := 0) dX6_worked_9 rfl ?_
  refine WP.istore_n (lv2 := [(3, .int 0), (2, .int (168 + (125 * x1))), (0, .ref b), (1, .int x1)]) dX6_worked_10 rfl (by decide) rfl ?_
  refine WP.iconst (v := 0) dX6_worked_11 rfl ?_
  refine WP.istore (lv2 := [(4, .int 0), (3, .int 0), (2, .int (168 + (125 * x1))), (0, .ref b), (1, .int x1)]) dX6_worked_12 (by decide) rfl ?_
  exact WP.pick [3, 2, 1, 0] rfl h
set_option maxHeartbeats 4000000 in
set_option maxRecDepth 20000 in
theorem rg_X6_worked_14 (hG : fl G = false) (b : Nat) (x2 : Int32) (x3 : Int32) (x4 : Int32) (h : sh[b]? = some (.inl 6) ∧ ∃ i2, ta b 0 = some i2 ∧ ∃ n5, sh[i2]? = some (.inr (0, n5)) ∧ InB x2 n5 ∧ (((rd (m i2) x2) ≤ x4 → ∃ i8, ta b 11 = some i8 ∧ ∃ n11, sh[i8]? = some (.inr (0, n11)) ∧ InB 0 n11 ∧ K (some (.int (rd (m i8) (0 : Int32)))) m) ∧ (¬ (rd (m i2) x2) ≤ x4 → InB ((x2 + 1) + (2 * x4)) n5 ∧ InB ((x2 + 2) + (2 * x4)) n5 ∧ (((rd (m i2) ((x2 + 1) + (2 * x4))) = 0 → ∃ i16, ta b 11 = some i16 ∧ ((¬ (rd (m i2) ((x2 + 1) + (2 * x4))) = 0 → ∃ i19, ta b 10 = some i19 ∧ ∃ n22, sh[i19]? = some (.inr (0, n22)) ∧ InB (rd (m i2) ((x2 + 2) + (2 * x4))) n22 ∧ ∃ n25, sh[i16]? = some (.inr (0, n25)) ∧ InB x3 n25 ∧ ∀ m27, m27 = upa m i16 x3 (rd (m i19) (rd (m i2) ((x2 + 2) + (2 * x4)))) → WP G (rmD (d + 1) 0 0) mX6_worked (QC G sh ta K) 0 0 14 [(0, .ref b), (2, .int x2), (3, .int (x3 + 1)), (4, .int (x4 + 1))] [] (sh, ta, m27)) ∧ ((rd (m i2) ((x2 + 1) + (2 * x4))) = 0 → ∃ n29, sh[i16]? = some (.inr (0, n29)) ∧ InB x3 n29 ∧ ∀ m31, m31 = upa m i16 x3 (rd (m i2) ((x2 + 2) + (2 * x4))) → WP G (rmD (d + 1) 0 0) mX6_worked (QC G sh ta K) 0 0 14 [(0, .ref b), (2, .int x2), (3, .int (x3 + 1)), (4, .int (x4 + 1))] [] (sh, ta, m31)))) ∧ (¬ (rd (m i2) ((x2 + 1) + (2 * x4))) = 0 → ((¬ (rd (m i2) ((x2 + 1) + (2 * x4))) = (1 : Int32) → ((¬ (rd (m i2) ((x2 + 1) + (2 * x4))) = (2 : Int32) → ∃ i34, ta b 11 = some i34 ∧ ∃ n37, sh[i34]? = some (.inr (0, n37)) ∧ InB ((x3 + (-1)) - 1) n37 ∧ InB (x3 + (-1)) n37 ∧ Cal G mX6_joined d [.int (rd (m i2) ((x2 + 2) + (2 * x4))), .int (rd (m i34) ((x3 + (-1)) - 1)), .int (rd (m i34) (x3 + (-1)))] sh ta m (fun v40 m41 => ∃ r42, v40 = some (.int r42) ∧ InB ((x3 + (-1)) - 1) n37 ∧ ∀ m45, m45 = upa m41 i34 ((x3 + (-1)) - 1) r42 → WP G (rmD (d + 1) 0 0) mX6_worked (QC G sh ta K) 0 0 14 [(0, .ref b), (2, .int x2), (3, .int (x3 + (-1))), (4, .int (x4 + 1))] [] (sh, ta, m45))) ∧ ((rd (m i2) ((x2 + 1) + (2 * x4))) = (2 : Int32) → ∃ i46, ta b 11 = some i46 ∧ ∃ n49, sh[i46]? = some (.inr (0, n49)) ∧ InB (x3 - 1) n49 ∧ ((¬ (rd (m i46) (x3 - 1)) = 0 → InB (x3 - 1) n49 ∧ ∀ m53, m53 = upa m i46 (x3 - 1) (0 : Int32) → WP G (rmD (d + 1) 0 0) mX6_worked (QC G sh ta K) 0 0 14 [(0, .ref b), (2, .int x2), (3, .int x3), (4, .int (x4 + 1))] [] (sh, ta, m53)) ∧ ((rd (m i46) (x3 - 1)) = 0 → InB (x3 - 1) n49 ∧ ∀ m55, m55 = upa m i46 (x3 - 1) (1 : Int32) → WP G (rmD (d + 1) 0 0) mX6_worked (QC G sh ta K) 0 0 14 [(0, .ref b), (2, .int x2), (3, .int x3), (4, .int (x4 + 1))] [] (sh, ta, m55)))))) ∧ ((rd (m i2) ((x2 + 1) + (2 * x4))) = (1 : Int32) → ∃ i56, ta b 11 = some i56 ∧ ((¬ (rd (m i2) ((x2 + 1) + (2 * x4))) = 0 → ∃ i59, ta b 10 = some i59 ∧ ∃ n62, sh[i59]? = some (.inr (0, n62)) ∧ InB (rd (m i2) ((x2 + 2) + (2 * x4))) n62 ∧ ∃ n65, sh[i56]? = some (.inr (0, n65)) ∧ InB x3 n65 ∧ ∀ m67, m67 = upa m i56 x3 (rd (m i59) (rd (m i2) ((x2 + 2) + (2 * x4)))) → WP G (rmD (d + 1) 0 0) mX6_worked (QC G sh ta K) 0 0 14 [(0, .ref b), (2, .int x2), (3, .int (x3 + 1)), (4, .int (x4 + 1))] [] (sh, ta, m67)) ∧ ((rd (m i2) ((x2 + 1) + (2 * x4))) = 0 → ∃ n69, sh[i56]? = some (.inr (0, n69)) ∧ InB x3 n69 ∧ ∀ m71, m71 = upa m i56 x3 (rd (m i2) ((x2 + 2) + (2 * x4))) → WP G (rmD (d + 1) 0 0) mX6_worked (QC G sh ta K) 0 0 14 [(0, .ref b), (2, .int x2), (3, .int (x3 + 1)), (4, .int (x4 + 1))] [] (sh, ta, m71)))))))))) : WP G (rmD (d + 1) 0 0) mX6_worked (QC G sh ta K) 0 0 14 [(0, .ref b), (2, .int x2), (3, .int x3), (4, .int x4)] [] (sh, ta, m) := by
  refine WP.iload 3 dX6_worked_14 rfl ?_
  refine WP.aload_n 0 dX6_worked_16 rfl rfl ?_
  obtain ⟨h1, h⟩ := h
  obtain ⟨i2, h3, h⟩ := h
  refine WP.getR 6 0 wf_X6_7 (by decide) (by decide) rfl h1 h3 dX6_worked_17 ?_
  refine WP.iload_n 1 dX6_worked_20 rfl rfl ?_
  obtain ⟨n5, h4, h⟩ := h
  obtain ⟨h6, h⟩ := h
  refine WP.iald h4 h6 dX6_worked_21 ?_
  refine WP.icmp_ge (tgt := 164) dX6_worked_22 (by decide) (fun c7 => ?_) (fun c7 => ?_)
  · have h := h.1 c7
    refine WP.aload_n 0 dX6_worked_164 rfl rfl ?_
    obtain ⟨i8, h9, h⟩ := h
    refine WP.getR 6 11 wf_X6_28 (by decide) (by decide) rfl h1 h9 dX6_worked_165 ?_
    refine WP.iconst (v := 0) dX6_worked_168 rfl ?_
    obtain ⟨n11, h10, h⟩ := h
    obtain ⟨h12, h⟩ := h
    refine WP.iald h10 h12 dX6_worked_169 ?_
    exact WP.iret dX6_worked_170 rfl (Nat.le_refl _) (Nat.le_refl _) ⟨_, rfl, h⟩
  · have h := h.2 c7
    refine WP.aload_n 0 dX6_worked_25 rfl rfl ?_
    refine WP.getR 6 0 wf_X6_7 (by decide) (by decide) rfl h1 h3 dX6_worked_26 ?_
    refine WP.iload_n 1 dX6_worked_29 rfl rfl ?_
    refine WP.iconst (v := 1) dX6_worked_30 rfl ?_
    refine WP.iadd dX6_worked_31 ?_
    refine WP.iconst (v := 2) dX6_worked_32 rfl ?_
    refine WP.iload 3 dX6_worked_33 rfl ?_
    refine WP.imul dX6_worked_35 ?_
    refine WP.iadd dX6_worked_36 ?_
    obtain ⟨h13, h⟩ := h
    refine WP.iald h4 h13 dX6_worked_37 ?_
    refine WP.istore (lv2 := [(5, .int (rd (m i2) ((x2 + 1) + (2 * x4)))), (0, .ref b), (2, .int x2), (3, .int x3), (4, .int x4)]) dX6_worked_38 (by decide) rfl ?_
    refine WP.aload_n 1 dX6_worked_40 rfl rfl ?_
    refine WP.getR 6 0 wf_X6_7 (by decide) (by decide) rfl h1 h3 dX6_worked_41 ?_
    refine WP.iload_n 2 dX6_worked_44 rfl rfl ?_
    refine WP.iconst (v := 2) dX6_worked_45 rfl ?_
    refine WP.iadd dX6_worked_46 ?_
    refine WP.iconst (v := 2) dX6_worked_47 rfl ?_
    refine WP.iload 4 dX6_worked_48 rfl ?_
    refine WP.imul dX6_worked_50 ?_
    refine WP.iadd dX6_worked_51 ?_
    obtain ⟨h14, h⟩ := h
    refine WP.iald h4 h14 dX6_worked_52 ?_
    refine WP.istore (lv2 := [(6, .int (rd (m i2) ((x2 + 2) + (2 * x4)))), (5, .int (rd (m i2) ((x2 + 1) + (2 * x4)))), (0, .ref b), (2, .int x2), (3, .int x3), (4, .int x4)]) dX6_worked_53 (by decide) rfl ?_
    refine WP.iload 1 dX6_worked_55 rfl ?_
    refine WP.if_eq (tgt := 66) dX6_worked_57 (by decide) (fun c15 => ?_) (fun c15 => ?_)
    · have h := h.1 c15
      refine WP.aload_n 2 dX6_worked_66 rfl rfl ?_
      obtain ⟨i16, h17, h⟩ := h
      refine WP.getR 6 11 wf_X6_28 (by decide) (by decide) rfl h1 h17 dX6_worked_67 ?_
      refine WP.iload_n 4 dX6_worked_70 rfl rfl ?_
      refine WP.iload 1 dX6_worked_71 rfl ?_
      refine WP.if_ne (tgt := 81) dX6_worked_73 (by decide) (fun c18 => ?_) (fun c18 => ?_)
      · have h := h.1 c18
        refine WP.aload_n 2 dX6_worked_81 rfl rfl ?_
        obtain ⟨i19, h20, h⟩ := h
        refine WP.getR 6 10 wf_X6_25 (by decide) (by decide) rfl h1 h20 dX6_worked_82 ?_
        refine WP.iload 0 dX6_worked_85 rfl ?_
        obtain ⟨n22, h21, h⟩ := h
        obtain ⟨h23, h⟩ := h
        refine WP.iald h21 h23 dX6_worked_87 ?_
        obtain ⟨n25, h24, h⟩ := h
        obtain ⟨h26, h⟩ := h
        have h := h _ rfl
        refine WP.iast h24 h26 dX6_worked_88 ?_
        generalize upa m i16 x3 (rd (m i19) (rd (m i2) ((x2 + 2) + (2 * x4)))) = m27 at h ⊢
        refine WP.iinc (lv2 := [(3, .int (x3 + 1)), (6, .int (rd (m i2) ((x2 + 2) + (2 * x4)))), (5, .int (rd (m i2) ((x2 + 1) + (2 * x4)))), (0, .ref b), (2, .int x2), (4, .int x4)]) 4 1 dX6_worked_89 rfl rfl (by decide) rfl ?_
        refine WP.goto (tgt := 158) dX6_worked_92 (by decide) ?_
        refine WP.iinc (lv2 := [(4, .int (x4 + 1)), (3, .int (x3 + 1)), (6, .int (rd (m i2) ((x2 + 2) + (2 * x4)))), (5, .int (rd (m i2) ((x2 + 1) + (2 * x4)))), (0, .ref b), (2, .int x2)]) 5 1 dX6_worked_158 rfl rfl (by decide) rfl ?_
        refine WP.goto (tgt := 14) dX6_worked_161 (by decide) ?_
        exact WP.pick [4, 5, 1, 0] rfl h
      · have h := h.2 c18
        refine WP.iload 0 dX6_worked_76 rfl ?_
        refine WP.goto (tgt := 88) dX6_worked_78 (by decide) ?_
        obtain ⟨n29, h28, h⟩ := h
        obtain ⟨h30, h⟩ := h
        have h := h _ rfl
        refine WP.iast h28 h30 dX6_worked_88 ?_
        generalize upa m i16 x3 (rd (m i2) ((x2 + 2) + (2 * x4))) = m31 at h ⊢
        refine WP.iinc (lv2 := [(3, .int (x3 + 1)), (6, .int (rd (m i2) ((x2 + 2) + (2 * x4)))), (5, .int (rd (m i2) ((x2 + 1) + (2 * x4)))), (0, .ref b), (2, .int x2), (4, .int x4)]) 4 1 dX6_worked_89 rfl rfl (by decide) rfl ?_
        refine WP.goto (tgt := 158) dX6_worked_92 (by decide) ?_
        refine WP.iinc (lv2 := [(4, .int (x4 + 1)), (3, .int (x3 + 1)), (6, .int (rd (m i2) ((x2 + 2) + (2 * x4)))), (5, .int (rd (m i2) ((x2 + 1) + (2 * x4)))), (0, .ref b), (2, .int x2)]) 5 1 dX6_worked_158 rfl rfl (by decide) rfl ?_
        refine WP.goto (tgt := 14) dX6_worked_161 (by decide) ?_
        exact WP.pick [4, 5, 1, 0] rfl h
    · have h := h.2 c15
      refine WP.iload 1 dX6_worked_60 rfl ?_
      refine WP.iconst (v := 1) dX6_worked_62 rfl ?_
      refine WP.icmp_ne (tgt := 95) dX6_worked_63 (by decide) (fun c32 => ?_) (fun c32 => ?_)
      · have h := h.1 c32
        refine WP.iload 1 dX6_worked_95 rfl ?_
        refine WP.iconst (v := 2) dX6_worked_97 rfl ?_
        refine WP.icmp_ne (tgt := 128) dX6_worked_98 (by decide) (fun c33 => ?_) (fun c33 => ?_)
        · have h := h.1 c33
          refine WP.iinc (lv2 := [(3, .int (x3 + (-1))), (6, .int (rd (m i2) ((x2 + 2) + (2 * x4)))), (5, .int (rd (m i2) ((x2 + 1) + (2 * x4)))), (0, .ref b), (2, .int x2), (4, .int x4)]) 4 (-1) dX6_worked_128 rfl rfl (by decide) rfl ?_
          refine WP.aload_n 3 dX6_worked_131 rfl rfl ?_
          obtain ⟨i34, h35, h⟩ := h
          refine WP.getR 6 11 wf_X6_28 (by decide) (by decide) rfl h1 h35 dX6_worked_132 ?_
          refine WP.iload_n 0 dX6_worked_135 rfl rfl ?_
          refine WP.iconst (v := 1) dX6_worked_136 rfl ?_
          refine WP.isub dX6_worked_137 ?_
          refine WP.iload 1 dX6_worked_138 rfl ?_
          refine WP.aload_n 3 dX6_worked_140 rfl rfl ?_
          refine WP.getR 6 11 wf_X6_28 (by decide) (by decide) rfl h1 h35 dX6_worked_141 ?_
          refine WP.iload_n 0 dX6_worked_144 rfl rfl ?_
          refine WP.iconst (v := 1) dX6_worked_145 rfl ?_
          refine WP.isub dX6_worked_146 ?_
          obtain ⟨n37, h36, h⟩ := h
          obtain ⟨h38, h⟩ := h
          refine WP.iald h36 h38 dX6_worked_147 ?_
          refine WP.aload_n 3 dX6_worked_148 rfl rfl ?_
          refine WP.getR 6 11 wf_X6_28 (by decide) (by decide) rfl h1 h35 dX6_worked_149 ?_
          refine WP.iload_n 0 dX6_worked_152 rfl rfl ?_
          obtain ⟨h39, h⟩ := h
          refine WP.iald h36 h39 dX6_worked_153 ?_
          refine WP.callS (y := mX6_joined) (As := [.int (rd (m i2) ((x2 + 2) + (2 * x4))), .int (rd (m i34) ((x3 + (-1)) - 1)), .int (rd (m i34) (x3 + (-1)))]) (st := [.int ((x3 + (-1)) - 1), .ref i34]) dX6_worked_154 wm_X6_123 mw_X6_joined rfl (Nat.le_of_ble_eq_true rfl) (rmok d) rfl h (fun v40 Sm41 h43 => ?_)
          obtain ⟨m41, rfl, r42, rfl, h⟩ := h43
          show WP G _ _ _ 0 0 157 [(3, .int (x3 + (-1))), (6, .int (rd (m i2) ((x2 + 2) + (2 * x4)))), (5, .int (rd (m i2) ((x2 + 1) + (2 * x4)))), (0, .ref b), (2, .int x2), (4, .int x4)] [.int r42, .int ((x3 + (-1)) - 1), .ref i34] (sh, ta, m41)
          obtain ⟨h44, h⟩ := h
          have h := h _ rfl
          refine WP.iast h36 h44 dX6_worked_157 ?_
          generalize upa m41 i34 ((x3 + (-1)) - 1) r42 = m45 at h ⊢
          refine WP.iinc (lv2 := [(4, .int (x4 + 1)), (3, .int (x3 + (-1))), (6, .int (rd (m i2) ((x2 + 2) + (2 * x4)))), (5, .int (rd (m i2) ((x2 + 1) + (2 * x4)))), (0, .ref b), (2, .int x2)]) 5 1 dX6_worked_158 rfl rfl (by decide) rfl ?_
          refine WP.goto (tgt := 14) dX6_worked_161 (by decide) ?_
          exact WP.pick [4, 5, 1, 0] rfl h
        · have h := h.2 c33
          refine WP.aload_n 2 dX6_worked_101 rfl rfl ?_
          obtain ⟨i46, h47, h⟩ := h
          refine WP.getR 6 11 wf_X6_28 (by decide) (by decide) rfl h1 h47 dX6_worked_102 ?_
          refine WP.iload_n 4 dX6_worked_105 rfl rfl ?_
          refine WP.iconst (v := 1) dX6_worked_106 rfl ?_
          refine WP.isub dX6_worked_107 ?_
          refine WP.aload_n 2 dX6_worked_108 rfl rfl ?_
          refine WP.getR 6 11 wf_X6_28 (by decide) (by decide) rfl h1 h47 dX6_worked_109 ?_
          refine WP.iload_n 4 dX6_worked_112 rfl rfl ?_
          refine WP.iconst (v := 1) dX6_worked_113 rfl ?_
          refine WP.isub dX6_worked_114 ?_
          obtain ⟨n49, h48, h⟩ := h
          obtain ⟨h50, h⟩ := h
          refine WP.iald h48 h50 dX6_worked_115 ?_
          refine WP.if_ne (tgt := 123) dX6_worked_116 (by decide) (fun c51 => ?_) (fun c51 => ?_)
          · have h := h.1 c51
            refine WP.iconst (v := 0) dX6_worked_123 rfl ?_
            obtain ⟨h52, h⟩ := h
            have h := h _ rfl
            refine WP.iast h48 h52 dX6_worked_124 ?_
            generalize upa m i46 (x3 - 1) (0 : Int32) = m53 at h ⊢
            refine WP.goto (tgt := 158) dX6_worked_125 (by decide) ?_
            refine WP.iinc (lv2 := [(4, .int (x4 + 1)), (6, .int (rd (m i2) ((x2 + 2) + (2 * x4)))), (5, .int (rd (m i2) ((x2 + 1) + (2 * x4)))), (0, .ref b), (2, .int x2), (3, .int x3)]) 5 1 dX6_worked_158 rfl rfl (by decide) rfl ?_
            refine WP.goto (tgt := 14) dX6_worked_161 (by decide) ?_
            exact WP.pick [3, 4, 5, 0] rfl h
          · have h := h.2 c51
            refine WP.iconst (v := 1) dX6_worked_119 rfl ?_
            refine WP.goto (tgt := 124) dX6_worked_120 (by decide) ?_
            obtain ⟨h54, h⟩ := h
            have h := h _ rfl
            refine WP.iast h48 h54 dX6_worked_124 ?_
            generalize upa m i46 (x3 - 1) (1 : Int32) = m55 at h ⊢
            refine WP.goto (tgt := 158) dX6_worked_125 (by decide) ?_
            refine WP.iinc (lv2 := [(4, .int (x4 + 1)), (6, .int (rd (m i2) ((x2 + 2) + (2 * x4)))), (5, .int (rd (m i2) ((x2 + 1) + (2 * x4)))), (0, .ref b), (2, .int x2), (3, .int x3)]) 5 1 dX6_worked_158 rfl rfl (by decide) rfl ?_
            refine WP.goto (tgt := 14) dX6_worked_161 (by decide) ?_
            exact WP.pick [3, 4, 5, 0] rfl h
      · have h := h.2 c32
        refine WP.aload_n 2 dX6_worked_66 rfl rfl ?_
        obtain ⟨i56, h57, h⟩ := h
        refine WP.getR 6 11 wf_X6_28 (by decide) (by decide) rfl h1 h57 dX6_worked_67 ?_
        refine WP.iload_n 4 dX6_worked_70 rfl rfl ?_
        refine WP.iload 1 dX6_worked_71 rfl ?_
        refine WP.if_ne (tgt := 81) dX6_worked_73 (by decide) (fun c58 => ?_) (fun c58 => ?_)
        · have h := h.1 c58
          refine WP.aload_n 2 dX6_worked_81 rfl rfl ?_
          obtain ⟨i59, h60, h⟩ := h
          refine WP.getR 6 10 wf_X6_25 (by decide) (by decide) rfl h1 h60 dX6_worked_82 ?_
          refine WP.iload 0 dX6_worked_85 rfl ?_
          obtain ⟨n62, h61, h⟩ := h
          obtain ⟨h63, h⟩ := h
          refine WP.iald h61 h63 dX6_worked_87 ?_
          obtain ⟨n65, h64, h⟩ := h
          obtain ⟨h66, h⟩ := h
          have h := h _ rfl
          refine WP.iast h64 h66 dX6_worked_88 ?_
          generalize upa m i56 x3 (rd (m i59) (rd (m i2) ((x2 + 2) + (2 * x4)))) = m67 at h ⊢
          refine WP.iinc (lv2 := [(3, .int (x3 + 1)), (6, .int (rd (m i2) ((x2 + 2) + (2 * x4)))), (5, .int (rd (m i2) ((x2 + 1) + (2 * x4)))), (0, .ref b), (2, .int x2), (4, .int x4)]) 4 1 dX6_worked_89 rfl rfl (by decide) rfl ?_
          refine WP.goto (tgt := 158) dX6_worked_92 (by decide) ?_
          refine WP.iinc (lv2 := [(4, .int (x4 + 1)), (3, .int (x3 + 1)), (6, .int (rd (m i2) ((x2 + 2) + (2 * x4)))), (5, .int (rd (m i2) ((x2 + 1) + (2 * x4)))), (0, .ref b), (2, .int x2)]) 5 1 dX6_worked_158 rfl rfl (by decide) rfl ?_
          refine WP.goto (tgt := 14) dX6_worked_161 (by decide) ?_
          exact WP.pick [4, 5, 1, 0] rfl h
        · have h := h.2 c58
          refine WP.iload 0 dX6_worked_76 rfl ?_
          refine WP.goto (tgt := 88) dX6_worked_78 (by decide) ?_
          obtain ⟨n69, h68, h⟩ := h
          obtain ⟨h70, h⟩ := h
          have h := h _ rfl
          refine WP.iast h68 h70 dX6_worked_88 ?_
          generalize upa m i56 x3 (rd (m i2) ((x2 + 2) + (2 * x4))) = m71 at h ⊢
          refine WP.iinc (lv2 := [(3, .int (x3 + 1)), (6, .int (rd (m i2) ((x2 + 2) + (2 * x4)))), (5, .int (rd (m i2) ((x2 + 1) + (2 * x4)))), (0, .ref b), (2, .int x2), (4, .int x4)]) 4 1 dX6_worked_89 rfl rfl (by decide) rfl ?_
          refine WP.goto (tgt := 158) dX6_worked_92 (by decide) ?_
          refine WP.iinc (lv2 := [(4, .int (x4 + 1)), (3, .int (x3 + 1)), (6, .int (rd (m i2) ((x2 + 2) + (2 * x4)))), (5, .int (rd (m i2) ((x2 + 1) + (2 * x4)))), (0, .ref b), (2, .int x2)]) 5 1 dX6_worked_158 rfl rfl (by decide) rfl ?_
          refine WP.goto (tgt := 14) dX6_worked_161 (by decide) ?_
          exact WP.pick [4, 5, 1, 0] rfl h
set_option maxHeartbeats 4000000 in
set_option maxRecDepth 20000 in
theorem rg_X6_needsTold_0 (hG : fl G = false) (b : Nat) (x1 : Int32) (h : sh[b]? = some (.inl 6) ∧ Cal G mX6_hasText d [.ref b, .int 0] sh ta m (fun v1 m2 => ∃ r3, v1 = some (.int r3) ∧ ((¬ r3 = 0 → Cal G mX6_its d [.ref b, .int x1, .int 3] sh ta m2 (fun v7 m8 => ∃ r9, v7 = some (.int r9) ∧ ((r9 < 0 → ∃ i12, ta b 10 = some i12 ∧ Cal G mX6_its d [.ref b, .int x1, .int 1] sh ta m8 (fun v14 m15 => ∃ r16, v14 = some (.int r16) ∧ ∃ n19, sh[i12]? = some (.inr (0, n19)) ∧ InB 109 n19 ∧ ∀ m21, m21 = upa m15 i12 (109 : Int32) r16 → InB 111 n19 ∧ ∀ m24, m24 = upa m21 i12 (111 : Int32) (0 : Int32) → InB 117 n19 ∧ ∀ m27, m27 = upa m24 i12 (117 : Int32) (0 : Int32) → Cal G mX6_its d [.ref b, .int x1, .int 3] sh ta m27 (fun v28 m29 => ∃ r30, v28 = some (.int r30) ∧ InB 99 n19 ∧ ∀ m33, m33 = upa m29 i12 (99 : Int32) r30 → Cal G mX6_worked d [.ref b, .int 0] sh ta m33 (fun v34 m35 => ∃ r36, v34 = some (.int r36) ∧ K (some (.int r36)) m35)))) ∧ (¬ r9 < 0 → ∃ i38, ta b 10 = some i38 ∧ Cal G mX6_its d [.ref b, .int x1, .int 1] sh ta m8 (fun v40 m41 => ∃ r42, v40 = some (.int r42) ∧ ∃ n45, sh[i38]? = some (.inr (0, n45)) ∧ InB 109 n45 ∧ ∀ m47, m47 = upa m41 i38 (109 : Int32) r42 → Cal G mX6_upon d [.ref b, .int x1] sh ta m47 (fun v49 m50 => ∃ r51, v49 = some (.int r51) ∧ InB 111 n45 ∧ ∀ m54, m54 = upa m50 i38 (111 : Int32) r51 → Cal G mX6_under d [.ref b, .int x1] sh ta m54 (fun v56 m57 => ∃ r58, v56 = some (.int r58) ∧ InB 117 n45 ∧ ∀ m61, m61 = upa m57 i38 (117 : Int32) r58 → Cal G mX6_its d [.ref b, .int x1, .int 3] sh ta m61 (fun v62 m63 => ∃ r64, v62 = some (.int r64) ∧ InB 99 n45 ∧ ∀ m67, m67 = upa m63 i38 (99 : Int32) r64 → Cal G mX6_worked d [.ref b, .int 0] sh ta m67 (fun v68 m69 => ∃ r70, v68 = some (.int r70) ∧ K (some (.int r70)) m69))))))))) ∧ (r3 = 0 → Cal G mX6_its d [.ref b, .int x1, .int 1] sh ta m2 (fun v72 m73 => ∃ r74, v72 = some (.int r74) ∧ K (some (.int (20 + r74))) m73))))) : WP G (rmD (d + 1) 0 0) mX6_needsTold (QC G sh ta K) 0 0 0 [(0, .ref b), (1, .int x1)] [] (sh, ta, m) := by
  refine WP.aload_n 0 dX6_needsTold_0 rfl rfl ?_
  refine WP.iconst (v := 0) dX6_needsTold_1 rfl ?_
  obtain ⟨h5, h⟩ := h
  refine WP.callV (y := mX6_hasText) (As := [.int 0]) (st := []) dX6_needsTold_2 wm_X6_120 mw_X6_hasText rfl (Nat.le_of_ble_eq_true rfl) (rmok d) h5 (by decide) rfl h (fun v1 Sm2 h4 => ?_)
  obtain ⟨m2, rfl, r3, rfl, h⟩ := h4
  show WP G _ _ _ 0 0 5 [(0, .ref b), (1, .int x1)] [.int r3] (sh, ta, m2)
  refine WP.if_ne (tgt := 18) dX6_needsTold_5 (by decide) (fun c6 => ?_) (fun c6 => ?_)
  · have h := h.1 c6
    refine WP.aload_n 0 dX6_needsTold_18 rfl rfl ?_
    refine WP.iload_n 1 dX6_needsTold_19 rfl rfl ?_
    refine WP.iconst (v := 3) dX6_needsTold_20 rfl ?_
    refine WP.callV (y := mX6_its) (As := [.int x1, .int 3]) (st := []) dX6_needsTold_21 wm_X6_62 mw_X6_its rfl (Nat.le_of_ble_eq_true rfl) (rmok d) h5 (by decide) rfl h (fun v7 Sm8 h10 => ?_)
    obtain ⟨m8, rfl, r9, rfl, h⟩ := h10
    show WP G _ _ _ 0 0 24 [(0, .ref b), (1, .int x1)] [.int r9] (sh, ta, m8)
    refine WP.if_lt (tgt := 31) dX6_needsTold_24 (by decide) (fun c11 => ?_) (fun c11 => ?_)
    · have h := h.1 c11
      refine WP.iconst (v := 0) dX6_needsTold_31 rfl ?_
      refine WP.istore_n (lv2 := [(2, .int 0), (0, .ref b), (1, .int x1)]) dX6_needsTold_32 rfl (by decide) rfl ?_
      refine WP.aload_n 1 dX6_needsTold_33 rfl rfl ?_
      obtain ⟨i12, h13, h⟩ := h
      refine WP.getR 6 10 wf_X6_25 (by decide) (by decide) rfl h5 h13 dX6_needsTold_34 ?_
      refine WP.bipush (v := 109) dX6_needsTold_37 rfl ?_
      refine WP.aload_n 1 dX6_needsTold_39 rfl rfl ?_
      refine WP.iload_n 2 dX6_needsTold_40 rfl rfl ?_
      refine WP.iconst (v := 1) dX6_needsTold_41 rfl ?_
      refine WP.callV (y := mX6_its) (As := [.int x1, .int 1]) (st := [.int 109, .ref i12]) dX6_needsTold_42 wm_X6_62 mw_X6_its rfl (Nat.le_of_ble_eq_true rfl) (rmok d) h5 (by decide) rfl h (fun v14 Sm15 h17 => ?_)
      obtain ⟨m15, rfl, r16, rfl, h⟩ := h17
      show WP G _ _ _ 0 0 45 [(2, .int 0), (0, .ref b), (1, .int x1)] [.int r16, .int 109, .ref i12] (sh, ta, m15)
      obtain ⟨n19, h18, h⟩ := h
      obtain ⟨h20, h⟩ := h
      have h := h _ rfl
      refine WP.iast h18 h20 dX6_needsTold_45 ?_
      generalize upa m15 i12 (109 : Int32) r16 = m21 at h ⊢
      refine WP.aload_n 1 dX6_needsTold_46 rfl rfl ?_
      refine WP.getR 6 10 wf_X6_25 (by decide) (by decide) rfl h5 h13 dX6_needsTold_47 ?_
      refine WP.bipush (v := 111) dX6_needsTold_50 rfl ?_
      refine WP.iload_n 0 dX6_needsTold_52 rfl rfl ?_
      refine WP.if_eq (tgt := 64) dX6_needsTold_53 (by decide) (fun _ => ?_) (fun c22 => absurd (by decide) c22)
      refine WP.iconst (v := 0) dX6_needsTold_64 rfl ?_
      obtain ⟨h23, h⟩ := h
      have h := h _ rfl
      refine WP.iast h18 h23 dX6_needsTold_65 ?_
      generalize upa m21 i12 (111 : Int32) (0 : Int32) = m24 at h ⊢
      refine WP.aload_n 1 dX6_needsTold_66 rfl rfl ?_
      refine WP.getR 6 10 wf_X6_25 (by decide) (by decide) rfl h5 h13 dX6_needsTold_67 ?_
      refine WP.bipush (v := 117) dX6_needsTold_70 rfl ?_
      refine WP.iload_n 0 dX6_needsTold_72 rfl rfl ?_
      refine WP.if_eq (tgt := 84) dX6_needsTold_73 (by decide) (fun _ => ?_) (fun c25 => absurd (by decide) c25)
      refine WP.iconst (v := 0) dX6_needsTold_84 rfl ?_
      obtain ⟨h26, h⟩ := h
      have h := h _ rfl
      refine WP.iast h18 h26 dX6_needsTold_85 ?_
      generalize upa m24 i12 (117 : Int32) (0 : Int32) = m27 at h ⊢
      refine WP.aload_n 1 dX6_needsTold_86 rfl rfl ?_
      refine WP.getR 6 10 wf_X6_25 (by decide) (by decide) rfl h5 h13 dX6_needsTold_87 ?_
      refine WP.bipush (v := 99) dX6_needsTold_90 rfl ?_
      refine WP.aload_n 1 dX6_needsTold_92 rfl rfl ?_
      refine WP.iload_n 2 dX6_needsTold_93 rfl rfl ?_
      refine WP.iconst (v := 3) dX6_needsTold_94 rfl ?_
      refine WP.callV (y := mX6_its) (As := [.int x1, .int 3]) (st := [.int 99, .ref i12]) dX6_needsTold_95 wm_X6_62 mw_X6_its rfl (Nat.le_of_ble_eq_true rfl) (rmok d) h5 (by decide) rfl h (fun v28 Sm29 h31 => ?_)
      obtain ⟨m29, rfl, r30, rfl, h⟩ := h31
      show WP G _ _ _ 0 0 98 [(2, .int 0), (0, .ref b), (1, .int x1)] [.int r30, .int 99, .ref i12] (sh, ta, m29)
      obtain ⟨h32, h⟩ := h
      have h := h _ rfl
      refine WP.iast h18 h32 dX6_needsTold_98 ?_
      generalize upa m29 i12 (99 : Int32) r30 = m33 at h ⊢
      refine WP.aload_n 1 dX6_needsTold_99 rfl rfl ?_
      refine WP.iconst (v := 0) dX6_needsTold_100 rfl ?_
      refine WP.callV (y := mX6_worked) (As := [.int 0]) (st := []) dX6_needsTold_101 wm_X6_133 mw_X6_worked rfl (Nat.le_of_ble_eq_true rfl) (rmok d) h5 (by decide) rfl h (fun v34 Sm35 h37 => ?_)
      obtain ⟨m35, rfl, r36, rfl, h⟩ := h37
      show WP G _ _ _ 0 0 104 [(2, .int 0), (0, .ref b), (1, .int x1)] [.int r36] (sh, ta, m35)
      exact WP.iret dX6_needsTold_104 rfl (Nat.le_refl _) (Nat.le_refl _) ⟨_, rfl, h⟩
    · have h := h.2 c11
      refine WP.iconst (v := 1) dX6_needsTold_27 rfl ?_
      refine WP.goto (tgt := 32) dX6_needsTold_28 (by decide) ?_
      refine WP.istore_n (lv2 := [(2, .int 1), (0, .ref b), (1, .int x1)]) dX6_needsTold_32 rfl (by decide) rfl ?_
      refine WP.aload_n 1 dX6_needsTold_33 rfl rfl ?_
      obtain ⟨i38, h39, h⟩ := h
      refine WP.getR 6 10 wf_X6_25 (by decide) (by decide) rfl h5 h39 dX6_needsTold_34 ?_
      refine WP.bipush (v := 109) dX6_needsTold_37 rfl ?_
      refine WP.aload_n 1 dX6_needsTold_39 rfl rfl ?_
      refine WP.iload_n 2 dX6_needsTold_40 rfl rfl ?_
      refine WP.iconst (v := 1) dX6_needsTold_41 rfl ?_
      refine WP.callV (y := mX6_its) (As := [.int x1, .int 1]) (st := [.int 109, .ref i38]) dX6_needsTold_42 wm_X6_62 mw_X6_its rfl (Nat.le_of_ble_eq_true rfl) (rmok d) h5 (by decide) rfl h (fun v40 Sm41 h43 => ?_)
      obtain ⟨m41, rfl, r42, rfl, h⟩ := h43
      show WP G _ _ _ 0 0 45 [(2, .int 1), (0, .ref b), (1, .int x1)] [.int r42, .int 109, .ref i38] (sh, ta, m41)
      obtain ⟨n45, h44, h⟩ := h
      obtain ⟨h46, h⟩ := h
      have h := h _ rfl
      refine WP.iast h44 h46 dX6_needsTold_45 ?_
      generalize upa m41 i38 (109 : Int32) r42 = m47 at h ⊢
      refine WP.aload_n 1 dX6_needsTold_46 rfl rfl ?_
      refine WP.getR 6 10 wf_X6_25 (by decide) (by decide) rfl h5 h39 dX6_needsTold_47 ?_
      refine WP.bipush (v := 111) dX6_needsTold_50 rfl ?_
      refine WP.iload_n 0 dX6_needsTold_52 rfl rfl ?_
      refine WP.if_eq (tgt := 64) dX6_needsTold_53 (by decide) (fun c48 => absurd c48 (by decide)) (fun _ => ?_)
      refine WP.aload_n 1 dX6_needsTold_56 rfl rfl ?_
      refine WP.iload_n 2 dX6_needsTold_57 rfl rfl ?_
      refine WP.callV (y := mX6_upon) (As := [.int x1]) (st := [.int 111, .ref i38]) dX6_needsTold_58 wm_X6_127 mw_X6_upon rfl (Nat.le_of_ble_eq_true rfl) (rmok d) h5 (by decide) rfl h (fun v49 Sm50 h52 => ?_)
      obtain ⟨m50, rfl, r51, rfl, h⟩ := h52
      show WP G _ _ _ 0 0 61 [(2, .int 1), (0, .ref b), (1, .int x1)] [.int r51, .int 111, .ref i38] (sh, ta, m50)
      refine WP.goto (tgt := 65) dX6_needsTold_61 (by decide) ?_
      obtain ⟨h53, h⟩ := h
      have h := h _ rfl
      refine WP.iast h44 h53 dX6_needsTold_65 ?_
      generalize upa m50 i38 (111 : Int32) r51 = m54 at h ⊢
      refine WP.aload_n 1 dX6_needsTold_66 rfl rfl ?_
      refine WP.getR 6 10 wf_X6_25 (by decide) (by decide) rfl h5 h39 dX6_needsTold_67 ?_
      refine WP.bipush (v := 117) dX6_needsTold_70 rfl ?_
      refine WP.iload_n 0 dX6_needsTold_72 rfl rfl ?_
      refine WP.if_eq (tgt := 84) dX6_needsTold_73 (by decide) (fun c55 => absurd c55 (by decide)) (fun _ => ?_)
      refine WP.aload_n 1 dX6_needsTold_76 rfl rfl ?_
      refine WP.iload_n 2 dX6_needsTold_77 rfl rfl ?_
      refine WP.callV (y := mX6_under) (As := [.int x1]) (st := [.int 117, .ref i38]) dX6_needsTold_78 wm_X6_130 mw_X6_under rfl (Nat.le_of_ble_eq_true rfl) (rmok d) h5 (by decide) rfl h (fun v56 Sm57 h59 => ?_)
      obtain ⟨m57, rfl, r58, rfl, h⟩ := h59
      show WP G _ _ _ 0 0 81 [(2, .int 1), (0, .ref b), (1, .int x1)] [.int r58, .int 117, .ref i38] (sh, ta, m57)
      refine WP.goto (tgt := 85) dX6_needsTold_81 (by decide) ?_
      obtain ⟨h60, h⟩ := h
      have h := h _ rfl
      refine WP.iast h44 h60 dX6_needsTold_85 ?_
      generalize upa m57 i38 (117 : Int32) r58 = m61 at h ⊢
      refine WP.aload_n 1 dX6_needsTold_86 rfl rfl ?_
      refine WP.getR 6 10 wf_X6_25 (by decide) (by decide) rfl h5 h39 dX6_needsTold_87 ?_
      refine WP.bipush (v := 99) dX6_needsTold_90 rfl ?_
      refine WP.aload_n 1 dX6_needsTold_92 rfl rfl ?_
      refine WP.iload_n 2 dX6_needsTold_93 rfl rfl ?_
      refine WP.iconst (v := 3) dX6_needsTold_94 rfl ?_
      refine WP.callV (y := mX6_its) (As := [.int x1, .int 3]) (st := [.int 99, .ref i38]) dX6_needsTold_95 wm_X6_62 mw_X6_its rfl (Nat.le_of_ble_eq_true rfl) (rmok d) h5 (by decide) rfl h (fun v62 Sm63 h65 => ?_)
      obtain ⟨m63, rfl, r64, rfl, h⟩ := h65
      show WP G _ _ _ 0 0 98 [(2, .int 1), (0, .ref b), (1, .int x1)] [.int r64, .int 99, .ref i38] (sh, ta, m63)
      obtain ⟨h66, h⟩ := h
      have h := h _ rfl
      refine WP.iast h44 h66 dX6_needsTold_98 ?_
      generalize upa m63 i38 (99 : Int32) r64 = m67 at h ⊢
      refine WP.aload_n 1 dX6_needsTold_99 rfl rfl ?_
      refine WP.iconst (v := 0) dX6_needsTold_100 rfl ?_
      refine WP.callV (y := mX6_worked) (As := [.int 0]) (st := []) dX6_needsTold_101 wm_X6_133 mw_X6_worked rfl (Nat.le_of_ble_eq_true rfl) (rmok d) h5 (by decide) rfl h (fun v68 Sm69 h71 => ?_)
      obtain ⟨m69, rfl, r70, rfl, h⟩ := h71
      show WP G _ _ _ 0 0 104 [(2, .int 1), (0, .ref b), (1, .int x1)] [.int r70] (sh, ta, m69)
      exact WP.iret dX6_needsTold_104 rfl (Nat.le_refl _) (Nat.le_refl _) ⟨_, rfl, h⟩
  · have h := h.2 c6
    refine WP.bipush (v := 20) dX6_needsTold_8 rfl ?_
    refine WP.aload_n 0 dX6_needsTold_10 rfl rfl ?_
    refine WP.iload_n 1 dX6_needsTold_11 rfl rfl ?_
    refine WP.iconst (v := 1) dX6_needsTold_12 rfl ?_
    refine WP.callV (y := mX6_its) (As := [.int x1, .int 1]) (st := [.int 20]) dX6_needsTold_13 wm_X6_62 mw_X6_its rfl (Nat.le_of_ble_eq_true rfl) (rmok d) h5 (by decide) rfl h (fun v72 Sm73 h75 => ?_)
    obtain ⟨m73, rfl, r74, rfl, h⟩ := h75
    show WP G _ _ _ 0 0 16 [(0, .ref b), (1, .int x1)] [.int r74, .int 20] (sh, ta, m73)
    refine WP.iadd dX6_needsTold_16 ?_
    exact WP.iret dX6_needsTold_17 rfl (Nat.le_refl _) (Nat.le_refl _) ⟨_, rfl, h⟩
set_option maxHeartbeats 4000000 in
set_option maxRecDepth 20000 in
theorem rg_X6_needs_0 (hG : fl G = false) (b : Nat) (x1 : Int32) (h : sh[b]? = some (.inl 6) ∧ Cal G mX6_its d [.ref b, .int x1, .int 1] sh ta m (fun v1 m2 => ∃ r3, v1 = some (.int r3) ∧ Cal G mX6_its d [.ref b, .int x1, .int 0] sh ta m2 (fun v6 m7 => ∃ r8, v6 = some (.int r8) ∧ (((r8.toInt < 1 ∨ 6 < r8.toInt) → Cal G mX6_held d [.int (20 + r3), .int 1, .int 99] sh ta m7 (fun v11 m12 => ∃ r13, v11 = some (.int r13) ∧ K (some (.int r13)) m12)) ∧ (r8 = 1 → Cal G mX6_held d [.int ((20 + r3) + 10), .int 1, .int 99] sh ta m7 (fun v15 m16 => ∃ r17, v15 = some (.int r17) ∧ K (some (.int r17)) m16)) ∧ (r8 = 2 → Cal G mX6_held d [.int ((20 + r3) - 8), .int 1, .int 99] sh ta m7 (fun v19 m20 => ∃ r21, v19 = some (.int r21) ∧ K (some (.int r21)) m20)) ∧ (r8 = 3 → Cal G mX6_held d [.int (2 * (20 + r3)), .int 1, .int 99] sh ta m7 (fun v23 m24 => ∃ r25, v23 = some (.int r25) ∧ K (some (.int r25)) m24)) ∧ (r8 = 4 → Cal G mX6_held d [.int (((20 + r3) + 10) + r3), .int 1, .int 99] sh ta m7 (fun v27 m28 => ∃ r29, v27 = some (.int r29) ∧ K (some (.int r29)) m28)) ∧ (r8 = 5 → Cal G mX6_its d [.ref b, .int x1, .int 3] sh ta m7 (fun v31 m32 => ∃ r33, v31 = some (.int r33) ∧ ((0 ≤ r33 → Cal G mX6_upon d [.ref b, .int x1] sh ta m32 (fun v36 m37 => ∃ r38, v36 = some (.int r38) ∧ Cal G mX6_held d [.int (((20 + r3) - 8) + (2 * r38)), .int 1, .int 99] sh ta m37 (fun v40 m41 => ∃ r42, v40 = some (.int r42) ∧ K (some (.int r42)) m41))) ∧ (¬ 0 ≤ r33 → Cal G mX6_held d [.int (((20 + r3) - 8) + (2 * 0)), .int 1, .int 99] sh ta m32 (fun v44 m45 => ∃ r46, v44 = some (.int r46) ∧ K (some (.int r46)) m45))))) ∧ (r8 = 6 → Cal G mX6_needsTold d [.ref b, .int x1] sh ta m7 (fun v48 m49 => ∃ r50, v48 = some (.int r50) ∧ Cal G mX6_held d [.int r50, .int 1, .int 99] sh ta m49 (fun v52 m53 => ∃ r54, v52 = some (.int r54) ∧ K (some (.int r54)) m53))))))) : WP G (rmD (d + 1) 0 0) mX6_needs (QC G sh ta K) 0 0 0 [(0, .ref b), (1, .int x1)] [] (sh, ta, m) := by
  refine WP.aload_n 0 dX6_needs_0 rfl rfl ?_
  refine WP.iload_n 1 dX6_needs_1 rfl rfl ?_
  refine WP.iconst (v := 1) dX6_needs_2 rfl ?_
  obtain ⟨h5, h⟩ := h
  refine WP.callV (y := mX6_its) (As := [.int x1, .int 1]) (st := []) dX6_needs_3 wm_X6_62 mw_X6_its rfl (Nat.le_of_ble_eq_true rfl) (rmok d) h5 (by decide) rfl h (fun v1 Sm2 h4 => ?_)
  obtain ⟨m2, rfl, r3, rfl, h⟩ := h4
  show WP G _ _ _ 0 0 6 [(0, .ref b), (1, .int x1)] [.int r3] (sh, ta, m2)
  refine WP.istore_n (lv2 := [(2, .int r3), (0, .ref b), (1, .int x1)]) dX6_needs_6 rfl (by decide) rfl ?_
  refine WP.bipush (v := 20) dX6_needs_7 rfl ?_
  refine WP.iload_n 0 dX6_needs_9 rfl rfl ?_
  refine WP.iadd dX6_needs_10 ?_
  refine WP.istore_n (lv2 := [(3, .int (20 + r3)), (2, .int r3), (0, .ref b), (1, .int x1)]) dX6_needs_11 rfl (by decide) rfl ?_
  refine WP.iload_n 0 dX6_needs_12 rfl rfl ?_
  refine WP.istore (lv2 := [(4, .int (20 + r3)), (3, .int (20 + r3)), (2, .int r3), (0, .ref b), (1, .int x1)]) dX6_needs_13 (by decide) rfl ?_
  refine WP.aload_n 3 dX6_needs_15 rfl rfl ?_
  refine WP.iload_n 4 dX6_needs_16 rfl rfl ?_
  refine WP.iconst (v := 0) dX6_needs_17 rfl ?_
  refine WP.callV (y := mX6_its) (As := [.int x1, .int 0]) (st := []) dX6_needs_18 wm_X6_62 mw_X6_its rfl (Nat.le_of_ble_eq_true rfl) (rmok d) h5 (by decide) rfl h (fun v6 Sm7 h9 => ?_)
  obtain ⟨m7, rfl, r8, rfl, h⟩ := h9
  show WP G _ _ _ 0 0 21 [(4, .int (20 + r3)), (3, .int (20 + r3)), (2, .int r3), (0, .ref b), (1, .int x1)] [.int r8] (sh, ta, m7)
  by_cases c10 : (r8 : Int32).toInt < 1 ∨ 6 < (r8 : Int32).toInt
  · have h := h.1 c10
    refine WP.tswO (td := 137) dX6_needs_21 c10 (by decide) ?_
    refine WP.iload 0 dX6_needs_137 rfl ?_
    refine WP.iconst (v := 1) dX6_needs_139 rfl ?_
    refine WP.bipush (v := 99) dX6_needs_140 rfl ?_
    refine WP.callS (y := mX6_held) (As := [.int (20 + r3), .int 1, .int 99]) (st := []) dX6_needs_142 wm_X6_139 mw_X6_held rfl (Nat.le_of_ble_eq_true rfl) (rmok d) rfl h (fun v11 Sm12 h14 => ?_)
    obtain ⟨m12, rfl, r13, rfl, h⟩ := h14
    show WP G _ _ _ 0 0 145 [(4, .int (20 + r3)), (3, .int (20 + r3)), (2, .int r3), (0, .ref b), (1, .int x1)] [.int r13] (sh, ta, m12)
    exact WP.iret dX6_needs_145 rfl (Nat.le_refl _) (Nat.le_refl _) ⟨_, rfl, h⟩
  rcases (show (r8 : Int32).toInt = 1 ∨ (r8 : Int32).toInt = 2 ∨ (r8 : Int32).toInt = 3 ∨ (r8 : Int32).toInt = 4 ∨ (r8 : Int32).toInt = 5 ∨ (r8 : Int32).toInt = 6 by omega) with c10 | c10 | c10 | c10 | c10 | c10
  · have h := h.2.1 (i32_of c10 rfl)
    refine WP.tswI (td := 60) 0 dX6_needs_21 c10 (by decide) rfl (by decide) ?_
    refine WP.iload_n 1 dX6_needs_60 rfl rfl ?_
    refine WP.bipush (v := 10) dX6_needs_61 rfl ?_
    refine WP.iadd dX6_needs_63 ?_
    refine WP.istore (lv2 := [(4, .int ((20 + r3) + 10)), (3, .int (20 + r3)), (2, .int r3), (0, .ref b), (1, .int x1)]) dX6_needs_64 (by decide) rfl ?_
    refine WP.goto (tgt := 137) dX6_needs_66 (by decide) ?_
    refine WP.iload 0 dX6_needs_137 rfl ?_
    refine WP.iconst (v := 1) dX6_needs_139 rfl ?_
    refine WP.bipush (v := 99) dX6_needs_140 rfl ?_
    refine WP.callS (y := mX6_held) (As := [.int ((20 + r3) + 10), .int 1, .int 99]) (st := []) dX6_needs_142 wm_X6_139 mw_X6_held rfl (Nat.le_of_ble_eq_true rfl) (rmok d) rfl h (fun v15 Sm16 h18 => ?_)
    obtain ⟨m16, rfl, r17, rfl, h⟩ := h18
    show WP G _ _ _ 0 0 145 [(4, .int ((20 + r3) + 10)), (3, .int (20 + r3)), (2, .int r3), (0, .ref b), (1, .int x1)] [.int r17] (sh, ta, m16)
    exact WP.iret dX6_needs_145 rfl (Nat.le_refl _) (Nat.le_refl _) ⟨_, rfl, h⟩
  · have h := h.2.2.1 (i32_of c10 rfl)
    refine WP.tswI (td := 69) 1 dX6_needs_21 c10 (by decide) rfl (by decide) ?_
    refine WP.iload_n 1 dX6_needs_69 rfl rfl ?_
    refine WP.bipush (v := 8) dX6_needs_70 rfl ?_
    refine WP.isub dX6_needs_72 ?_
    refine WP.istore (lv2 := [(4, .int ((20 + r3) - 8)), (3, .int (20 + r3)), (2, .int r3), (0, .ref b), (1, .int x1)]) dX6_needs_73 (by decide) rfl ?_
    refine WP.goto (tgt := 137) dX6_needs_75 (by decide) ?_
    refine WP.iload 0 dX6_needs_137 rfl ?_
    refine WP.iconst (v := 1) dX6_needs_139 rfl ?_
    refine WP.bipush (v := 99) dX6_needs_140 rfl ?_
    refine WP.callS (y := mX6_held) (As := [.int ((20 + r3) - 8), .int 1, .int 99]) (st := []) dX6_needs_142 wm_X6_139 mw_X6_held rfl (Nat.le_of_ble_eq_true rfl) (rmok d) rfl h (fun v19 Sm20 h22 => ?_)
    obtain ⟨m20, rfl, r21, rfl, h⟩ := h22
    show WP G _ _ _ 0 0 145 [(4, .int ((20 + r3) - 8)), (3, .int (20 + r3)), (2, .int r3), (0, .ref b), (1, .int x1)] [.int r21] (sh, ta, m20)
    exact WP.iret dX6_needs_145 rfl (Nat.le_refl _) (Nat.le_refl _) ⟨_, rfl, h⟩
  · have h := h.2.2.2.1 (i32_of c10 rfl)
    refine WP.tswI (td := 78) 2 dX6_needs_21 c10 (by decide) rfl (by decide) ?_
    refine WP.iconst (v := 2) dX6_needs_78 rfl ?_
    refine WP.iload_n 1 dX6_needs_79 rfl rfl ?_
    refine WP.imul dX6_needs_80 ?_
    refine WP.istore (lv2 := [(4, .int (2 * (20 + r3))), (3, .int (20 + r3)), (2, .int r3), (0, .ref b), (1, .int x1)]) dX6_needs_81 (by decide) rfl ?_
    refine WP.goto (tgt := 137) dX6_needs_83 (by decide) ?_
    refine WP.iload 0 dX6_needs_137 rfl ?_
    refine WP.iconst (v := 1) dX6_needs_139 rfl ?_
    refine WP.bipush (v := 99) dX6_needs_140 rfl ?_
    refine WP.callS (y := mX6_held) (As := [.int (2 * (20 + r3)), .int 1, .int 99]) (st := []) dX6_needs_142 wm_X6_139 mw_X6_held rfl (Nat.le_of_ble_eq_true rfl) (rmok d) rfl h (fun v23 Sm24 h26 => ?_)
    obtain ⟨m24, rfl, r25, rfl, h⟩ := h26
    show WP G _ _ _ 0 0 145 [(4, .int (2 * (20 + r3))), (3, .int (20 + r3)), (2, .int r3), (0, .ref b), (1, .int x1)] [.int r25] (sh, ta, m24)
    exact WP.iret dX6_needs_145 rfl (Nat.le_refl _) (Nat.le_refl _) ⟨_, rfl, h⟩
  · have h := h.2.2.2.2.1 (i32_of c10 rfl)
    refine WP.tswI (td := 86) 3 dX6_needs_21 c10 (by decide) rfl (by decide) ?_
    refine WP.iload_n 1 dX6_needs_86 rfl rfl ?_
    refine WP.bipush (v := 10) dX6_needs_87 rfl ?_
    refine WP.iadd dX6_needs_89 ?_
    refine WP.iload_n 2 dX6_needs_90 rfl rfl ?_
    refine WP.iadd dX6_needs_91 ?_
    refine WP.istore (lv2 := [(4, .int (((20 + r3) + 10) + r3)), (3, .int (20 + r3)), (2, .int r3), (0, .ref b), (1, .int x1)]) dX6_needs_92 (by decide) rfl ?_
    refine WP.goto (tgt := 137) dX6_needs_94 (by decide) ?_
    refine WP.iload 0 dX6_needs_137 rfl ?_
    refine WP.iconst (v := 1) dX6_needs_139 rfl ?_
    refine WP.bipush (v := 99) dX6_needs_140 rfl ?_
    refine WP.callS (y := mX6_held) (As := [.int (((20 + r3) + 10) + r3), .int 1, .int 99]) (st := []) dX6_needs_142 wm_X6_139 mw_X6_held rfl (Nat.le_of_ble_eq_true rfl) (rmok d) rfl h (fun v27 Sm28 h30 => ?_)
    obtain ⟨m28, rfl, r29, rfl, h⟩ := h30
    show WP G _ _ _ 0 0 145 [(4, .int (((20 + r3) + 10) + r3)), (3, .int (20 + r3)), (2, .int r3), (0, .ref b), (1, .int x1)] [.int r29] (sh, ta, m28)
    exact WP.iret dX6_needs_145 rfl (Nat.le_refl _) (Nat.le_refl _) ⟨_, rfl, h⟩
  · have h := h.2.2.2.2.2.1 (i32_of c10 rfl)
    refine WP.tswI (td := 97) 4 dX6_needs_21 c10 (by decide) rfl (by decide) ?_
    refine WP.iload_n 1 dX6_needs_97 rfl rfl ?_
    refine WP.bipush (v := 8) dX6_needs_98 rfl ?_
    refine WP.isub dX6_needs_100 ?_
    refine WP.iconst (v := 2) dX6_needs_101 rfl ?_
    refine WP.aload_n 3 dX6_needs_102 rfl rfl ?_
    refine WP.iload_n 4 dX6_needs_103 rfl rfl ?_
    refine WP.iconst (v := 3) dX6_needs_104 rfl ?_
    refine WP.callV (y := mX6_its) (As := [.int x1, .int 3]) (st := [.int 2, .int ((20 + r3) - 8)]) dX6_needs_105 wm_X6_62 mw_X6_its rfl (Nat.le_of_ble_eq_true rfl) (rmok d) h5 (by decide) rfl h (fun v31 Sm32 h34 => ?_)
    obtain ⟨m32, rfl, r33, rfl, h⟩ := h34
    show WP G _ _ _ 0 0 108 [(4, .int (20 + r3)), (3, .int (20 + r3)), (2, .int r3), (0, .ref b), (1, .int x1)] [.int r33, .int 2, .int ((20 + r3) - 8)] (sh, ta, m32)
    refine WP.if_ge (tgt := 115) dX6_needs_108 (by decide) (fun c35 => ?_) (fun c35 => ?_)
    · have h := h.1 c35
      refine WP.aload_n 3 dX6_needs_115 rfl rfl ?_
      refine WP.iload_n 4 dX6_needs_116 rfl rfl ?_
      refine WP.callV (y := mX6_upon) (As := [.int x1]) (st := [.int 2, .int ((20 + r3) - 8)]) dX6_needs_117 wm_X6_127 mw_X6_upon rfl (Nat.le_of_ble_eq_true rfl) (rmok d) h5 (by decide) rfl h (fun v36 Sm37 h39 => ?_)
      obtain ⟨m37, rfl, r38, rfl, h⟩ := h39
      show WP G _ _ _ 0 0 120 [(4, .int (20 + r3)), (3, .int (20 + r3)), (2, .int r3), (0, .ref b), (1, .int x1)] [.int r38, .int 2, .int ((20 + r3) - 8)] (sh, ta, m37)
      refine WP.imul dX6_needs_120 ?_
      refine WP.iadd dX6_needs_121 ?_
      refine WP.istore (lv2 := [(4, .int (((20 + r3) - 8) + (2 * r38))), (3, .int (20 + r3)), (2, .int r3), (0, .ref b), (1, .int x1)]) dX6_needs_122 (by decide) rfl ?_
      refine WP.goto (tgt := 137) dX6_needs_124 (by decide) ?_
      refine WP.iload 0 dX6_needs_137 rfl ?_
      refine WP.iconst (v := 1) dX6_needs_139 rfl ?_
      refine WP.bipush (v := 99) dX6_needs_140 rfl ?_
      refine WP.callS (y := mX6_held) (As := [.int (((20 + r3) - 8) + (2 * r38)), .int 1, .int 99]) (st := []) dX6_needs_142 wm_X6_139 mw_X6_held rfl (Nat.le_of_ble_eq_true rfl) (rmok d) rfl h (fun v40 Sm41 h43 => ?_)
      obtain ⟨m41, rfl, r42, rfl, h⟩ := h43
      show WP G _ _ _ 0 0 145 [(4, .int (((20 + r3) - 8) + (2 * r38))), (3, .int (20 + r3)), (2, .int r3), (0, .ref b), (1, .int x1)] [.int r42] (sh, ta, m41)
      exact WP.iret dX6_needs_145 rfl (Nat.le_refl _) (Nat.le_refl _) ⟨_, rfl, h⟩
    · have h := h.2 c35
      refine WP.iconst (v := 0) dX6_needs_111 rfl ?_
      refine WP.goto (tgt := 120) dX6_needs_112 (by decide) ?_
      refine WP.imul dX6_needs_120 ?_
      refine WP.iadd dX6_needs_121 ?_
      refine WP.istore (lv2 := [(4, .int (((20 + r3) - 8) + (2 * 0))), (3, .int (20 + r3)), (2, .int r3), (0, .ref b), (1, .int x1)]) dX6_needs_122 (by decide) rfl ?_
      refine WP.goto (tgt := 137) dX6_needs_124 (by decide) ?_
      refine WP.iload 0 dX6_needs_137 rfl ?_
      refine WP.iconst (v := 1) dX6_needs_139 rfl ?_
      refine WP.bipush (v := 99) dX6_needs_140 rfl ?_
      refine WP.callS (y := mX6_held) (As := [.int (((20 + r3) - 8) + (2 * 0)), .int 1, .int 99]) (st := []) dX6_needs_142 wm_X6_139 mw_X6_held rfl (Nat.le_of_ble_eq_true rfl) (rmok d) rfl h (fun v44 Sm45 h47 => ?_)
      obtain ⟨m45, rfl, r46, rfl, h⟩ := h47
      show WP G _ _ _ 0 0 145 [(4, .int (((20 + r3) - 8) + (2 * 0))), (3, .int (20 + r3)), (2, .int r3), (0, .ref b), (1, .int x1)] [.int r46] (sh, ta, m45)
      exact WP.iret dX6_needs_145 rfl (Nat.le_refl _) (Nat.le_refl _) ⟨_, rfl, h⟩
  · have h := h.2.2.2.2.2.2 (i32_of c10 rfl)
    refine WP.tswI (td := 127) 5 dX6_needs_21 c10 (by decide) rfl (by decide) ?_
    refine WP.aload_n 3 dX6_needs_127 rfl rfl ?_
    refine WP.iload_n 4 dX6_needs_128 rfl rfl ?_
    refine WP.callV (y := mX6_needsTold) (As := [.int x1]) (st := []) dX6_needs_129 wm_X6_136 mw_X6_needsTold rfl (Nat.le_of_ble_eq_true rfl) (rmok d) h5 (by decide) rfl h (fun v48 Sm49 h51 => ?_)
    obtain ⟨m49, rfl, r50, rfl, h⟩ := h51
    show WP G _ _ _ 0 0 132 [(4, .int (20 + r3)), (3, .int (20 + r3)), (2, .int r3), (0, .ref b), (1, .int x1)] [.int r50] (sh, ta, m49)
    refine WP.istore (lv2 := [(4, .int r50), (3, .int (20 + r3)), (2, .int r3), (0, .ref b), (1, .int x1)]) dX6_needs_132 (by decide) rfl ?_
    refine WP.goto (tgt := 137) dX6_needs_134 (by decide) ?_
    refine WP.iload 0 dX6_needs_137 rfl ?_
    refine WP.iconst (v := 1) dX6_needs_139 rfl ?_
    refine WP.bipush (v := 99) dX6_needs_140 rfl ?_
    refine WP.callS (y := mX6_held) (As := [.int r50, .int 1, .int 99]) (st := []) dX6_needs_142 wm_X6_139 mw_X6_held rfl (Nat.le_of_ble_eq_true rfl) (rmok d) rfl h (fun v52 Sm53 h55 => ?_)
    obtain ⟨m53, rfl, r54, rfl, h⟩ := h55
    show WP G _ _ _ 0 0 145 [(4, .int r50), (3, .int (20 + r3)), (2, .int r3), (0, .ref b), (1, .int x1)] [.int r54] (sh, ta, m53)
    exact WP.iret dX6_needs_145 rfl (Nat.le_refl _) (Nat.le_refl _) ⟨_, rfl, h⟩
set_option maxHeartbeats 4000000 in
set_option maxRecDepth 20000 in
theorem rg_X6_likes_0 (hG : fl G = false) (b : Nat) (x1 : Int32) (h : sh[b]? = some (.inl 6) ∧ Cal G mX6_its d [.ref b, .int x1, .int 2] sh ta m (fun v1 m2 => ∃ r3, v1 = some (.int r3) ∧ Cal G mX6_hasText d [.ref b, .int 1] sh ta m2 (fun v6 m7 => ∃ r8, v6 = some (.int r8) ∧ ((r8 = 0 → Cal G mX6_held d [.int r3, .int ((-999)), .int 999] sh ta m7 (fun v11 m12 => ∃ r13, v11 = some (.int r13) ∧ K (some (.int r13)) m12)) ∧ (¬ r8 = 0 → ∃ i15, ta b 10 = some i15 ∧ ∃ n18, sh[i15]? = some (.inr (0, n18)) ∧ InB 119 n18 ∧ ∀ m20, m20 = upa m7 i15 (119 : Int32) r3 → Cal G mX6_its d [.ref b, .int x1, .int 0] sh ta m20 (fun v21 m22 => ∃ r23, v21 = some (.int r23) ∧ InB 107 n18 ∧ ∀ m26, m26 = upa m22 i15 (107 : Int32) r23 → Cal G mX6_its d [.ref b, .int x1, .int 1] sh ta m26 (fun v27 m28 => ∃ r29, v27 = some (.int r29) ∧ InB 109 n18 ∧ ∀ m32, m32 = upa m28 i15 (109 : Int32) r29 → Cal G mX6_worked d [.ref b, .int 1] sh ta m32 (fun v33 m34 => ∃ r35, v33 = some (.int r35) ∧ Cal G mX6_held d [.int r35, .int ((-999)), .int 999] sh ta m34 (fun v37 m38 => ∃ r39, v37 = some (.int r39) ∧ K (some (.int r39)) m38))))))))) : WP G (rmD (d + 1) 0 0) mX6_likes (QC G sh ta K) 0 0 0 [(0, .ref b), (1, .int x1)] [] (sh, ta, m) := by
  refine WP.aload_n 0 dX6_likes_0 rfl rfl ?_
  refine WP.iload_n 1 dX6_likes_1 rfl rfl ?_
  refine WP.iconst (v := 2) dX6_likes_2 rfl ?_
  obtain ⟨h5, h⟩ := h
  refine WP.callV (y := mX6_its) (As := [.int x1, .int 2]) (st := []) dX6_likes_3 wm_X6_62 mw_X6_its rfl (Nat.le_of_ble_eq_true rfl) (rmok d) h5 (by decide) rfl h (fun v1 Sm2 h4 => ?_)
  obtain ⟨m2, rfl, r3, rfl, h⟩ := h4
  show WP G _ _ _ 0 0 6 [(0, .ref b), (1, .int x1)] [.int r3] (sh, ta, m2)
  refine WP.istore_n (lv2 := [(2, .int r3), (0, .ref b), (1, .int x1)]) dX6_likes_6 rfl (by decide) rfl ?_
  refine WP.aload_n 1 dX6_likes_7 rfl rfl ?_
  refine WP.iconst (v := 1) dX6_likes_8 rfl ?_
  refine WP.callV (y := mX6_hasText) (As := [.int 1]) (st := []) dX6_likes_9 wm_X6_120 mw_X6_hasText rfl (Nat.le_of_ble_eq_true rfl) (rmok d) h5 (by decide) rfl h (fun v6 Sm7 h9 => ?_)
  obtain ⟨m7, rfl, r8, rfl, h⟩ := h9
  show WP G _ _ _ 0 0 12 [(2, .int r3), (0, .ref b), (1, .int x1)] [.int r8] (sh, ta, m7)
  refine WP.if_eq (tgt := 55) dX6_likes_12 (by decide) (fun c10 => ?_) (fun c10 => ?_)
  · have h := h.1 c10
    refine WP.iload_n 0 dX6_likes_55 rfl rfl ?_
    refine WP.sipush (v := (-999)) dX6_likes_56 rfl ?_
    refine WP.sipush (v := 999) dX6_likes_59 rfl ?_
    refine WP.callS (y := mX6_held) (As := [.int r3, .int ((-999)), .int 999]) (st := []) dX6_likes_62 wm_X6_139 mw_X6_held rfl (Nat.le_of_ble_eq_true rfl) (rmok d) rfl h (fun v11 Sm12 h14 => ?_)
    obtain ⟨m12, rfl, r13, rfl, h⟩ := h14
    show WP G _ _ _ 0 0 65 [(2, .int r3), (0, .ref b), (1, .int x1)] [.int r13] (sh, ta, m12)
    exact WP.iret dX6_likes_65 rfl (Nat.le_refl _) (Nat.le_refl _) ⟨_, rfl, h⟩
  · have h := h.2 c10
    refine WP.aload_n 1 dX6_likes_15 rfl rfl ?_
    obtain ⟨i15, h16, h⟩ := h
    refine WP.getR 6 10 wf_X6_25 (by decide) (by decide) rfl h5 h16 dX6_likes_16 ?_
    refine WP.bipush (v := 119) dX6_likes_19 rfl ?_
    refine WP.iload_n 0 dX6_likes_21 rfl rfl ?_
    obtain ⟨n18, h17, h⟩ := h
    obtain ⟨h19, h⟩ := h
    have h := h _ rfl
    refine WP.iast h17 h19 dX6_likes_22 ?_
    generalize upa m7 i15 (119 : Int32) r3 = m20 at h ⊢
    refine WP.aload_n 1 dX6_likes_23 rfl rfl ?_
    refine WP.getR 6 10 wf_X6_25 (by decide) (by decide) rfl h5 h16 dX6_likes_24 ?_
    refine WP.bipush (v := 107) dX6_likes_27 rfl ?_
    refine WP.aload_n 1 dX6_likes_29 rfl rfl ?_
    refine WP.iload_n 2 dX6_likes_30 rfl rfl ?_
    refine WP.iconst (v := 0) dX6_likes_31 rfl ?_
    refine WP.callV (y := mX6_its) (As := [.int x1, .int 0]) (st := [.int 107, .ref i15]) dX6_likes_32 wm_X6_62 mw_X6_its rfl (Nat.le_of_ble_eq_true rfl) (rmok d) h5 (by decide) rfl h (fun v21 Sm22 h24 => ?_)
    obtain ⟨m22, rfl, r23, rfl, h⟩ := h24
    show WP G _ _ _ 0 0 35 [(2, .int r3), (0, .ref b), (1, .int x1)] [.int r23, .int 107, .ref i15] (sh, ta, m22)
    obtain ⟨h25, h⟩ := h
    have h := h _ rfl
    refine WP.iast h17 h25 dX6_likes_35 ?_
    generalize upa m22 i15 (107 : Int32) r23 = m26 at h ⊢
    refine WP.aload_n 1 dX6_likes_36 rfl rfl ?_
    refine WP.getR 6 10 wf_X6_25 (by decide) (by decide) rfl h5 h16 dX6_likes_37 ?_
    refine WP.bipush (v := 109) dX6_likes_40 rfl ?_
    refine WP.aload_n 1 dX6_likes_42 rfl rfl ?_
    refine WP.iload_n 2 dX6_likes_43 rfl rfl ?_
    refine WP.iconst (v := 1) dX6_likes_44 rfl ?_
    refine WP.callV (y := mX6_its) (As := [.int x1, .int 1]) (st := [.int 109, .ref i15]) dX6_likes_45 wm_X6_62 mw_X6_its rfl (Nat.le_of_ble_eq_true rfl) (rmok d) h5 (by decide) rfl h (fun v27 Sm28 h30 => ?_)
    obtain ⟨m28, rfl, r29, rfl, h⟩ := h30
    show WP G _ _ _ 0 0 48 [(2, .int r3), (0, .ref b), (1, .int x1)] [.int r29, .int 109, .ref i15] (sh, ta, m28)
    obtain ⟨h31, h⟩ := h
    have h := h _ rfl
    refine WP.iast h17 h31 dX6_likes_48 ?_
    generalize upa m28 i15 (109 : Int32) r29 = m32 at h ⊢
    refine WP.aload_n 1 dX6_likes_49 rfl rfl ?_
    refine WP.iconst (v := 1) dX6_likes_50 rfl ?_
    refine WP.callV (y := mX6_worked) (As := [.int 1]) (st := []) dX6_likes_51 wm_X6_133 mw_X6_worked rfl (Nat.le_of_ble_eq_true rfl) (rmok d) h5 (by decide) rfl h (fun v33 Sm34 h36 => ?_)
    obtain ⟨m34, rfl, r35, rfl, h⟩ := h36
    show WP G _ _ _ 0 0 54 [(2, .int r3), (0, .ref b), (1, .int x1)] [.int r35] (sh, ta, m34)
    refine WP.istore_n (lv2 := [(2, .int r35), (0, .ref b), (1, .int x1)]) dX6_likes_54 rfl (by decide) rfl ?_
    refine WP.iload_n 0 dX6_likes_55 rfl rfl ?_
    refine WP.sipush (v := (-999)) dX6_likes_56 rfl ?_
    refine WP.sipush (v := 999) dX6_likes_59 rfl ?_
    refine WP.callS (y := mX6_held) (As := [.int r35, .int ((-999)), .int 999]) (st := []) dX6_likes_62 wm_X6_139 mw_X6_held rfl (Nat.le_of_ble_eq_true rfl) (rmok d) rfl h (fun v37 Sm38 h40 => ?_)
    obtain ⟨m38, rfl, r39, rfl, h⟩ := h40
    show WP G _ _ _ 0 0 65 [(2, .int r35), (0, .ref b), (1, .int x1)] [.int r39] (sh, ta, m38)
    exact WP.iret dX6_likes_65 rfl (Nat.le_refl _) (Nat.le_refl _) ⟨_, rfl, h⟩
set_option maxHeartbeats 4000000 in
set_option maxRecDepth 20000 in
theorem rg_X6_strengthBehind_0 (hG : fl G = false) (b : Nat) (x1 : Int32) (h : sh[b]? = some (.inl 6) ∧ ∃ i2, ta b 0 = some i2 ∧ ∃ n5, sh[i2]? = some (.inr (0, n5)) ∧ InB 3 n5 ∧ InB 2 n5 ∧ InB 4 n5 ∧ ((0 ≤ ((rd (m i2) (3 : Int32)) - (((rd (m i2) (2 : Int32)) + x1) * (rd (m i2) (4 : Int32)))) → K (some (.int ((rd (m i2) (3 : Int32)) - (((rd (m i2) (2 : Int32)) + x1) * (rd (m i2) (4 : Int32)))))) m) ∧ (¬ 0 ≤ ((rd (m i2) (3 : Int32)) - (((rd (m i2) (2 : Int32)) + x1) * (rd (m i2) (4 : Int32)))) → K (some (.int 0)) m))) : WP G (rmD (d + 1) 0 0) mX6_strengthBehind (QC G sh ta K) 0 0 0 [(0, .ref b), (1, .int x1)] [] (sh, ta, m) := by
  refine WP.aload_n 0 dX6_strengthBehind_0 rfl rfl ?_
  obtain ⟨h1, h⟩ := h
  obtain ⟨i2, h3, h⟩ := h
  refine WP.getR 6 0 wf_X6_7 (by decide) (by decide) rfl h1 h3 dX6_strengthBehind_1 ?_
  refine WP.iconst (v := 3) dX6_strengthBehind_4 rfl ?_
  obtain ⟨n5, h4, h⟩ := h
  obtain ⟨h6, h⟩ := h
  refine WP.iald h4 h6 dX6_strengthBehind_5 ?_
  refine WP.aload_n 0 dX6_strengthBehind_6 rfl rfl ?_
  refine WP.getR 6 0 wf_X6_7 (by decide) (by decide) rfl h1 h3 dX6_strengthBehind_7 ?_
  refine WP.iconst (v := 2) dX6_strengthBehind_10 rfl ?_
  obtain ⟨h7, h⟩ := h
  refine WP.iald h4 h7 dX6_strengthBehind_11 ?_
  refine WP.iload_n 1 dX6_strengthBehind_12 rfl rfl ?_
  refine WP.iadd dX6_strengthBehind_13 ?_
  refine WP.aload_n 0 dX6_strengthBehind_14 rfl rfl ?_
  refine WP.getR 6 0 wf_X6_7 (by decide) (by decide) rfl h1 h3 dX6_strengthBehind_15 ?_
  refine WP.iconst (v := 4) dX6_strengthBehind_18 rfl ?_
  obtain ⟨h8, h⟩ := h
  refine WP.iald h4 h8 dX6_strengthBehind_19 ?_
  refine WP.imul dX6_strengthBehind_20 ?_
  refine WP.isub dX6_strengthBehind_21 ?_
  refine WP.istore_n (lv2 := [(2, .int ((rd (m i2) (3 : Int32)) - (((rd (m i2) (2 : Int32)) + x1) * (rd (m i2) (4 : Int32))))), (0, .ref b), (1, .int x1)]) dX6_strengthBehind_22 rfl (by decide) rfl ?_
  refine WP.iload_n 0 dX6_strengthBehind_23 rfl rfl ?_
  refine WP.if_ge (tgt := 31) dX6_strengthBehind_24 (by decide) (fun c9 => ?_) (fun c9 => ?_)
  · have h := h.1 c9
    refine WP.iload_n 0 dX6_strengthBehind_31 rfl rfl ?_
    exact WP.iret dX6_strengthBehind_32 rfl (Nat.le_refl _) (Nat.le_refl _) ⟨_, rfl, h⟩
  · have h := h.2 c9
    refine WP.iconst (v := 0) dX6_strengthBehind_27 rfl ?_
    refine WP.goto (tgt := 32) dX6_strengthBehind_28 (by decide) ?_
    exact WP.iret dX6_strengthBehind_32 rfl (Nat.le_refl _) (Nat.le_refl _) ⟨_, rfl, h⟩
set_option maxHeartbeats 4000000 in
set_option maxRecDepth 20000 in
theorem rg_X6_lays_0 (hG : fl G = false) (b : Nat) (x1 : Int32) (x2 : Int32) (h : sh[b]? = some (.inl 6) ∧ ∃ i2, ta b 0 = some i2 ∧ Cal G mX6_size d [.ref b, .int x2] sh ta m (fun v4 m5 => ∃ r6, v4 = some (.int r6) ∧ ∃ n9, sh[i2]? = some (.inr (0, n9)) ∧ InB (((72 + (6 * x2)) + 1) + r6) n9 ∧ ∀ m11, m11 = upa m5 i2 (((72 + (6 * x2)) + 1) + r6) x1 → InB (72 + (6 * x2)) n9 ∧ InB (72 + (6 * x2)) n9 ∧ ∀ m14, m14 = upa m11 i2 (72 + (6 * x2)) ((rd (m11 i2) (72 + (6 * x2))) + 1) → InB ((8 + (4 * x1)) + 3) n9 ∧ ∀ m16, m16 = upa m14 i2 ((8 + (4 * x1)) + 3) x2 → K none m16)) : WP G (rmD (d + 1) 0 0) mX6_lays (QC G sh ta K) 0 0 0 [(0, .ref b), (1, .int x1), (2, .int x2)] [] (sh, ta, m) := by
  refine WP.aload_n 0 dX6_lays_0 rfl rfl ?_
  obtain ⟨h1, h⟩ := h
  obtain ⟨i2, h3, h⟩ := h
  refine WP.getR 6 0 wf_X6_7 (by decide) (by decide) rfl h1 h3 dX6_lays_1 ?_
  refine WP.bipush (v := 72) dX6_lays_4 rfl ?_
  refine WP.bipush (v := 6) dX6_lays_6 rfl ?_
  refine WP.iload_n 2 dX6_lays_8 rfl rfl ?_
  refine WP.imul dX6_lays_9 ?_
  refine WP.iadd dX6_lays_10 ?_
  refine WP.iconst (v := 1) dX6_lays_11 rfl ?_
  refine WP.iadd dX6_lays_12 ?_
  refine WP.aload_n 0 dX6_lays_13 rfl rfl ?_
  refine WP.iload_n 2 dX6_lays_14 rfl rfl ?_
  refine WP.callV (y := mX6_size) (As := [.int x2]) (st := [.int ((72 + (6 * x2)) + 1), .ref i2]) dX6_lays_15 wm_X6_54 mw_X6_size rfl (Nat.le_of_ble_eq_true rfl) (rmok d) h1 (by decide) rfl h (fun v4 Sm5 h7 => ?_)
  obtain ⟨m5, rfl, r6, rfl, h⟩ := h7
  show WP G _ _ _ 0 0 18 [(0, .ref b), (1, .int x1), (2, .int x2)] [.int r6, .int ((72 + (6 * x2)) + 1), .ref i2] (sh, ta, m5)
  refine WP.iadd dX6_lays_18 ?_
  refine WP.iload_n 1 dX6_lays_19 rfl rfl ?_
  obtain ⟨n9, h8, h⟩ := h
  obtain ⟨h10, h⟩ := h
  have h := h _ rfl
  refine WP.iast h8 h10 dX6_lays_20 ?_
  generalize upa m5 i2 (((72 + (6 * x2)) + 1) + r6) x1 = m11 at h ⊢
  refine WP.aload_n 0 dX6_lays_21 rfl rfl ?_
  refine WP.getR 6 0 wf_X6_7 (by decide) (by decide) rfl h1 h3 dX6_lays_22 ?_
  refine WP.bipush (v := 72) dX6_lays_25 rfl ?_
  refine WP.bipush (v := 6) dX6_lays_27 rfl ?_
  refine WP.iload_n 2 dX6_lays_29 rfl rfl ?_
  refine WP.imul dX6_lays_30 ?_
  refine WP.iadd dX6_lays_31 ?_
  refine WP.dup2 dX6_lays_32 rfl rfl ?_
  obtain ⟨h12, h⟩ := h
  refine WP.iald h8 h12 dX6_lays_33 ?_
  refine WP.iconst (v := 1) dX6_lays_34 rfl ?_
  refine WP.iadd dX6_lays_35 ?_
  obtain ⟨h13, h⟩ := h
  have h := h _ rfl
  refine WP.iast h8 h13 dX6_lays_36 ?_
  generalize upa m11 i2 (72 + (6 * x2)) ((rd (m11 i2) (72 + (6 * x2))) + 1) = m14 at h ⊢
  refine WP.aload_n 0 dX6_lays_37 rfl rfl ?_
  refine WP.getR 6 0 wf_X6_7 (by decide) (by decide) rfl h1 h3 dX6_lays_38 ?_
  refine WP.bipush (v := 8) dX6_lays_41 rfl ?_
  refine WP.iconst (v := 4) dX6_lays_43 rfl ?_
  refine WP.iload_n 1 dX6_lays_44 rfl rfl ?_
  refine WP.imul dX6_lays_45 ?_
  refine WP.iadd dX6_lays_46 ?_
  refine WP.iconst (v := 3) dX6_lays_47 rfl ?_
  refine WP.iadd dX6_lays_48 ?_
  refine WP.iload_n 2 dX6_lays_49 rfl rfl ?_
  obtain ⟨h15, h⟩ := h
  have h := h _ rfl
  refine WP.iast h8 h15 dX6_lays_50 ?_
  generalize upa m14 i2 ((8 + (4 * x1)) + 3) x2 = m16 at h ⊢
  exact WP.vret dX6_lays_51 rfl (Nat.le_refl _) (Nat.le_refl _) ⟨_, rfl, h⟩
set_option maxHeartbeats 4000000 in
set_option maxRecDepth 20000 in
theorem rg_X6_lay_0 (hG : fl G = false) (b : Nat) (x1 : Int32) (x2 : Int32) (h : Cal G mX6_in d [.int x1, .int 0, .int 69] sh ta m (fun v1 m2 => ∃ r3, v1 = some (.int r3) ∧ ((r3 = 0 → sh[b]? = some (.inl 6) ∧ Cal G mX6_error d [.ref b, .int 1] sh ta m2 (fun v6 m7 => ∃ r8, v6 = some (.int r8) ∧ K (some (.int r8)) m7)) ∧ (¬ r3 = 0 → Cal G mX6_isOpen d [.int x2] sh ta m2 (fun v11 m12 => ∃ r13, v11 = some (.int r13) ∧ ((¬ r13 = 0 → sh[b]? = some (.inl 6) ∧ ∃ i17, ta b 0 = some i17 ∧ ∃ n20, sh[i17]? = some (.inr (0, n20)) ∧ InB 0 n20 ∧ (((rd (m12 i17) (0 : Int32)) = (16 : Int32) → Cal G mX6_error d [.ref b, .int 4] sh ta m12 (fun v23 m24 => ∃ r25, v23 = some (.int r25) ∧ K (some (.int r25)) m24)) ∧ (¬ (rd (m12 i17) (0 : Int32)) = (16 : Int32) → Cal G mX6_size d [.ref b, .int x2] sh ta m12 (fun v27 m28 => ∃ r29, v27 = some (.int r29) ∧ ((¬ r29 = (5 : Int32) → InB 0 n20 ∧ ¬ (10 : Int32) = 0 ∧ InB ((8 + (4 * (rd (m28 i17) (0 : Int32)))) + 0) n20 ∧ ∀ m35, m35 = upa m28 i17 ((8 + (4 * (rd (m28 i17) (0 : Int32)))) + 0) (x1 / 10) → ¬ (10 : Int32) = 0 ∧ InB ((8 + (4 * (rd (m28 i17) (0 : Int32)))) + 1) n20 ∧ ∀ m38, m38 = upa m35 i17 ((8 + (4 * (rd (m28 i17) (0 : Int32)))) + 1) (x1 - x1 / 10 * 10) → InB ((8 + (4 * (rd (m28 i17) (0 : Int32)))) + 2) n20 ∧ ∀ m40, m40 = upa m38 i17 ((8 + (4 * (rd (m28 i17) (0 : Int32)))) + 2) (10 : Int32) → Cal G mX6_lays d [.ref b, .int (rd (m28 i17) (0 : Int32)), .int x2] sh ta m40 (fun v41 m42 => v41 = none ∧ InB 0 n20 ∧ InB 0 n20 ∧ ∀ m47, m47 = upa m42 i17 (0 : Int32) ((rd (m42 i17) (0 : Int32)) + 1) → K (some (.int (rd (m28 i17) (0 : Int32)))) m47)) ∧ (r29 = (5 : Int32) → Cal G mX6_error d [.ref b, .int 4] sh ta m28 (fun v48 m49 => ∃ r50, v48 = some (.int r50) ∧ K (some (.int r50)) m49))))))) ∧ (r13 = 0 → sh[b]? = some (.inl 6) ∧ Cal G mX6_error d [.ref b, .int 1] sh ta m12 (fun v52 m53 => ∃ r54, v52 = some (.int r54) ∧ K (some (.int r54)) m53)))))))) : WP G (rmD (d + 1) 0 0) mX6_lay (QC G sh ta K) 0 0 0 [(0, .ref b), (1, .int x1), (2, .int x2)] [] (sh, ta, m) := by
  refine WP.iload_n 1 dX6_lay_0 rfl rfl ?_
  refine WP.iconst (v := 0) dX6_lay_1 rfl ?_
  refine WP.bipush (v := 69) dX6_lay_2 rfl ?_
  refine WP.callS (y := mX6_in) (As := [.int x1, .int 0, .int 69]) (st := []) dX6_lay_4 wm_X6_50 mw_X6_in rfl (Nat.le_of_ble_eq_true rfl) (rmok d) rfl h (fun v1 Sm2 h4 => ?_)
  obtain ⟨m2, rfl, r3, rfl, h⟩ := h4
  show WP G _ _ _ 0 0 7 [(0, .ref b), (1, .int x1), (2, .int x2)] [.int r3] (sh, ta, m2)
  refine WP.if_eq (tgt := 17) dX6_lay_7 (by decide) (fun c5 => ?_) (fun c5 => ?_)
  · have h := h.1 c5
    refine WP.aload_n 0 dX6_lay_17 rfl rfl ?_
    refine WP.iconst (v := 1) dX6_lay_18 rfl ?_
    obtain ⟨h10, h⟩ := h
    refine WP.callV (y := mX6_error) (As := [.int 1]) (st := []) dX6_lay_19 wm_X6_68 mw_X6_error rfl (Nat.le_of_ble_eq_true rfl) (rmok d) h10 (by decide) rfl h (fun v6 Sm7 h9 => ?_)
    obtain ⟨m7, rfl, r8, rfl, h⟩ := h9
    show WP G _ _ _ 0 0 22 [(0, .ref b), (1, .int x1), (2, .int x2)] [.int r8] (sh, ta, m7)
    exact WP.iret dX6_lay_22 rfl (Nat.le_refl _) (Nat.le_refl _) ⟨_, rfl, h⟩
  · have h := h.2 c5
    refine WP.iload_n 2 dX6_lay_10 rfl rfl ?_
    refine WP.callS (y := mX6_isOpen) (As := [.int x2]) (st := []) dX6_lay_11 wm_X6_142 mw_X6_isOpen rfl (Nat.le_of_ble_eq_true rfl) (rmok d) rfl h (fun v11 Sm12 h14 => ?_)
    obtain ⟨m12, rfl, r13, rfl, h⟩ := h14
    show WP G _ _ _ 0 0 14 [(0, .ref b), (1, .int x1), (2, .int x2)] [.int r13] (sh, ta, m12)
    refine WP.if_ne (tgt := 23) dX6_lay_14 (by decide) (fun c15 => ?_) (fun c15 => ?_)
    · have h := h.1 c15
      refine WP.aload_n 0 dX6_lay_23 rfl rfl ?_
      obtain ⟨h16, h⟩ := h
      obtain ⟨i17, h18, h⟩ := h
      refine WP.getR 6 0 wf_X6_7 (by decide) (by decide) rfl h16 h18 dX6_lay_24 ?_
      refine WP.iconst (v := 0) dX6_lay_27 rfl ?_
      obtain ⟨n20, h19, h⟩ := h
      obtain ⟨h21, h⟩ := h
      refine WP.iald h19 h21 dX6_lay_28 ?_
      refine WP.bipush (v := 16) dX6_lay_29 rfl ?_
      refine WP.icmp_eq (tgt := 43) dX6_lay_31 (by decide) (fun c22 => ?_) (fun c22 => ?_)
      · have h := h.1 c22
        refine WP.aload_n 0 dX6_lay_43 rfl rfl ?_
        refine WP.iconst (v := 4) dX6_lay_44 rfl ?_
        refine WP.callV (y := mX6_error) (As := [.int 4]) (st := []) dX6_lay_45 wm_X6_68 mw_X6_error rfl (Nat.le_of_ble_eq_true rfl) (rmok d) h16 (by decide) rfl h (fun v23 Sm24 h26 => ?_)
        obtain ⟨m24, rfl, r25, rfl, h⟩ := h26
        show WP G _ _ _ 0 0 48 [(0, .ref b), (1, .int x1), (2, .int x2)] [.int r25] (sh, ta, m24)
        exact WP.iret dX6_lay_48 rfl (Nat.le_refl _) (Nat.le_refl _) ⟨_, rfl, h⟩
      · have h := h.2 c22
        refine WP.aload_n 0 dX6_lay_34 rfl rfl ?_
        refine WP.iload_n 2 dX6_lay_35 rfl rfl ?_
        refine WP.callV (y := mX6_size) (As := [.int x2]) (st := []) dX6_lay_36 wm_X6_54 mw_X6_size rfl (Nat.le_of_ble_eq_true rfl) (rmok d) h16 (by decide) rfl h (fun v27 Sm28 h30 => ?_)
        obtain ⟨m28, rfl, r29, rfl, h⟩ := h30
        show WP G _ _ _ 0 0 39 [(0, .ref b), (1, .int x1), (2, .int x2)] [.int r29] (sh, ta, m28)
        refine WP.iconst (v := 5) dX6_lay_39 rfl ?_
        refine WP.icmp_ne (tgt := 49) dX6_lay_40 (by decide) (fun c31 => ?_) (fun c31 => ?_)
        · have h := h.1 c31
          refine WP.aload_n 0 dX6_lay_49 rfl rfl ?_
          refine WP.getR 6 0 wf_X6_7 (by decide) (by decide) rfl h16 h18 dX6_lay_50 ?_
          refine WP.iconst (v := 0) dX6_lay_53 rfl ?_
          obtain ⟨h32, h⟩ := h
          refine WP.iald h19 h32 dX6_lay_54 ?_
          refine WP.istore_n (lv2 := [(3, .int (rd (m28 i17) (0 : Int32))), (0, .ref b), (1, .int x1), (2, .int x2)]) dX6_lay_55 rfl (by decide) rfl ?_
          refine WP.aload_n 1 dX6_lay_56 rfl rfl ?_
          refine WP.getR 6 0 wf_X6_7 (by decide) (by decide) rfl h16 h18 dX6_lay_57 ?_
          refine WP.bipush (v := 8) dX6_lay_60 rfl ?_
          refine WP.iconst (v := 4) dX6_lay_62 rfl ?_
          refine WP.iload_n 0 dX6_lay_63 rfl rfl ?_
          refine WP.imul dX6_lay_64 ?_
          refine WP.iadd dX6_lay_65 ?_
          refine WP.iconst (v := 0) dX6_lay_66 rfl ?_
          refine WP.iadd dX6_lay_67 ?_
          refine WP.iload_n 2 dX6_lay_68 rfl rfl ?_
          refine WP.bipush (v := 10) dX6_lay_69 rfl ?_
          obtain ⟨h33, h⟩ := h
          refine WP.idiv dX6_lay_71 h33 ?_
          obtain ⟨h34, h⟩ := h
          have h := h _ rfl
          refine WP.iast h19 h34 dX6_lay_72 ?_
          generalize upa m28 i17 ((8 + (4 * (rd (m28 i17) (0 : Int32)))) + 0) (x1 / 10) = m35 at h ⊢
          refine WP.aload_n 1 dX6_lay_73 rfl rfl ?_
          refine WP.getR 6 0 wf_X6_7 (by decide) (by decide) rfl h16 h18 dX6_lay_74 ?_
          refine WP.bipush (v := 8) dX6_lay_77 rfl ?_
          refine WP.iconst (v := 4) dX6_lay_79 rfl ?_
          refine WP.iload_n 0 dX6_lay_80 rfl rfl ?_
          refine WP.imul dX6_lay_81 ?_
          refine WP.iadd dX6_lay_82 ?_
          refine WP.iconst (v := 1) dX6_lay_83 rfl ?_
          refine WP.iadd dX6_lay_84 ?_
          refine WP.iload_n 2 dX6_lay_85 rfl rfl ?_
          refine WP.bipush (v := 10) dX6_lay_86 rfl ?_
          obtain ⟨h36, h⟩ := h
          refine WP.irem dX6_lay_88 h36 ?_
          obtain ⟨h37, h⟩ := h
          have h := h _ rfl
          refine WP.iast h19 h37 dX6_lay_89 ?_
          generalize upa m35 i17 ((8 + (4 * (rd (m28 i17) (0 : Int32)))) + 1) (x1 - x1 / 10 * 10) = m38 at h ⊢
          refine WP.aload_n 1 dX6_lay_90 rfl rfl ?_
          refine WP.getR 6 0 wf_X6_7 (by decide) (by decide) rfl h16 h18 dX6_lay_91 ?_
          refine WP.bipush (v := 8) dX6_lay_94 rfl ?_
          refine WP.iconst (v := 4) dX6_lay_96 rfl ?_
          refine WP.iload_n 0 dX6_lay_97 rfl rfl ?_
          refine WP.imul dX6_lay_98 ?_
          refine WP.iadd dX6_lay_99 ?_
          refine WP.iconst (v := 2) dX6_lay_100 rfl ?_
          refine WP.iadd dX6_lay_101 ?_
          refine WP.bipush (v := 10) dX6_lay_102 rfl ?_
          obtain ⟨h39, h⟩ := h
          have h := h _ rfl
          refine WP.iast h19 h39 dX6_lay_104 ?_
          generalize upa m38 i17 ((8 + (4 * (rd (m28 i17) (0 : Int32)))) + 2) (10 : Int32) = m40 at h ⊢
          refine WP.aload_n 1 dX6_lay_105 rfl rfl ?_
          refine WP.iload_n 0 dX6_lay_106 rfl rfl ?_
          refine WP.iload_n 3 dX6_lay_107 rfl rfl ?_
          refine WP.callV (y := mX6_lays) (As := [.int (rd (m28 i17) (0 : Int32)), .int x2]) (st := []) dX6_lay_108 wm_X6_145 mw_X6_lays rfl (Nat.le_of_ble_eq_true rfl) (rmok d) h16 (by decide) rfl h (fun v41 Sm42 h44 => ?_)
          obtain ⟨m42, rfl, rfl, h⟩ := h44
          show WP G _ _ _ 0 0 111 [(3, .int (rd (m28 i17) (0 : Int32))), (0, .ref b), (1, .int x1), (2, .int x2)] [] (sh, ta, m42)
          refine WP.aload_n 1 dX6_lay_111 rfl rfl ?_
          refine WP.getR 6 0 wf_X6_7 (by decide) (by decide) rfl h16 h18 dX6_lay_112 ?_
          refine WP.iconst (v := 0) dX6_lay_115 rfl ?_
          refine WP.dup2 dX6_lay_116 rfl rfl ?_
          obtain ⟨h45, h⟩ := h
          refine WP.iald h19 h45 dX6_lay_117 ?_
          refine WP.iconst (v := 1) dX6_lay_118 rfl ?_
          refine WP.iadd dX6_lay_119 ?_
          obtain ⟨h46, h⟩ := h
          have h := h _ rfl
          refine WP.iast h19 h46 dX6_lay_120 ?_
          generalize upa m42 i17 (0 : Int32) ((rd (m42 i17) (0 : Int32)) + 1) = m47 at h ⊢
          refine WP.iload_n 0 dX6_lay_121 rfl rfl ?_
          exact WP.iret dX6_lay_122 rfl (Nat.le_refl _) (Nat.le_refl _) ⟨_, rfl, h⟩
        · have h := h.2 c31
          refine WP.aload_n 0 dX6_lay_43 rfl rfl ?_
          refine WP.iconst (v := 4) dX6_lay_44 rfl ?_
          refine WP.callV (y := mX6_error) (As := [.int 4]) (st := []) dX6_lay_45 wm_X6_68 mw_X6_error rfl (Nat.le_of_ble_eq_true rfl) (rmok d) h16 (by decide) rfl h (fun v48 Sm49 h51 => ?_)
          obtain ⟨m49, rfl, r50, rfl, h⟩ := h51
          show WP G _ _ _ 0 0 48 [(0, .ref b), (1, .int x1), (2, .int x2)] [.int r50] (sh, ta, m49)
          exact WP.iret dX6_lay_48 rfl (Nat.le_refl _) (Nat.le_refl _) ⟨_, rfl, h⟩
    · have h := h.2 c15
      refine WP.aload_n 0 dX6_lay_17 rfl rfl ?_
      refine WP.iconst (v := 1) dX6_lay_18 rfl ?_
      obtain ⟨h56, h⟩ := h
      refine WP.callV (y := mX6_error) (As := [.int 1]) (st := []) dX6_lay_19 wm_X6_68 mw_X6_error rfl (Nat.le_of_ble_eq_true rfl) (rmok d) h56 (by decide) rfl h (fun v52 Sm53 h55 => ?_)
      obtain ⟨m53, rfl, r54, rfl, h⟩ := h55
      show WP G _ _ _ 0 0 22 [(0, .ref b), (1, .int x1), (2, .int x2)] [.int r54] (sh, ta, m53)
      exact WP.iret dX6_lay_22 rfl (Nat.le_refl _) (Nat.le_refl _) ⟨_, rfl, h⟩
set_option maxHeartbeats 4000000 in
set_option maxRecDepth 20000 in
theorem rg_X6_thingIs_0 (hG : fl G = false) (b : Nat) (x1 : Int32) (x2 : Int32) (h : sh[b]? = some (.inl 6) ∧ Cal G mX6_isThing d [.ref b, .int x1] sh ta m (fun v1 m2 => ∃ r3, v1 = some (.int r3) ∧ ((r3 = 0 → Cal G mX6_error d [.ref b, .int 1] sh ta m2 (fun v7 m8 => ∃ r9, v7 = some (.int r9) ∧ K (some (.int r9)) m8)) ∧ (¬ r3 = 0 → Cal G mX6_in d [.int x2, .int 0, .int 7] sh ta m2 (fun v11 m12 => ∃ r13, v11 = some (.int r13) ∧ ((¬ r13 = 0 → (((4 : Int32) ≤ x2 → ((¬ x2 = (4 : Int32) → ((¬ x2 = (5 : Int32) → ((¬ x2 = (6 : Int32) → Cal G mX6_likes d [.ref b, .int x1] sh ta m12 (fun v20 m21 => ∃ r22, v20 = some (.int r22) ∧ K (some (.int r22)) m21)) ∧ (x2 = (6 : Int32) → Cal G mX6_needs d [.ref b, .int x1] sh ta m12 (fun v24 m25 => ∃ r26, v24 = some (.int r26) ∧ K (some (.int r26)) m25)))) ∧ (x2 = (5 : Int32) → Cal G mX6_upon d [.ref b, .int x1] sh ta m12 (fun v28 m29 => ∃ r30, v28 = some (.int r30) ∧ K (some (.int r30)) m29)))) ∧ (x2 = (4 : Int32) → Cal G mX6_under d [.ref b, .int x1] sh ta m12 (fun v32 m33 => ∃ r34, v32 = some (.int r34) ∧ K (some (.int r34)) m33)))) ∧ (¬ (4 : Int32) ≤ x2 → Cal G mX6_its d [.ref b, .int x1, .int x2] sh ta m12 (fun v36 m37 => ∃ r38, v36 = some (.int r38) ∧ K (some (.int r38)) m37)))) ∧ (r13 = 0 → Cal G mX6_error d [.ref b, .int 1] sh ta m12 (fun v40 m41 => ∃ r42, v40 = some (.int r42) ∧ K (some (.int r42)) m41)))))))) : WP G (rmD (d + 1) 0 0) mX6_thingIs (QC G sh ta K) 0 0 0 [(0, .ref b), (1, .int x1), (2, .int x2)] [] (sh, ta, m) := by
  refine WP.aload_n 0 dX6_thingIs_0 rfl rfl ?_
  refine WP.iload_n 1 dX6_thingIs_1 rfl rfl ?_
  obtain ⟨h5, h⟩ := h
  refine WP.callV (y := mX6_isThing) (As := [.int x1]) (st := []) dX6_thingIs_2 wm_X6_148 mw_X6_isThing rfl (Nat.le_of_ble_eq_true rfl) (rmok d) h5 (by decide) rfl h (fun v1 Sm2 h4 => ?_)
  obtain ⟨m2, rfl, r3, rfl, h⟩ := h4
  show WP G _ _ _ 0 0 5 [(0, .ref b), (1, .int x1), (2, .int x2)] [.int r3] (sh, ta, m2)
  refine WP.if_eq (tgt := 18) dX6_thingIs_5 (by decide) (fun c6 => ?_) (fun c6 => ?_)
  · have h := h.1 c6
    refine WP.aload_n 0 dX6_thingIs_18 rfl rfl ?_
    refine WP.iconst (v := 1) dX6_thingIs_19 rfl ?_
    refine WP.callV (y := mX6_error) (As := [.int 1]) (st := []) dX6_thingIs_20 wm_X6_68 mw_X6_error rfl (Nat.le_of_ble_eq_true rfl) (rmok d) h5 (by decide) rfl h (fun v7 Sm8 h10 => ?_)
    obtain ⟨m8, rfl, r9, rfl, h⟩ := h10
    show WP G _ _ _ 0 0 23 [(0, .ref b), (1, .int x1), (2, .int x2)] [.int r9] (sh, ta, m8)
    exact WP.iret dX6_thingIs_23 rfl (Nat.le_refl _) (Nat.le_refl _) ⟨_, rfl, h⟩
  · have h := h.2 c6
    refine WP.iload_n 2 dX6_thingIs_8 rfl rfl ?_
    refine WP.iconst (v := 0) dX6_thingIs_9 rfl ?_
    refine WP.bipush (v := 7) dX6_thingIs_10 rfl ?_
    refine WP.callS (y := mX6_in) (As := [.int x2, .int 0, .int 7]) (st := []) dX6_thingIs_12 wm_X6_50 mw_X6_in rfl (Nat.le_of_ble_eq_true rfl) (rmok d) rfl h (fun v11 Sm12 h14 => ?_)
    obtain ⟨m12, rfl, r13, rfl, h⟩ := h14
    show WP G _ _ _ 0 0 15 [(0, .ref b), (1, .int x1), (2, .int x2)] [.int r13] (sh, ta, m12)
    refine WP.if_ne (tgt := 24) dX6_thingIs_15 (by decide) (fun c15 => ?_) (fun c15 => ?_)
    · have h := h.1 c15
      refine WP.iload_n 2 dX6_thingIs_24 rfl rfl ?_
      refine WP.iconst (v := 4) dX6_thingIs_25 rfl ?_
      refine WP.icmp_ge (tgt := 36) dX6_thingIs_26 (by decide) (fun c16 => ?_) (fun c16 => ?_)
      · have h := h.1 c16
        refine WP.iload_n 2 dX6_thingIs_36 rfl rfl ?_
        refine WP.iconst (v := 4) dX6_thingIs_37 rfl ?_
        refine WP.icmp_ne (tgt := 49) dX6_thingIs_38 (by decide) (fun c17 => ?_) (fun c17 => ?_)
        · have h := h.1 c17
          refine WP.iload_n 2 dX6_thingIs_49 rfl rfl ?_
          refine WP.iconst (v := 5) dX6_thingIs_50 rfl ?_
          refine WP.icmp_ne (tgt := 62) dX6_thingIs_51 (by decide) (fun c18 => ?_) (fun c18 => ?_)
          · have h := h.1 c18
            refine WP.iload_n 2 dX6_thingIs_62 rfl rfl ?_
            refine WP.bipush (v := 6) dX6_thingIs_63 rfl ?_
            refine WP.icmp_ne (tgt := 76) dX6_thingIs_65 (by decide) (fun c19 => ?_) (fun c19 => ?_)
            · have h := h.1 c19
              refine WP.aload_n 0 dX6_thingIs_76 rfl rfl ?_
              refine WP.iload_n 1 dX6_thingIs_77 rfl rfl ?_
              refine WP.callV (y := mX6_likes) (As := [.int x1]) (st := []) dX6_thingIs_78 wm_X6_154 mw_X6_likes rfl (Nat.le_of_ble_eq_true rfl) (rmok d) h5 (by decide) rfl h (fun v20 Sm21 h23 => ?_)
              obtain ⟨m21, rfl, r22, rfl, h⟩ := h23
              show WP G _ _ _ 0 0 81 [(0, .ref b), (1, .int x1), (2, .int x2)] [.int r22] (sh, ta, m21)
              exact WP.iret dX6_thingIs_81 rfl (Nat.le_refl _) (Nat.le_refl _) ⟨_, rfl, h⟩
            · have h := h.2 c19
              refine WP.aload_n 0 dX6_thingIs_68 rfl rfl ?_
              refine WP.iload_n 1 dX6_thingIs_69 rfl rfl ?_
              refine WP.callV (y := mX6_needs) (As := [.int x1]) (st := []) dX6_thingIs_70 wm_X6_151 mw_X6_needs rfl (Nat.le_of_ble_eq_true rfl) (rmok d) h5 (by decide) rfl h (fun v24 Sm25 h27 => ?_)
              obtain ⟨m25, rfl, r26, rfl, h⟩ := h27
              show WP G _ _ _ 0 0 73 [(0, .ref b), (1, .int x1), (2, .int x2)] [.int r26] (sh, ta, m25)
              refine WP.goto (tgt := 81) dX6_thingIs_73 (by decide) ?_
              exact WP.iret dX6_thingIs_81 rfl (Nat.le_refl _) (Nat.le_refl _) ⟨_, rfl, h⟩
          · have h := h.2 c18
            refine WP.aload_n 0 dX6_thingIs_54 rfl rfl ?_
            refine WP.iload_n 1 dX6_thingIs_55 rfl rfl ?_
            refine WP.callV (y := mX6_upon) (As := [.int x1]) (st := []) dX6_thingIs_56 wm_X6_127 mw_X6_upon rfl (Nat.le_of_ble_eq_true rfl) (rmok d) h5 (by decide) rfl h (fun v28 Sm29 h31 => ?_)
            obtain ⟨m29, rfl, r30, rfl, h⟩ := h31
            show WP G _ _ _ 0 0 59 [(0, .ref b), (1, .int x1), (2, .int x2)] [.int r30] (sh, ta, m29)
            refine WP.goto (tgt := 81) dX6_thingIs_59 (by decide) ?_
            exact WP.iret dX6_thingIs_81 rfl (Nat.le_refl _) (Nat.le_refl _) ⟨_, rfl, h⟩
        · have h := h.2 c17
          refine WP.aload_n 0 dX6_thingIs_41 rfl rfl ?_
          refine WP.iload_n 1 dX6_thingIs_42 rfl rfl ?_
          refine WP.callV (y := mX6_under) (As := [.int x1]) (st := []) dX6_thingIs_43 wm_X6_130 mw_X6_under rfl (Nat.le_of_ble_eq_true rfl) (rmok d) h5 (by decide) rfl h (fun v32 Sm33 h35 => ?_)
          obtain ⟨m33, rfl, r34, rfl, h⟩ := h35
          show WP G _ _ _ 0 0 46 [(0, .ref b), (1, .int x1), (2, .int x2)] [.int r34] (sh, ta, m33)
          refine WP.goto (tgt := 81) dX6_thingIs_46 (by decide) ?_
          exact WP.iret dX6_thingIs_81 rfl (Nat.le_refl _) (Nat.le_refl _) ⟨_, rfl, h⟩
      · have h := h.2 c16
        refine WP.aload_n 0 dX6_thingIs_29 rfl rfl ?_
        refine WP.iload_n 1 dX6_thingIs_30 rfl rfl ?_
        refine WP.iload_n 2 dX6_thingIs_31 rfl rfl ?_
        refine WP.callV (y := mX6_its) (As := [.int x1, .int x2]) (st := []) dX6_thingIs_32 wm_X6_62 mw_X6_its rfl (Nat.le_of_ble_eq_true rfl) (rmok d) h5 (by decide) rfl h (fun v36 Sm37 h39 => ?_)
        obtain ⟨m37, rfl, r38, rfl, h⟩ := h39
        show WP G _ _ _ 0 0 35 [(0, .ref b), (1, .int x1), (2, .int x2)] [.int r38] (sh, ta, m37)
        exact WP.iret dX6_thingIs_35 rfl (Nat.le_refl _) (Nat.le_refl _) ⟨_, rfl, h⟩
    · have h := h.2 c15
      refine WP.aload_n 0 dX6_thingIs_18 rfl rfl ?_
      refine WP.iconst (v := 1) dX6_thingIs_19 rfl ?_
      refine WP.callV (y := mX6_error) (As := [.int 1]) (st := []) dX6_thingIs_20 wm_X6_68 mw_X6_error rfl (Nat.le_of_ble_eq_true rfl) (rmok d) h5 (by decide) rfl h (fun v40 Sm41 h43 => ?_)
      obtain ⟨m41, rfl, r42, rfl, h⟩ := h43
      show WP G _ _ _ 0 0 23 [(0, .ref b), (1, .int x1), (2, .int x2)] [.int r42] (sh, ta, m41)
      exact WP.iret dX6_thingIs_23 rfl (Nat.le_refl _) (Nat.le_refl _) ⟨_, rfl, h⟩
set_option maxHeartbeats 4000000 in
set_option maxRecDepth 20000 in
theorem rg_X6_isUnder_0 (hG : fl G = false) (x0 : Int32) (x1 : Int32) (h : ((x1 = 0 → K (some (.int 1)) m) ∧ (¬ x1 = 0 → ((x0 = x1 → K (some (.int 1)) m) ∧ (¬ x0 = x1 → ((¬ x1 = (1 : Int32) → ((¬ x1 = (2 : Int32) → K (some (.int 0)) m) ∧ (x1 = (2 : Int32) → ((¬ x0 = (5 : Int32) → K (some (.int 0)) m) ∧ (x0 = (5 : Int32) → K (some (.int 1)) m))))) ∧ (x1 = (1 : Int32) → ((x0 = (4 : Int32) → K (some (.int 1)) m) ∧ (¬ x0 = (4 : Int32) → ((¬ x1 = (2 : Int32) → K (some (.int 0)) m) ∧ (x1 = (2 : Int32) → ((¬ x0 = (5 : Int32) → K (some (.int 0)) m) ∧ (x0 = (5 : Int32) → K (some (.int 1)) m))))))))))))) : WP G (rmD (d + 1) 0 0) mX6_isUnder (QC G sh ta K) 0 0 0 [(0, .int x0), (1, .int x1)] [] (sh, ta, m) := by
  refine WP.iload_n 1 dX6_isUnder_0 rfl rfl ?_
  refine WP.if_eq (tgt := 29) dX6_isUnder_1 (by decide) (fun c1 => ?_) (fun c1 => ?_)
  · have h := h.1 c1
    refine WP.iconst (v := 1) dX6_isUnder_29 rfl ?_
    refine WP.goto (tgt := 34) dX6_isUnder_30 (by decide) ?_
    exact WP.zret dX6_isUnder_34 rfl (Nat.le_refl _) (Nat.le_refl _) rfl ⟨_, rfl, h⟩
  · have h := h.2 c1
    refine WP.iload_n 0 dX6_isUnder_4 rfl rfl ?_
    refine WP.iload_n 1 dX6_isUnder_5 rfl rfl ?_
    refine WP.icmp_eq (tgt := 29) dX6_isUnder_6 (by decide) (fun c2 => ?_) (fun c2 => ?_)
    · have h := h.1 c2
      refine WP.iconst (v := 1) dX6_isUnder_29 rfl ?_
      refine WP.goto (tgt := 34) dX6_isUnder_30 (by decide) ?_
      exact WP.zret dX6_isUnder_34 rfl (Nat.le_refl _) (Nat.le_refl _) rfl ⟨_, rfl, h⟩
    · have h := h.2 c2
      refine WP.iload_n 1 dX6_isUnder_9 rfl rfl ?_
      refine WP.iconst (v := 1) dX6_isUnder_10 rfl ?_
      refine WP.icmp_ne (tgt := 19) dX6_isUnder_11 (by decide) (fun c3 => ?_) (fun c3 => ?_)
      · have h := h.1 c3
        refine WP.iload_n 1 dX6_isUnder_19 rfl rfl ?_
        refine WP.iconst (v := 2) dX6_isUnder_20 rfl ?_
        refine WP.icmp_ne (tgt := 33) dX6_isUnder_21 (by decide) (fun c4 => ?_) (fun c4 => ?_)
        · have h := h.1 c4
          refine WP.iconst (v := 0) dX6_isUnder_33 rfl ?_
          exact WP.zret dX6_isUnder_34 rfl (Nat.le_refl _) (Nat.le_refl _) rfl ⟨_, rfl, h⟩
        · have h := h.2 c4
          refine WP.iload_n 0 dX6_isUnder_24 rfl rfl ?_
          refine WP.iconst (v := 5) dX6_isUnder_25 rfl ?_
          refine WP.icmp_ne (tgt := 33) dX6_isUnder_26 (by decide) (fun c5 => ?_) (fun c5 => ?_)
          · have h := h.1 c5
            refine WP.iconst (v := 0) dX6_isUnder_33 rfl ?_
            exact WP.zret dX6_isUnder_34 rfl (Nat.le_refl _) (Nat.le_refl _) rfl ⟨_, rfl, h⟩
          · have h := h.2 c5
            refine WP.iconst (v := 1) dX6_isUnder_29 rfl ?_
            refine WP.goto (tgt := 34) dX6_isUnder_30 (by decide) ?_
            exact WP.zret dX6_isUnder_34 rfl (Nat.le_refl _) (Nat.le_refl _) rfl ⟨_, rfl, h⟩
      · have h := h.2 c3
        refine WP.iload_n 0 dX6_isUnder_14 rfl rfl ?_
        refine WP.iconst (v := 4) dX6_isUnder_15 rfl ?_
        refine WP.icmp_eq (tgt := 29) dX6_isUnder_16 (by decide) (fun c6 => ?_) (fun c6 => ?_)
        · have h := h.1 c6
          refine WP.iconst (v := 1) dX6_isUnder_29 rfl ?_
          refine WP.goto (tgt := 34) dX6_isUnder_30 (by decide) ?_
          exact WP.zret dX6_isUnder_34 rfl (Nat.le_refl _) (Nat.le_refl _) rfl ⟨_, rfl, h⟩
        · have h := h.2 c6
          refine WP.iload_n 1 dX6_isUnder_19 rfl rfl ?_
          refine WP.iconst (v := 2) dX6_isUnder_20 rfl ?_
          refine WP.icmp_ne (tgt := 33) dX6_isUnder_21 (by decide) (fun c7 => ?_) (fun c7 => ?_)
          · have h := h.1 c7
            refine WP.iconst (v := 0) dX6_isUnder_33 rfl ?_
            exact WP.zret dX6_isUnder_34 rfl (Nat.le_refl _) (Nat.le_refl _) rfl ⟨_, rfl, h⟩
          · have h := h.2 c7
            refine WP.iload_n 0 dX6_isUnder_24 rfl rfl ?_
            refine WP.iconst (v := 5) dX6_isUnder_25 rfl ?_
            refine WP.icmp_ne (tgt := 33) dX6_isUnder_26 (by decide) (fun c8 => ?_) (fun c8 => ?_)
            · have h := h.1 c8
              refine WP.iconst (v := 0) dX6_isUnder_33 rfl ?_
              exact WP.zret dX6_isUnder_34 rfl (Nat.le_refl _) (Nat.le_refl _) rfl ⟨_, rfl, h⟩
            · have h := h.2 c8
              refine WP.iconst (v := 1) dX6_isUnder_29 rfl ?_
              refine WP.goto (tgt := 34) dX6_isUnder_30 (by decide) ?_
              exact WP.zret dX6_isUnder_34 rfl (Nat.le_refl _) (Nat.le_refl _) rfl ⟨_, rfl, h⟩
set_option maxHeartbeats 4000000 in
set_option maxRecDepth 20000 in
theorem rg_X6_as_0 (hG : fl G = false) (b : Nat) (x1 : Int32) (x2 : Int32) (h : sh[b]? = some (.inl 6) ∧ Cal G mX6_isThing d [.ref b, .int x1] sh ta m (fun v1 m2 => ∃ r3, v1 = some (.int r3) ∧ ((r3 = 0 → Cal G mX6_error d [.ref b, .int 1] sh ta m2 (fun v7 m8 => ∃ r9, v7 = some (.int r9) ∧ K (some (.int r9)) m8)) ∧ (¬ r3 = 0 → Cal G mX6_in d [.int x2, .int 0, .int 6] sh ta m2 (fun v11 m12 => ∃ r13, v11 = some (.int r13) ∧ ((¬ r13 = 0 → Cal G mX6_its d [.ref b, .int x1, .int 0] sh ta m12 (fun v16 m17 => ∃ r18, v16 = some (.int r18) ∧ Cal G mX6_isUnder d [.int r18, .int x2] sh ta m17 (fun v20 m21 => ∃ r22, v20 = some (.int r22) ∧ ((r22 = 0 → Cal G mX6_error d [.ref b, .int 5] sh ta m21 (fun v25 m26 => ∃ r27, v25 = some (.int r27) ∧ K (some (.int r27)) m26)) ∧ (¬ r22 = 0 → Cal G mX6_its d [.ref b, .int x1, .int 2] sh ta m21 (fun v29 m30 => ∃ r31, v29 = some (.int r31) ∧ K (some (.int r31)) m30)))))) ∧ (r13 = 0 → Cal G mX6_error d [.ref b, .int 1] sh ta m12 (fun v33 m34 => ∃ r35, v33 = some (.int r35) ∧ K (some (.int r35)) m34)))))))) : WP G (rmD (d + 1) 0 0) mX6_as (QC G sh ta K) 0 0 0 [(0, .ref b), (1, .int x1), (2, .int x2)] [] (sh, ta, m) := by
  refine WP.aload_n 0 dX6_as_0 rfl rfl ?_
  refine WP.iload_n 1 dX6_as_1 rfl rfl ?_
  obtain ⟨h5, h⟩ := h
  refine WP.callV (y := mX6_isThing) (As := [.int x1]) (st := []) dX6_as_2 wm_X6_148 mw_X6_isThing rfl (Nat.le_of_ble_eq_true rfl) (rmok d) h5 (by decide) rfl h (fun v1 Sm2 h4 => ?_)
  obtain ⟨m2, rfl, r3, rfl, h⟩ := h4
  show WP G _ _ _ 0 0 5 [(0, .ref b), (1, .int x1), (2, .int x2)] [.int r3] (sh, ta, m2)
  refine WP.if_eq (tgt := 18) dX6_as_5 (by decide) (fun c6 => ?_) (fun c6 => ?_)
  · have h := h.1 c6
    refine WP.aload_n 0 dX6_as_18 rfl rfl ?_
    refine WP.iconst (v := 1) dX6_as_19 rfl ?_
    refine WP.callV (y := mX6_error) (As := [.int 1]) (st := []) dX6_as_20 wm_X6_68 mw_X6_error rfl (Nat.le_of_ble_eq_true rfl) (rmok d) h5 (by decide) rfl h (fun v7 Sm8 h10 => ?_)
    obtain ⟨m8, rfl, r9, rfl, h⟩ := h10
    show WP G _ _ _ 0 0 23 [(0, .ref b), (1, .int x1), (2, .int x2)] [.int r9] (sh, ta, m8)
    exact WP.iret dX6_as_23 rfl (Nat.le_refl _) (Nat.le_refl _) ⟨_, rfl, h⟩
  · have h := h.2 c6
    refine WP.iload_n 2 dX6_as_8 rfl rfl ?_
    refine WP.iconst (v := 0) dX6_as_9 rfl ?_
    refine WP.bipush (v := 6) dX6_as_10 rfl ?_
    refine WP.callS (y := mX6_in) (As := [.int x2, .int 0, .int 6]) (st := []) dX6_as_12 wm_X6_50 mw_X6_in rfl (Nat.le_of_ble_eq_true rfl) (rmok d) rfl h (fun v11 Sm12 h14 => ?_)
    obtain ⟨m12, rfl, r13, rfl, h⟩ := h14
    show WP G _ _ _ 0 0 15 [(0, .ref b), (1, .int x1), (2, .int x2)] [.int r13] (sh, ta, m12)
    refine WP.if_ne (tgt := 24) dX6_as_15 (by decide) (fun c15 => ?_) (fun c15 => ?_)
    · have h := h.1 c15
      refine WP.aload_n 0 dX6_as_24 rfl rfl ?_
      refine WP.iload_n 1 dX6_as_25 rfl rfl ?_
      refine WP.iconst (v := 0) dX6_as_26 rfl ?_
      refine WP.callV (y := mX6_its) (As := [.int x1, .int 0]) (st := []) dX6_as_27 wm_X6_62 mw_X6_its rfl (Nat.le_of_ble_eq_true rfl) (rmok d) h5 (by decide) rfl h (fun v16 Sm17 h19 => ?_)
      obtain ⟨m17, rfl, r18, rfl, h⟩ := h19
      show WP G _ _ _ 0 0 30 [(0, .ref b), (1, .int x1), (2, .int x2)] [.int r18] (sh, ta, m17)
      refine WP.iload_n 2 dX6_as_30 rfl rfl ?_
      refine WP.callS (y := mX6_isUnder) (As := [.int r18, .int x2]) (st := []) dX6_as_31 wm_X6_157 mw_X6_isUnder rfl (Nat.le_of_ble_eq_true rfl) (rmok d) rfl h (fun v20 Sm21 h23 => ?_)
      obtain ⟨m21, rfl, r22, rfl, h⟩ := h23
      show WP G _ _ _ 0 0 34 [(0, .ref b), (1, .int x1), (2, .int x2)] [.int r22] (sh, ta, m21)
      refine WP.if_eq (tgt := 46) dX6_as_34 (by decide) (fun c24 => ?_) (fun c24 => ?_)
      · have h := h.1 c24
        refine WP.aload_n 0 dX6_as_46 rfl rfl ?_
        refine WP.iconst (v := 5) dX6_as_47 rfl ?_
        refine WP.callV (y := mX6_error) (As := [.int 5]) (st := []) dX6_as_48 wm_X6_68 mw_X6_error rfl (Nat.le_of_ble_eq_true rfl) (rmok d) h5 (by decide) rfl h (fun v25 Sm26 h28 => ?_)
        obtain ⟨m26, rfl, r27, rfl, h⟩ := h28
        show WP G _ _ _ 0 0 51 [(0, .ref b), (1, .int x1), (2, .int x2)] [.int r27] (sh, ta, m26)
        exact WP.iret dX6_as_51 rfl (Nat.le_refl _) (Nat.le_refl _) ⟨_, rfl, h⟩
      · have h := h.2 c24
        refine WP.aload_n 0 dX6_as_37 rfl rfl ?_
        refine WP.iload_n 1 dX6_as_38 rfl rfl ?_
        refine WP.iconst (v := 2) dX6_as_39 rfl ?_
        refine WP.callV (y := mX6_its) (As := [.int x1, .int 2]) (st := []) dX6_as_40 wm_X6_62 mw_X6_its rfl (Nat.le_of_ble_eq_true rfl) (rmok d) h5 (by decide) rfl h (fun v29 Sm30 h32 => ?_)
        obtain ⟨m30, rfl, r31, rfl, h⟩ := h32
        show WP G _ _ _ 0 0 43 [(0, .ref b), (1, .int x1), (2, .int x2)] [.int r31] (sh, ta, m30)
        refine WP.goto (tgt := 51) dX6_as_43 (by decide) ?_
        exact WP.iret dX6_as_51 rfl (Nat.le_refl _) (Nat.le_refl _) ⟨_, rfl, h⟩
    · have h := h.2 c15
      refine WP.aload_n 0 dX6_as_18 rfl rfl ?_
      refine WP.iconst (v := 1) dX6_as_19 rfl ?_
      refine WP.callV (y := mX6_error) (As := [.int 1]) (st := []) dX6_as_20 wm_X6_68 mw_X6_error rfl (Nat.le_of_ble_eq_true rfl) (rmok d) h5 (by decide) rfl h (fun v33 Sm34 h36 => ?_)
      obtain ⟨m34, rfl, r35, rfl, h⟩ := h36
      show WP G _ _ _ 0 0 23 [(0, .ref b), (1, .int x1), (2, .int x2)] [.int r35] (sh, ta, m34)
      exact WP.iret dX6_as_23 rfl (Nat.le_refl _) (Nat.le_refl _) ⟨_, rfl, h⟩
set_option maxHeartbeats 4000000 in
set_option maxRecDepth 20000 in
theorem rg_X6_set_0 (hG : fl G = false) (b : Nat) (x1 : Int32) (x2 : Int32) (x3 : Int32) (h : ((¬ x2 = 0 → ((¬ x2 = (1 : Int32) → sh[b]? = some (.inl 6) ∧ Cal G mX6_isThing d [.ref b, .int x1] sh ta m (fun v3 m4 => ∃ r5, v3 = some (.int r5) ∧ ((r5 = 0 → Cal G mX6_error d [.ref b, .int 1] sh ta m4 (fun v9 m10 => ∃ r11, v9 = some (.int r11) ∧ K (some (.int r11)) m10)) ∧ (¬ r5 = 0 → Cal G mX6_in d [.int x2, .int 0, .int 2] sh ta m4 (fun v13 m14 => ∃ r15, v13 = some (.int r15) ∧ ((r15 = 0 → Cal G mX6_error d [.ref b, .int 1] sh ta m14 (fun v18 m19 => ∃ r20, v18 = some (.int r20) ∧ K (some (.int r20)) m19)) ∧ (¬ r15 = 0 → Cal G mX6_in d [.int x3, .int 0, .int 99] sh ta m14 (fun v22 m23 => ∃ r24, v22 = some (.int r24) ∧ ((r24 = 0 → Cal G mX6_error d [.ref b, .int 1] sh ta m23 (fun v27 m28 => ∃ r29, v27 = some (.int r29) ∧ K (some (.int r29)) m28)) ∧ (¬ r24 = 0 → Cal G mX6_change1 d [.ref b, .int ((8 + (4 * x1)) + x2), .int x3] sh ta m23 (fun v31 m32 => ∃ r33, v31 = some (.int r33) ∧ K (some (.int r33)) m32))))))))))) ∧ (x2 = (1 : Int32) → sh[b]? = some (.inl 6) ∧ Cal G mX6_isThing d [.ref b, .int x1] sh ta m (fun v35 m36 => ∃ r37, v35 = some (.int r37) ∧ ((r37 = 0 → Cal G mX6_error d [.ref b, .int 1] sh ta m36 (fun v41 m42 => ∃ r43, v41 = some (.int r43) ∧ K (some (.int r43)) m42)) ∧ (¬ r37 = 0 → Cal G mX6_in d [.int x2, .int 0, .int 2] sh ta m36 (fun v45 m46 => ∃ r47, v45 = some (.int r47) ∧ ((r47 = 0 → Cal G mX6_error d [.ref b, .int 1] sh ta m46 (fun v50 m51 => ∃ r52, v50 = some (.int r52) ∧ K (some (.int r52)) m51)) ∧ (¬ r47 = 0 → Cal G mX6_in d [.int x3, .int 0, .int 9] sh ta m46 (fun v54 m55 => ∃ r56, v54 = some (.int r56) ∧ ((r56 = 0 → Cal G mX6_error d [.ref b, .int 1] sh ta m55 (fun v59 m60 => ∃ r61, v59 = some (.int r61) ∧ K (some (.int r61)) m60)) ∧ (¬ r56 = 0 → Cal G mX6_change1 d [.ref b, .int ((8 + (4 * x1)) + x2), .int x3] sh ta m55 (fun v63 m64 => ∃ r65, v63 = some (.int r65) ∧ K (some (.int r65)) m64))))))))))))) ∧ (x2 = 0 → sh[b]? = some (.inl 6) ∧ Cal G mX6_isThing d [.ref b, .int x1] sh ta m (fun v67 m68 => ∃ r69, v67 = some (.int r69) ∧ ((r69 = 0 → Cal G mX6_error d [.ref b, .int 1] sh ta m68 (fun v73 m74 => ∃ r75, v73 = some (.int r75) ∧ K (some (.int r75)) m74)) ∧ (¬ r69 = 0 → Cal G mX6_in d [.int x2, .int 0, .int 2] sh ta m68 (fun v77 m78 => ∃ r79, v77 = some (.int r79) ∧ ((r79 = 0 → Cal G mX6_error d [.ref b, .int 1] sh ta m78 (fun v82 m83 => ∃ r84, v82 = some (.int r84) ∧ K (some (.int r84)) m83)) ∧ (¬ r79 = 0 → Cal G mX6_in d [.int x3, .int 0, .int 6] sh ta m78 (fun v86 m87 => ∃ r88, v86 = some (.int r88) ∧ ((r88 = 0 → Cal G mX6_error d [.ref b, .int 1] sh ta m87 (fun v91 m92 => ∃ r93, v91 = some (.int r93) ∧ K (some (.int r93)) m92)) ∧ (¬ r88 = 0 → Cal G mX6_change1 d [.ref b, .int ((8 + (4 * x1)) + x2), .int x3] sh ta m87 (fun v95 m96 => ∃ r97, v95 = some (.int r97) ∧ K (some (.int r97)) m96))))))))))))) : WP G (rmD (d + 1) 0 0) mX6_set (QC G sh ta K) 0 0 0 [(0, .ref b), (1, .int x1), (2, .int x2), (3, .int x3)] [] (sh, ta, m) := by
  refine WP.iload_n 2 dX6_set_0 rfl rfl ?_
  refine WP.if_ne (tgt := 9) dX6_set_1 (by decide) (fun c1 => ?_) (fun c1 => ?_)
  · have h := h.1 c1
    refine WP.iload_n 2 dX6_set_9 rfl rfl ?_
    refine WP.iconst (v := 1) dX6_set_10 rfl ?_
    refine WP.icmp_ne (tgt := 19) dX6_set_11 (by decide) (fun c2 => ?_) (fun c2 => ?_)
    · have h := h.1 c2
      refine WP.bipush (v := 99) dX6_set_19 rfl ?_
      refine WP.istore (lv2 := [(4, .int 99), (0, .ref b), (1, .int x1), (2, .int x2), (3, .int x3)]) dX6_set_21 (by decide) rfl ?_
      refine WP.aload_n 1 dX6_set_23 rfl rfl ?_
      refine WP.iload_n 2 dX6_set_24 rfl rfl ?_
      obtain ⟨h7, h⟩ := h
      refine WP.callV (y := mX6_isThing) (As := [.int x1]) (st := []) dX6_set_25 wm_X6_148 mw_X6_isThing rfl (Nat.le_of_ble_eq_true rfl) (rmok d) h7 (by decide) rfl h (fun v3 Sm4 h6 => ?_)
      obtain ⟨m4, rfl, r5, rfl, h⟩ := h6
      show WP G _ _ _ 0 0 28 [(4, .int 99), (0, .ref b), (1, .int x1), (2, .int x2), (3, .int x3)] [.int r5] (sh, ta, m4)
      refine WP.if_eq (tgt := 66) dX6_set_28 (by decide) (fun c8 => ?_) (fun c8 => ?_)
      · have h := h.1 c8
        refine WP.aload_n 1 dX6_set_66 rfl rfl ?_
        refine WP.iconst (v := 1) dX6_set_67 rfl ?_
        refine WP.callV (y := mX6_error) (As := [.int 1]) (st := []) dX6_set_68 wm_X6_68 mw_X6_error rfl (Nat.le_of_ble_eq_true rfl) (rmok d) h7 (by decide) rfl h (fun v9 Sm10 h12 => ?_)
        obtain ⟨m10, rfl, r11, rfl, h⟩ := h12
        show WP G _ _ _ 0 0 71 [(4, .int 99), (0, .ref b), (1, .int x1), (2, .int x2), (3, .int x3)] [.int r11] (sh, ta, m10)
        exact WP.iret dX6_set_71 rfl (Nat.le_refl _) (Nat.le_refl _) ⟨_, rfl, h⟩
      · have h := h.2 c8
        refine WP.iload_n 3 dX6_set_31 rfl rfl ?_
        refine WP.iconst (v := 0) dX6_set_32 rfl ?_
        refine WP.iconst (v := 2) dX6_set_33 rfl ?_
        refine WP.callS (y := mX6_in) (As := [.int x2, .int 0, .int 2]) (st := []) dX6_set_34 wm_X6_50 mw_X6_in rfl (Nat.le_of_ble_eq_true rfl) (rmok d) rfl h (fun v13 Sm14 h16 => ?_)
        obtain ⟨m14, rfl, r15, rfl, h⟩ := h16
        show WP G _ _ _ 0 0 37 [(4, .int 99), (0, .ref b), (1, .int x1), (2, .int x2), (3, .int x3)] [.int r15] (sh, ta, m14)
        refine WP.if_eq (tgt := 66) dX6_set_37 (by decide) (fun c17 => ?_) (fun c17 => ?_)
        · have h := h.1 c17
          refine WP.aload_n 1 dX6_set_66 rfl rfl ?_
          refine WP.iconst (v := 1) dX6_set_67 rfl ?_
          refine WP.callV (y := mX6_error) (As := [.int 1]) (st := []) dX6_set_68 wm_X6_68 mw_X6_error rfl (Nat.le_of_ble_eq_true rfl) (rmok d) h7 (by decide) rfl h (fun v18 Sm19 h21 => ?_)
          obtain ⟨m19, rfl, r20, rfl, h⟩ := h21
          show WP G _ _ _ 0 0 71 [(4, .int 99), (0, .ref b), (1, .int x1), (2, .int x2), (3, .int x3)] [.int r20] (sh, ta, m19)
          exact WP.iret dX6_set_71 rfl (Nat.le_refl _) (Nat.le_refl _) ⟨_, rfl, h⟩
        · have h := h.2 c17
          refine WP.iload_n 4 dX6_set_40 rfl rfl ?_
          refine WP.iconst (v := 0) dX6_set_41 rfl ?_
          refine WP.iload 0 dX6_set_42 rfl ?_
          refine WP.callS (y := mX6_in) (As := [.int x3, .int 0, .int 99]) (st := []) dX6_set_44 wm_X6_50 mw_X6_in rfl (Nat.le_of_ble_eq_true rfl) (rmok d) rfl h (fun v22 Sm23 h25 => ?_)
          obtain ⟨m23, rfl, r24, rfl, h⟩ := h25
          show WP G _ _ _ 0 0 47 [(4, .int 99), (0, .ref b), (1, .int x1), (2, .int x2), (3, .int x3)] [.int r24] (sh, ta, m23)
          refine WP.if_eq (tgt := 66) dX6_set_47 (by decide) (fun c26 => ?_) (fun c26 => ?_)
          · have h := h.1 c26
            refine WP.aload_n 1 dX6_set_66 rfl rfl ?_
            refine WP.iconst (v := 1) dX6_set_67 rfl ?_
            refine WP.callV (y := mX6_error) (As := [.int 1]) (st := []) dX6_set_68 wm_X6_68 mw_X6_error rfl (Nat.le_of_ble_eq_true rfl) (rmok d) h7 (by decide) rfl h (fun v27 Sm28 h30 => ?_)
            obtain ⟨m28, rfl, r29, rfl, h⟩ := h30
            show WP G _ _ _ 0 0 71 [(4, .int 99), (0, .ref b), (1, .int x1), (2, .int x2), (3, .int x3)] [.int r29] (sh, ta, m28)
            exact WP.iret dX6_set_71 rfl (Nat.le_refl _) (Nat.le_refl _) ⟨_, rfl, h⟩
          · have h := h.2 c26
            refine WP.aload_n 1 dX6_set_50 rfl rfl ?_
            refine WP.bipush (v := 8) dX6_set_51 rfl ?_
            refine WP.iconst (v := 4) dX6_set_53 rfl ?_
            refine WP.iload_n 2 dX6_set_54 rfl rfl ?_
            refine WP.imul dX6_set_55 ?_
            refine WP.iadd dX6_set_56 ?_
            refine WP.iload_n 3 dX6_set_57 rfl rfl ?_
            refine WP.iadd dX6_set_58 ?_
            refine WP.iload_n 4 dX6_set_59 rfl rfl ?_
            refine WP.callV (y := mX6_change1) (As := [.int ((8 + (4 * x1)) + x2), .int x3]) (st := []) dX6_set_60 wm_X6_161 mw_X6_change1 rfl (Nat.le_of_ble_eq_true rfl) (rmok d) h7 (by decide) rfl h (fun v31 Sm32 h34 => ?_)
            obtain ⟨m32, rfl, r33, rfl, h⟩ := h34
            show WP G _ _ _ 0 0 63 [(4, .int 99), (0, .ref b), (1, .int x1), (2, .int x2), (3, .int x3)] [.int r33] (sh, ta, m32)
            refine WP.goto (tgt := 71) dX6_set_63 (by decide) ?_
            exact WP.iret dX6_set_71 rfl (Nat.le_refl _) (Nat.le_refl _) ⟨_, rfl, h⟩
    · have h := h.2 c2
      refine WP.bipush (v := 9) dX6_set_14 rfl ?_
      refine WP.goto (tgt := 21) dX6_set_16 (by decide) ?_
      refine WP.istore (lv2 := [(4, .int 9), (0, .ref b), (1, .int x1), (2, .int x2), (3, .int x3)]) dX6_set_21 (by decide) rfl ?_
      refine WP.aload_n 1 dX6_set_23 rfl rfl ?_
      refine WP.iload_n 2 dX6_set_24 rfl rfl ?_
      obtain ⟨h39, h⟩ := h
      refine WP.callV (y := mX6_isThing) (As := [.int x1]) (st := []) dX6_set_25 wm_X6_148 mw_X6_isThing rfl (Nat.le_of_ble_eq_true rfl) (rmok d) h39 (by decide) rfl h (fun v35 Sm36 h38 => ?_)
      obtain ⟨m36, rfl, r37, rfl, h⟩ := h38
      show WP G _ _ _ 0 0 28 [(4, .int 9), (0, .ref b), (1, .int x1), (2, .int x2), (3, .int x3)] [.int r37] (sh, ta, m36)
      refine WP.if_eq (tgt := 66) dX6_set_28 (by decide) (fun c40 => ?_) (fun c40 => ?_)
      · have h := h.1 c40
        refine WP.aload_n 1 dX6_set_66 rfl rfl ?_
        refine WP.iconst (v := 1) dX6_set_67 rfl ?_
        refine WP.callV (y := mX6_error) (As := [.int 1]) (st := []) dX6_set_68 wm_X6_68 mw_X6_error rfl (Nat.le_of_ble_eq_true rfl) (rmok d) h39 (by decide) rfl h (fun v41 Sm42 h44 => ?_)
        obtain ⟨m42, rfl, r43, rfl, h⟩ := h44
        show WP G _ _ _ 0 0 71 [(4, .int 9), (0, .ref b), (1, .int x1), (2, .int x2), (3, .int x3)] [.int r43] (sh, ta, m42)
        exact WP.iret dX6_set_71 rfl (Nat.le_refl _) (Nat.le_refl _) ⟨_, rfl, h⟩
      · have h := h.2 c40
        refine WP.iload_n 3 dX6_set_31 rfl rfl ?_
        refine WP.iconst (v := 0) dX6_set_32 rfl ?_
        refine WP.iconst (v := 2) dX6_set_33 rfl ?_
        refine WP.callS (y := mX6_in) (As := [.int x2, .int 0, .int 2]) (st := []) dX6_set_34 wm_X6_50 mw_X6_in rfl (Nat.le_of_ble_eq_true rfl) (rmok d) rfl h (fun v45 Sm46 h48 => ?_)
        obtain ⟨m46, rfl, r47, rfl, h⟩ := h48
        show WP G _ _ _ 0 0 37 [(4, .int 9), (0, .ref b), (1, .int x1), (2, .int x2), (3, .int x3)] [.int r47] (sh, ta, m46)
        refine WP.if_eq (tgt := 66) dX6_set_37 (by decide) (fun c49 => ?_) (fun c49 => ?_)
        · have h := h.1 c49
          refine WP.aload_n 1 dX6_set_66 rfl rfl ?_
          refine WP.iconst (v := 1) dX6_set_67 rfl ?_
          refine WP.callV (y := mX6_error) (As := [.int 1]) (st := []) dX6_set_68 wm_X6_68 mw_X6_error rfl (Nat.le_of_ble_eq_true rfl) (rmok d) h39 (by decide) rfl h (fun v50 Sm51 h53 => ?_)
          obtain ⟨m51, rfl, r52, rfl, h⟩ := h53
          show WP G _ _ _ 0 0 71 [(4, .int 9), (0, .ref b), (1, .int x1), (2, .int x2), (3, .int x3)] [.int r52] (sh, ta, m51)
          exact WP.iret dX6_set_71 rfl (Nat.le_refl _) (Nat.le_refl _) ⟨_, rfl, h⟩
        · have h := h.2 c49
          refine WP.iload_n 4 dX6_set_40 rfl rfl ?_
          refine WP.iconst (v := 0) dX6_set_41 rfl ?_
          refine WP.iload 0 dX6_set_42 rfl ?_
          refine WP.callS (y := mX6_in) (As := [.int x3, .int 0, .int 9]) (st := []) dX6_set_44 wm_X6_50 mw_X6_in rfl (Nat.le_of_ble_eq_true rfl) (rmok d) rfl h (fun v54 Sm55 h57 => ?_)
          obtain ⟨m55, rfl, r56, rfl, h⟩ := h57
          show WP G _ _ _ 0 0 47 [(4, .int 9), (0, .ref b), (1, .int x1), (2, .int x2), (3, .int x3)] [.int r56] (sh, ta, m55)
          refine WP.if_eq (tgt := 66) dX6_set_47 (by decide) (fun c58 => ?_) (fun c58 => ?_)
          · have h := h.1 c58
            refine WP.aload_n 1 dX6_set_66 rfl rfl ?_
            refine WP.iconst (v := 1) dX6_set_67 rfl ?_
            refine WP.callV (y := mX6_error) (As := [.int 1]) (st := []) dX6_set_68 wm_X6_68 mw_X6_error rfl (Nat.le_of_ble_eq_true rfl) (rmok d) h39 (by decide) rfl h (fun v59 Sm60 h62 => ?_)
            obtain ⟨m60, rfl, r61, rfl, h⟩ := h62
            show WP G _ _ _ 0 0 71 [(4, .int 9), (0, .ref b), (1, .int x1), (2, .int x2), (3, .int x3)] [.int r61] (sh, ta, m60)
            exact WP.iret dX6_set_71 rfl (Nat.le_refl _) (Nat.le_refl _) ⟨_, rfl, h⟩
          · have h := h.2 c58
            refine WP.aload_n 1 dX6_set_50 rfl rfl ?_
            refine WP.bipush (v := 8) dX6_set_51 rfl ?_
            refine WP.iconst (v := 4) dX6_set_53 rfl ?_
            refine WP.iload_n 2 dX6_set_54 rfl rfl ?_
            refine WP.imul dX6_set_55 ?_
            refine WP.iadd dX6_set_56 ?_
            refine WP.iload_n 3 dX6_set_57 rfl rfl ?_
            refine WP.iadd dX6_set_58 ?_
            refine WP.iload_n 4 dX6_set_59 rfl rfl ?_
            refine WP.callV (y := mX6_change1) (As := [.int ((8 + (4 * x1)) + x2), .int x3]) (st := []) dX6_set_60 wm_X6_161 mw_X6_change1 rfl (Nat.le_of_ble_eq_true rfl) (rmok d) h39 (by decide) rfl h (fun v63 Sm64 h66 => ?_)
            obtain ⟨m64, rfl, r65, rfl, h⟩ := h66
            show WP G _ _ _ 0 0 63 [(4, .int 9), (0, .ref b), (1, .int x1), (2, .int x2), (3, .int x3)] [.int r65] (sh, ta, m64)
            refine WP.goto (tgt := 71) dX6_set_63 (by decide) ?_
            exact WP.iret dX6_set_71 rfl (Nat.le_refl _) (Nat.le_refl _) ⟨_, rfl, h⟩
  · have h := h.2 c1
    refine WP.bipush (v := 6) dX6_set_4 rfl ?_
    refine WP.goto (tgt := 21) dX6_set_6 (by decide) ?_
    refine WP.istore (lv2 := [(4, .int 6), (0, .ref b), (1, .int x1), (2, .int x2), (3, .int x3)]) dX6_set_21 (by decide) rfl ?_
    refine WP.aload_n 1 dX6_set_23 rfl rfl ?_
    refine WP.iload_n 2 dX6_set_24 rfl rfl ?_
    obtain ⟨h71, h⟩ := h
    refine WP.callV (y := mX6_isThing) (As := [.int x1]) (st := []) dX6_set_25 wm_X6_148 mw_X6_isThing rfl (Nat.le_of_ble_eq_true rfl) (rmok d) h71 (by decide) rfl h (fun v67 Sm68 h70 => ?_)
    obtain ⟨m68, rfl, r69, rfl, h⟩ := h70
    show WP G _ _ _ 0 0 28 [(4, .int 6), (0, .ref b), (1, .int x1), (2, .int x2), (3, .int x3)] [.int r69] (sh, ta, m68)
    refine WP.if_eq (tgt := 66) dX6_set_28 (by decide) (fun c72 => ?_) (fun c72 => ?_)
    · have h := h.1 c72
      refine WP.aload_n 1 dX6_set_66 rfl rfl ?_
      refine WP.iconst (v := 1) dX6_set_67 rfl ?_
      refine WP.callV (y := mX6_error) (As := [.int 1]) (st := []) dX6_set_68 wm_X6_68 mw_X6_error rfl (Nat.le_of_ble_eq_true rfl) (rmok d) h71 (by decide) rfl h (fun v73 Sm74 h76 => ?_)
      obtain ⟨m74, rfl, r75, rfl, h⟩ := h76
      show WP G _ _ _ 0 0 71 [(4, .int 6), (0, .ref b), (1, .int x1), (2, .int x2), (3, .int x3)] [.int r75] (sh, ta, m74)
      exact WP.iret dX6_set_71 rfl (Nat.le_refl _) (Nat.le_refl _) ⟨_, rfl, h⟩
    · have h := h.2 c72
      refine WP.iload_n 3 dX6_set_31 rfl rfl ?_
      refine WP.iconst (v := 0) dX6_set_32 rfl ?_
      refine WP.iconst (v := 2) dX6_set_33 rfl ?_
      refine WP.callS (y := mX6_in) (As := [.int x2, .int 0, .int 2]) (st := []) dX6_set_34 wm_X6_50 mw_X6_in rfl (Nat.le_of_ble_eq_true rfl) (rmok d) rfl h (fun v77 Sm78 h80 => ?_)
      obtain ⟨m78, rfl, r79, rfl, h⟩ := h80
      show WP G _ _ _ 0 0 37 [(4, .int 6), (0, .ref b), (1, .int x1), (2, .int x2), (3, .int x3)] [.int r79] (sh, ta, m78)
      refine WP.if_eq (tgt := 66) dX6_set_37 (by decide) (fun c81 => ?_) (fun c81 => ?_)
      · have h := h.1 c81
        refine WP.aload_n 1 dX6_set_66 rfl rfl ?_
        refine WP.iconst (v := 1) dX6_set_67 rfl ?_
        refine WP.callV (y := mX6_error) (As := [.int 1]) (st := []) dX6_set_68 wm_X6_68 mw_X6_error rfl (Nat.le_of_ble_eq_true rfl) (rmok d) h71 (by decide) rfl h (fun v82 Sm83 h85 => ?_)
        obtain ⟨m83, rfl, r84, rfl, h⟩ := h85
        show WP G _ _ _ 0 0 71 [(4, .int 6), (0, .ref b), (1, .int x1), (2, .int x2), (3, .int x3)] [.int r84] (sh, ta, m83)
        exact WP.iret dX6_set_71 rfl (Nat.le_refl _) (Nat.le_refl _) ⟨_, rfl, h⟩
      · have h := h.2 c81
        refine WP.iload_n 4 dX6_set_40 rfl rfl ?_
        refine WP.iconst (v := 0) dX6_set_41 rfl ?_
        refine WP.iload 0 dX6_set_42 rfl ?_
        refine WP.callS (y := mX6_in) (As := [.int x3, .int 0, .int 6]) (st := []) dX6_set_44 wm_X6_50 mw_X6_in rfl (Nat.le_of_ble_eq_true rfl) (rmok d) rfl h (fun v86 Sm87 h89 => ?_)
        obtain ⟨m87, rfl, r88, rfl, h⟩ := h89
        show WP G _ _ _ 0 0 47 [(4, .int 6), (0, .ref b), (1, .int x1), (2, .int x2), (3, .int x3)] [.int r88] (sh, ta, m87)
        refine WP.if_eq (tgt := 66) dX6_set_47 (by decide) (fun c90 => ?_) (fun c90 => ?_)
        · have h := h.1 c90
          refine WP.aload_n 1 dX6_set_66 rfl rfl ?_
          refine WP.iconst (v := 1) dX6_set_67 rfl ?_
          refine WP.callV (y := mX6_error) (As := [.int 1]) (st := []) dX6_set_68 wm_X6_68 mw_X6_error rfl (Nat.le_of_ble_eq_true rfl) (rmok d) h71 (by decide) rfl h (fun v91 Sm92 h94 => ?_)
          obtain ⟨m92, rfl, r93, rfl, h⟩ := h94
          show WP G _ _ _ 0 0 71 [(4, .int 6), (0, .ref b), (1, .int x1), (2, .int x2), (3, .int x3)] [.int r93] (sh, ta, m92)
          exact WP.iret dX6_set_71 rfl (Nat.le_refl _) (Nat.le_refl _) ⟨_, rfl, h⟩
        · have h := h.2 c90
          refine WP.aload_n 1 dX6_set_50 rfl rfl ?_
          refine WP.bipush (v := 8) dX6_set_51 rfl ?_
          refine WP.iconst (v := 4) dX6_set_53 rfl ?_
          refine WP.iload_n 2 dX6_set_54 rfl rfl ?_
          refine WP.imul dX6_set_55 ?_
          refine WP.iadd dX6_set_56 ?_
          refine WP.iload_n 3 dX6_set_57 rfl rfl ?_
          refine WP.iadd dX6_set_58 ?_
          refine WP.iload_n 4 dX6_set_59 rfl rfl ?_
          refine WP.callV (y := mX6_change1) (As := [.int ((8 + (4 * x1)) + x2), .int x3]) (st := []) dX6_set_60 wm_X6_161 mw_X6_change1 rfl (Nat.le_of_ble_eq_true rfl) (rmok d) h71 (by decide) rfl h (fun v95 Sm96 h98 => ?_)
          obtain ⟨m96, rfl, r97, rfl, h⟩ := h98
          show WP G _ _ _ 0 0 63 [(4, .int 6), (0, .ref b), (1, .int x1), (2, .int x2), (3, .int x3)] [.int r97] (sh, ta, m96)
          refine WP.goto (tgt := 71) dX6_set_63 (by decide) ?_
          exact WP.iret dX6_set_71 rfl (Nat.le_refl _) (Nat.le_refl _) ⟨_, rfl, h⟩
set_option maxHeartbeats 4000000 in
set_option maxRecDepth 20000 in
theorem rg_X6_takesOut_0 (hG : fl G = false) (b : Nat) (x1 : Int32) (x2 : Int32) (h : sh[b]? = some (.inl 6) ∧ Cal G mX6_its d [.ref b, .int x1, .int 3] sh ta m (fun v1 m2 => ∃ r3, v1 = some (.int r3) ∧ Cal G mX6_heightOf d [.ref b, .int x1] sh ta m2 (fun v6 m7 => ∃ r8, v6 = some (.int r8) ∧ WP G (rmD (d + 1) 0 0) mX6_takesOut (QC G sh ta K) 0 0 14 [(0, .ref b), (1, .int x1), (2, .int x2), (3, .int r3), (4, .int r8)] [] (sh, ta, m7)))) : WP G (rmD (d + 1) 0 0) mX6_takesOut (QC G sh ta K) 0 0 0 [(0, .ref b), (1, .int x1), (2, .int x2)] [] (sh, ta, m) := by
  refine WP.aload_n 0 dX6_takesOut_0 rfl rfl ?_
  refine WP.iload_n 1 dX6_takesOut_1 rfl rfl ?_
  refine WP.iconst (v := 3) dX6_takesOut_2 rfl ?_
  obtain ⟨h5, h⟩ := h
  refine WP.callV (y := mX6_its) (As := [.int x1, .int 3]) (st := []) dX6_takesOut_3 wm_X6_62 mw_X6_its rfl (Nat.le_of_ble_eq_true rfl) (rmok d) h5 (by decide) rfl h (fun v1 Sm2 h4 => ?_)
  obtain ⟨m2, rfl, r3, rfl, h⟩ := h4
  show WP G _ _ _ 0 0 6 [(0, .ref b), (1, .int x1), (2, .int x2)] [.int r3] (sh, ta, m2)
  refine WP.istore_n (lv2 := [(3, .int r3), (0, .ref b), (1, .int x1), (2, .int x2)]) dX6_takesOut_6 rfl (by decide) rfl ?_
  refine WP.aload_n 1 dX6_takesOut_7 rfl rfl ?_
  refine WP.iload_n 2 dX6_takesOut_8 rfl rfl ?_
  refine WP.callV (y := mX6_heightOf) (As := [.int x1]) (st := []) dX6_takesOut_9 wm_X6_65 mw_X6_heightOf rfl (Nat.le_of_ble_eq_true rfl) (rmok d) h5 (by decide) rfl h (fun v6 Sm7 h9 => ?_)
  obtain ⟨m7, rfl, r8, rfl, h⟩ := h9
  show WP G _ _ _ 0 0 12 [(3, .int r3), (0, .ref b), (1, .int x1), (2, .int x2)] [.int r8] (sh, ta, m7)
  refine WP.istore (lv2 := [(4, .int r8), (3, .int r3), (0, .ref b), (1, .int x1), (2, .int x2)]) dX6_takesOut_12 (by decide) rfl ?_
  exact WP.pick [2, 3, 4, 1, 0] rfl h
set_option maxHeartbeats 4000000 in
set_option maxRecDepth 20000 in
theorem rg_X6_takesOut_14 (hG : fl G = false) (b : Nat) (x1 : Int32) (x2 : Int32) (x3 : Int32) (x4 : Int32) (h : sh[b]? = some (.inl 6) ∧ Cal G mX6_size d [.ref b, .int x3] sh ta m (fun v1 m2 => ∃ r3, v1 = some (.int r3) ∧ ((r3 ≤ (x4 + 1) → ∃ i7, ta b 0 = some i7 ∧ ∃ n10, sh[i7]? = some (.inr (0, n10)) ∧ InB (72 + (6 * x3)) n10 ∧ InB (72 + (6 * x3)) n10 ∧ ∀ m13, m13 = upa m2 i7 (72 + (6 * x3)) ((rd (m2 i7) (72 + (6 * x3))) - 1) → InB ((8 + (4 * x1)) + 3) n10 ∧ ∀ m15, m15 = upa m13 i7 ((8 + (4 * x1)) + 3) x2 → K none m15) ∧ (¬ r3 ≤ (x4 + 1) → ∃ i16, ta b 0 = some i16 ∧ Cal G mX6_at1 d [.ref b, .int x3, .int (x4 + 1)] sh ta m2 (fun v18 m19 => ∃ r20, v18 = some (.int r20) ∧ ∃ n23, sh[i16]? = some (.inr (0, n23)) ∧ InB (((72 + (6 * x3)) + 1) + x4) n23 ∧ ∀ m25, m25 = upa m19 i16 (((72 + (6 * x3)) + 1) + x4) r20 → WP G (rmD (d + 1) 0 0) mX6_takesOut (QC G sh ta K) 0 0 14 [(0, .ref b), (1, .int x1), (2, .int x2), (3, .int x3), (4, .int (x4 + 1))] [] (sh, ta, m25)))))) : WP G (rmD (d + 1) 0 0) mX6_takesOut (QC G sh ta K) 0 0 14 [(0, .ref b), (1, .int x1), (2, .int x2), (3, .int x3), (4, .int x4)] [] (sh, ta, m) := by
  refine WP.iload 4 dX6_takesOut_14 rfl ?_
  refine WP.iconst (v := 1) dX6_takesOut_16 rfl ?_
  refine WP.iadd dX6_takesOut_17 ?_
  refine WP.aload_n 0 dX6_takesOut_18 rfl rfl ?_
  refine WP.iload_n 3 dX6_takesOut_19 rfl rfl ?_
  obtain ⟨h5, h⟩ := h
  refine WP.callV (y := mX6_size) (As := [.int x3]) (st := [.int (x4 + 1)]) dX6_takesOut_20 wm_X6_54 mw_X6_size rfl (Nat.le_of_ble_eq_true rfl) (rmok d) h5 (by decide) rfl h (fun v1 Sm2 h4 => ?_)
  obtain ⟨m2, rfl, r3, rfl, h⟩ := h4
  show WP G _ _ _ 0 0 23 [(0, .ref b), (1, .int x1), (2, .int x2), (3, .int x3), (4, .int x4)] [.int r3, .int (x4 + 1)] (sh, ta, m2)
  refine WP.icmp_ge (tgt := 58) dX6_takesOut_23 (by decide) (fun c6 => ?_) (fun c6 => ?_)
  · have h := h.1 c6
    refine WP.aload_n 0 dX6_takesOut_58 rfl rfl ?_
    obtain ⟨i7, h8, h⟩ := h
    refine WP.getR 6 0 wf_X6_7 (by decide) (by decide) rfl h5 h8 dX6_takesOut_59 ?_
    refine WP.bipush (v := 72) dX6_takesOut_62 rfl ?_
    refine WP.bipush (v := 6) dX6_takesOut_64 rfl ?_
    refine WP.iload_n 3 dX6_takesOut_66 rfl rfl ?_
    refine WP.imul dX6_takesOut_67 ?_
    refine WP.iadd dX6_takesOut_68 ?_
    refine WP.dup2 dX6_takesOut_69 rfl rfl ?_
    obtain ⟨n10, h9, h⟩ := h
    obtain ⟨h11, h⟩ := h
    refine WP.iald h9 h11 dX6_takesOut_70 ?_
    refine WP.iconst (v := 1) dX6_takesOut_71 rfl ?_
    refine WP.isub dX6_takesOut_72 ?_
    obtain ⟨h12, h⟩ := h
    have h := h _ rfl
    refine WP.iast h9 h12 dX6_takesOut_73 ?_
    generalize upa m2 i7 (72 + (6 * x3)) ((rd (m2 i7) (72 + (6 * x3))) - 1) = m13 at h ⊢
    refine WP.aload_n 0 dX6_takesOut_74 rfl rfl ?_
    refine WP.getR 6 0 wf_X6_7 (by decide) (by decide) rfl h5 h8 dX6_takesOut_75 ?_
    refine WP.bipush (v := 8) dX6_takesOut_78 rfl ?_
    refine WP.iconst (v := 4) dX6_takesOut_80 rfl ?_
    refine WP.iload_n 1 dX6_takesOut_81 rfl rfl ?_
    refine WP.imul dX6_takesOut_82 ?_
    refine WP.iadd dX6_takesOut_83 ?_
    refine WP.iconst (v := 3) dX6_takesOut_84 rfl ?_
    refine WP.iadd dX6_takesOut_85 ?_
    refine WP.iload_n 2 dX6_takesOut_86 rfl rfl ?_
    obtain ⟨h14, h⟩ := h
    have h := h _ rfl
    refine WP.iast h9 h14 dX6_takesOut_87 ?_
    generalize upa m13 i7 ((8 + (4 * x1)) + 3) x2 = m15 at h ⊢
    exact WP.vret dX6_takesOut_88 rfl (Nat.le_refl _) (Nat.le_refl _) ⟨_, rfl, h⟩
  · have h := h.2 c6
    refine WP.aload_n 0 dX6_takesOut_26 rfl rfl ?_
    obtain ⟨i16, h17, h⟩ := h
    refine WP.getR 6 0 wf_X6_7 (by decide) (by decide) rfl h5 h17 dX6_takesOut_27 ?_
    refine WP.bipush (v := 72) dX6_takesOut_30 rfl ?_
    refine WP.bipush (v := 6) dX6_takesOut_32 rfl ?_
    refine WP.iload_n 3 dX6_takesOut_34 rfl rfl ?_
    refine WP.imul dX6_takesOut_35 ?_
    refine WP.iadd dX6_takesOut_36 ?_
    refine WP.iconst (v := 1) dX6_takesOut_37 rfl ?_
    refine WP.iadd dX6_takesOut_38 ?_
    refine WP.iload 4 dX6_takesOut_39 rfl ?_
    refine WP.iadd dX6_takesOut_41 ?_
    refine WP.aload_n 0 dX6_takesOut_42 rfl rfl ?_
    refine WP.iload_n 3 dX6_takesOut_43 rfl rfl ?_
    refine WP.iload 4 dX6_takesOut_44 rfl ?_
    refine WP.iconst (v := 1) dX6_takesOut_46 rfl ?_
    refine WP.iadd dX6_takesOut_47 ?_
    refine WP.callV (y := mX6_at1) (As := [.int x3, .int (x4 + 1)]) (st := [.int (((72 + (6 * x3)) + 1) + x4), .ref i16]) dX6_takesOut_48 wm_X6_58 mw_X6_at1 rfl (Nat.le_of_ble_eq_true rfl) (rmok d) h5 (by decide) rfl h (fun v18 Sm19 h21 => ?_)
    obtain ⟨m19, rfl, r20, rfl, h⟩ := h21
    show WP G _ _ _ 0 0 51 [(0, .ref b), (1, .int x1), (2, .int x2), (3, .int x3), (4, .int x4)] [.int r20, .int (((72 + (6 * x3)) + 1) + x4), .ref i16] (sh, ta, m19)
    obtain ⟨n23, h22, h⟩ := h
    obtain ⟨h24, h⟩ := h
    have h := h _ rfl
    refine WP.iast h22 h24 dX6_takesOut_51 ?_
    generalize upa m19 i16 (((72 + (6 * x3)) + 1) + x4) r20 = m25 at h ⊢
    refine WP.iinc (lv2 := [(4, .int (x4 + 1)), (0, .ref b), (1, .int x1), (2, .int x2), (3, .int x3)]) 4 1 dX6_takesOut_52 rfl rfl (by decide) rfl ?_
    refine WP.goto (tgt := 14) dX6_takesOut_55 (by decide) ?_
    exact WP.pick [1, 2, 3, 4, 0] rfl h
set_option maxHeartbeats 4000000 in
set_option maxRecDepth 20000 in
theorem rg_X6_out_0 (hG : fl G = false) (b : Nat) (x1 : Int32) (h : sh[b]? = some (.inl 6) ∧ Cal G mX6_isThing d [.ref b, .int x1] sh ta m (fun v1 m2 => ∃ r3, v1 = some (.int r3) ∧ ((¬ r3 = 0 → Cal G mX6_its d [.ref b, .int x1, .int 3] sh ta m2 (fun v7 m8 => ∃ r9, v7 = some (.int r9) ∧ ((0 ≤ r9 → Cal G mX6_takesOut d [.ref b, .int x1, .int ((-2))] sh ta m8 (fun v12 m13 => v12 = none ∧ K (some (.int r9)) m13)) ∧ (¬ 0 ≤ r9 → Cal G mX6_error d [.ref b, .int 3] sh ta m8 (fun v16 m17 => ∃ r18, v16 = some (.int r18) ∧ K (some (.int r18)) m17))))) ∧ (r3 = 0 → Cal G mX6_error d [.ref b, .int 1] sh ta m2 (fun v20 m21 => ∃ r22, v20 = some (.int r22) ∧ K (some (.int r22)) m21))))) : WP G (rmD (d + 1) 0 0) mX6_out (QC G sh ta K) 0 0 0 [(0, .ref b), (1, .int x1)] [] (sh, ta, m) := by
  refine WP.aload_n 0 dX6_out_0 rfl rfl ?_
  refine WP.iload_n 1 dX6_out_1 rfl rfl ?_
  obtain ⟨h5, h⟩ := h
  refine WP.callV (y := mX6_isThing) (As := [.int x1]) (st := []) dX6_out_2 wm_X6_148 mw_X6_isThing rfl (Nat.le_of_ble_eq_true rfl) (rmok d) h5 (by decide) rfl h (fun v1 Sm2 h4 => ?_)
  obtain ⟨m2, rfl, r3, rfl, h⟩ := h4
  show WP G _ _ _ 0 0 5 [(0, .ref b), (1, .int x1)] [.int r3] (sh, ta, m2)
  refine WP.if_ne (tgt := 14) dX6_out_5 (by decide) (fun c6 => ?_) (fun c6 => ?_)
  · have h := h.1 c6
    refine WP.aload_n 0 dX6_out_14 rfl rfl ?_
    refine WP.iload_n 1 dX6_out_15 rfl rfl ?_
    refine WP.iconst (v := 3) dX6_out_16 rfl ?_
    refine WP.callV (y := mX6_its) (As := [.int x1, .int 3]) (st := []) dX6_out_17 wm_X6_62 mw_X6_its rfl (Nat.le_of_ble_eq_true rfl) (rmok d) h5 (by decide) rfl h (fun v7 Sm8 h10 => ?_)
    obtain ⟨m8, rfl, r9, rfl, h⟩ := h10
    show WP G _ _ _ 0 0 20 [(0, .ref b), (1, .int x1)] [.int r9] (sh, ta, m8)
    refine WP.istore_n (lv2 := [(2, .int r9), (0, .ref b), (1, .int x1)]) dX6_out_20 rfl (by decide) rfl ?_
    refine WP.iload_n 0 dX6_out_21 rfl rfl ?_
    refine WP.if_ge (tgt := 31) dX6_out_22 (by decide) (fun c11 => ?_) (fun c11 => ?_)
    · have h := h.1 c11
      refine WP.aload_n 1 dX6_out_31 rfl rfl ?_
      refine WP.iload_n 2 dX6_out_32 rfl rfl ?_
      refine WP.bipush (v := (-2)) dX6_out_33 rfl ?_
      refine WP.callV (y := mX6_takesOut) (As := [.int x1, .int ((-2))]) (st := []) dX6_out_35 wm_X6_164 mw_X6_takesOut rfl (Nat.le_of_ble_eq_true rfl) (rmok d) h5 (by decide) rfl h (fun v12 Sm13 h15 => ?_)
      obtain ⟨m13, rfl, rfl, h⟩ := h15
      show WP G _ _ _ 0 0 38 [(2, .int r9), (0, .ref b), (1, .int x1)] [] (sh, ta, m13)
      refine WP.iload_n 0 dX6_out_38 rfl rfl ?_
      exact WP.iret dX6_out_39 rfl (Nat.le_refl _) (Nat.le_refl _) ⟨_, rfl, h⟩
    · have h := h.2 c11
      refine WP.aload_n 1 dX6_out_25 rfl rfl ?_
      refine WP.iconst (v := 3) dX6_out_26 rfl ?_
      refine WP.callV (y := mX6_error) (As := [.int 3]) (st := []) dX6_out_27 wm_X6_68 mw_X6_error rfl (Nat.le_of_ble_eq_true rfl) (rmok d) h5 (by decide) rfl h (fun v16 Sm17 h19 => ?_)
      obtain ⟨m17, rfl, r18, rfl, h⟩ := h19
      show WP G _ _ _ 0 0 30 [(2, .int r9), (0, .ref b), (1, .int x1)] [.int r18] (sh, ta, m17)
      exact WP.iret dX6_out_30 rfl (Nat.le_refl _) (Nat.le_refl _) ⟨_, rfl, h⟩
  · have h := h.2 c6
    refine WP.aload_n 0 dX6_out_8 rfl rfl ?_
    refine WP.iconst (v := 1) dX6_out_9 rfl ?_
    refine WP.callV (y := mX6_error) (As := [.int 1]) (st := []) dX6_out_10 wm_X6_68 mw_X6_error rfl (Nat.le_of_ble_eq_true rfl) (rmok d) h5 (by decide) rfl h (fun v20 Sm21 h23 => ?_)
    obtain ⟨m21, rfl, r22, rfl, h⟩ := h23
    show WP G _ _ _ 0 0 13 [(0, .ref b), (1, .int x1)] [.int r22] (sh, ta, m21)
    exact WP.iret dX6_out_13 rfl (Nat.le_refl _) (Nat.le_refl _) ⟨_, rfl, h⟩
set_option maxHeartbeats 4000000 in
set_option maxRecDepth 20000 in
theorem rg_X6_back_0 (hG : fl G = false) (b : Nat) (x1 : Int32) (x2 : Int32) (h : sh[b]? = some (.inl 6) ∧ Cal G mX6_isThing d [.ref b, .int x1] sh ta m (fun v1 m2 => ∃ r3, v1 = some (.int r3) ∧ ((r3 = 0 → Cal G mX6_error d [.ref b, .int 1] sh ta m2 (fun v7 m8 => ∃ r9, v7 = some (.int r9) ∧ K (some (.int r9)) m8)) ∧ (¬ r3 = 0 → Cal G mX6_isOpen d [.int x2] sh ta m2 (fun v11 m12 => ∃ r13, v11 = some (.int r13) ∧ ((¬ r13 = 0 → Cal G mX6_its d [.ref b, .int x1, .int 3] sh ta m12 (fun v16 m17 => ∃ r18, v16 = some (.int r18) ∧ ((r18 < 0 → Cal G mX6_size d [.ref b, .int x2] sh ta m17 (fun v21 m22 => ∃ r23, v21 = some (.int r23) ∧ ((¬ r23 = (5 : Int32) → Cal G mX6_lays d [.ref b, .int x1, .int x2] sh ta m22 (fun v26 m27 => v26 = none ∧ Cal G mX6_size d [.ref b, .int x2] sh ta m27 (fun v30 m31 => ∃ r32, v30 = some (.int r32) ∧ K (some (.int r32)) m31))) ∧ (r23 = (5 : Int32) → Cal G mX6_error d [.ref b, .int 4] sh ta m22 (fun v34 m35 => ∃ r36, v34 = some (.int r36) ∧ K (some (.int r36)) m35))))) ∧ (¬ r18 < 0 → Cal G mX6_error d [.ref b, .int 3] sh ta m17 (fun v38 m39 => ∃ r40, v38 = some (.int r40) ∧ K (some (.int r40)) m39))))) ∧ (r13 = 0 → Cal G mX6_error d [.ref b, .int 1] sh ta m12 (fun v42 m43 => ∃ r44, v42 = some (.int r44) ∧ K (some (.int r44)) m43)))))))) : WP G (rmD (d + 1) 0 0) mX6_back (QC G sh ta K) 0 0 0 [(0, .ref b), (1, .int x1), (2, .int x2)] [] (sh, ta, m) := by
  refine WP.aload_n 0 dX6_back_0 rfl rfl ?_
  refine WP.iload_n 1 dX6_back_1 rfl rfl ?_
  obtain ⟨h5, h⟩ := h
  refine WP.callV (y := mX6_isThing) (As := [.int x1]) (st := []) dX6_back_2 wm_X6_148 mw_X6_isThing rfl (Nat.le_of_ble_eq_true rfl) (rmok d) h5 (by decide) rfl h (fun v1 Sm2 h4 => ?_)
  obtain ⟨m2, rfl, r3, rfl, h⟩ := h4
  show WP G _ _ _ 0 0 5 [(0, .ref b), (1, .int x1), (2, .int x2)] [.int r3] (sh, ta, m2)
  refine WP.if_eq (tgt := 15) dX6_back_5 (by decide) (fun c6 => ?_) (fun c6 => ?_)
  · have h := h.1 c6
    refine WP.aload_n 0 dX6_back_15 rfl rfl ?_
    refine WP.iconst (v := 1) dX6_back_16 rfl ?_
    refine WP.callV (y := mX6_error) (As := [.int 1]) (st := []) dX6_back_17 wm_X6_68 mw_X6_error rfl (Nat.le_of_ble_eq_true rfl) (rmok d) h5 (by decide) rfl h (fun v7 Sm8 h10 => ?_)
    obtain ⟨m8, rfl, r9, rfl, h⟩ := h10
    show WP G _ _ _ 0 0 20 [(0, .ref b), (1, .int x1), (2, .int x2)] [.int r9] (sh, ta, m8)
    exact WP.iret dX6_back_20 rfl (Nat.le_refl _) (Nat.le_refl _) ⟨_, rfl, h⟩
  · have h := h.2 c6
    refine WP.iload_n 2 dX6_back_8 rfl rfl ?_
    refine WP.callS (y := mX6_isOpen) (As := [.int x2]) (st := []) dX6_back_9 wm_X6_142 mw_X6_isOpen rfl (Nat.le_of_ble_eq_true rfl) (rmok d) rfl h (fun v11 Sm12 h14 => ?_)
    obtain ⟨m12, rfl, r13, rfl, h⟩ := h14
    show WP G _ _ _ 0 0 12 [(0, .ref b), (1, .int x1), (2, .int x2)] [.int r13] (sh, ta, m12)
    refine WP.if_ne (tgt := 21) dX6_back_12 (by decide) (fun c15 => ?_) (fun c15 => ?_)
    · have h := h.1 c15
      refine WP.aload_n 0 dX6_back_21 rfl rfl ?_
      refine WP.iload_n 1 dX6_back_22 rfl rfl ?_
      refine WP.iconst (v := 3) dX6_back_23 rfl ?_
      refine WP.callV (y := mX6_its) (As := [.int x1, .int 3]) (st := []) dX6_back_24 wm_X6_62 mw_X6_its rfl (Nat.le_of_ble_eq_true rfl) (rmok d) h5 (by decide) rfl h (fun v16 Sm17 h19 => ?_)
      obtain ⟨m17, rfl, r18, rfl, h⟩ := h19
      show WP G _ _ _ 0 0 27 [(0, .ref b), (1, .int x1), (2, .int x2)] [.int r18] (sh, ta, m17)
      refine WP.if_lt (tgt := 36) dX6_back_27 (by decide) (fun c20 => ?_) (fun c20 => ?_)
      · have h := h.1 c20
        refine WP.aload_n 0 dX6_back_36 rfl rfl ?_
        refine WP.iload_n 2 dX6_back_37 rfl rfl ?_
        refine WP.callV (y := mX6_size) (As := [.int x2]) (st := []) dX6_back_38 wm_X6_54 mw_X6_size rfl (Nat.le_of_ble_eq_true rfl) (rmok d) h5 (by decide) rfl h (fun v21 Sm22 h24 => ?_)
        obtain ⟨m22, rfl, r23, rfl, h⟩ := h24
        show WP G _ _ _ 0 0 41 [(0, .ref b), (1, .int x1), (2, .int x2)] [.int r23] (sh, ta, m22)
        refine WP.iconst (v := 5) dX6_back_41 rfl ?_
        refine WP.icmp_ne (tgt := 51) dX6_back_42 (by decide) (fun c25 => ?_) (fun c25 => ?_)
        · have h := h.1 c25
          refine WP.aload_n 0 dX6_back_51 rfl rfl ?_
          refine WP.iload_n 1 dX6_back_52 rfl rfl ?_
          refine WP.iload_n 2 dX6_back_53 rfl rfl ?_
          refine WP.callV (y := mX6_lays) (As := [.int x1, .int x2]) (st := []) dX6_back_54 wm_X6_145 mw_X6_lays rfl (Nat.le_of_ble_eq_true rfl) (rmok d) h5 (by decide) rfl h (fun v26 Sm27 h29 => ?_)
          obtain ⟨m27, rfl, rfl, h⟩ := h29
          show WP G _ _ _ 0 0 57 [(0, .ref b), (1, .int x1), (2, .int x2)] [] (sh, ta, m27)
          refine WP.aload_n 0 dX6_back_57 rfl rfl ?_
          refine WP.iload_n 2 dX6_back_58 rfl rfl ?_
          refine WP.callV (y := mX6_size) (As := [.int x2]) (st := []) dX6_back_59 wm_X6_54 mw_X6_size rfl (Nat.le_of_ble_eq_true rfl) (rmok d) h5 (by decide) rfl h (fun v30 Sm31 h33 => ?_)
          obtain ⟨m31, rfl, r32, rfl, h⟩ := h33
          show WP G _ _ _ 0 0 62 [(0, .ref b), (1, .int x1), (2, .int x2)] [.int r32] (sh, ta, m31)
          exact WP.iret dX6_back_62 rfl (Nat.le_refl _) (Nat.le_refl _) ⟨_, rfl, h⟩
        · have h := h.2 c25
          refine WP.aload_n 0 dX6_back_45 rfl rfl ?_
          refine WP.iconst (v := 4) dX6_back_46 rfl ?_
          refine WP.callV (y := mX6_error) (As := [.int 4]) (st := []) dX6_back_47 wm_X6_68 mw_X6_error rfl (Nat.le_of_ble_eq_true rfl) (rmok d) h5 (by decide) rfl h (fun v34 Sm35 h37 => ?_)
          obtain ⟨m35, rfl, r36, rfl, h⟩ := h37
          show WP G _ _ _ 0 0 50 [(0, .ref b), (1, .int x1), (2, .int x2)] [.int r36] (sh, ta, m35)
          exact WP.iret dX6_back_50 rfl (Nat.le_refl _) (Nat.le_refl _) ⟨_, rfl, h⟩
      · have h := h.2 c20
        refine WP.aload_n 0 dX6_back_30 rfl rfl ?_
        refine WP.iconst (v := 3) dX6_back_31 rfl ?_
        refine WP.callV (y := mX6_error) (As := [.int 3]) (st := []) dX6_back_32 wm_X6_68 mw_X6_error rfl (Nat.le_of_ble_eq_true rfl) (rmok d) h5 (by decide) rfl h (fun v38 Sm39 h41 => ?_)
        obtain ⟨m39, rfl, r40, rfl, h⟩ := h41
        show WP G _ _ _ 0 0 35 [(0, .ref b), (1, .int x1), (2, .int x2)] [.int r40] (sh, ta, m39)
        exact WP.iret dX6_back_35 rfl (Nat.le_refl _) (Nat.le_refl _) ⟨_, rfl, h⟩
    · have h := h.2 c15
      refine WP.aload_n 0 dX6_back_15 rfl rfl ?_
      refine WP.iconst (v := 1) dX6_back_16 rfl ?_
      refine WP.callV (y := mX6_error) (As := [.int 1]) (st := []) dX6_back_17 wm_X6_68 mw_X6_error rfl (Nat.le_of_ble_eq_true rfl) (rmok d) h5 (by decide) rfl h (fun v42 Sm43 h45 => ?_)
      obtain ⟨m43, rfl, r44, rfl, h⟩ := h45
      show WP G _ _ _ 0 0 20 [(0, .ref b), (1, .int x1), (2, .int x2)] [.int r44] (sh, ta, m43)
      exact WP.iret dX6_back_20 rfl (Nat.le_refl _) (Nat.le_refl _) ⟨_, rfl, h⟩
set_option maxHeartbeats 4000000 in
set_option maxRecDepth 20000 in
theorem rg_X6_spring_0 (hG : fl G = false) (b : Nat) (x1 : Int32) (x2 : Int32) (h : Cal G mX6_in d [.int x1, .int 0, .int 1] sh ta m (fun v1 m2 => ∃ r3, v1 = some (.int r3) ∧ ((r3 = 0 → sh[b]? = some (.inl 6) ∧ Cal G mX6_error d [.ref b, .int 1] sh ta m2 (fun v6 m7 => ∃ r8, v6 = some (.int r8) ∧ K (some (.int r8)) m7)) ∧ (¬ r3 = 0 → ((¬ x1 = 0 → Cal G mX6_in d [.int x2, .int 0, .int 9] sh ta m2 (fun v12 m13 => ∃ r14, v12 = some (.int r14) ∧ ((r14 = 0 → sh[b]? = some (.inl 6) ∧ Cal G mX6_error d [.ref b, .int 1] sh ta m13 (fun v17 m18 => ∃ r19, v17 = some (.int r19) ∧ K (some (.int r19)) m18)) ∧ (¬ r14 = 0 → sh[b]? = some (.inl 6) ∧ Cal G mX6_change1 d [.ref b, .int (3 + x1), .int x2] sh ta m13 (fun v22 m23 => ∃ r24, v22 = some (.int r24) ∧ K (some (.int r24)) m23))))) ∧ (x1 = 0 → Cal G mX6_in d [.int x2, .int 0, .int 99] sh ta m2 (fun v27 m28 => ∃ r29, v27 = some (.int r29) ∧ ((r29 = 0 → sh[b]? = some (.inl 6) ∧ Cal G mX6_error d [.ref b, .int 1] sh ta m28 (fun v32 m33 => ∃ r34, v32 = some (.int r34) ∧ K (some (.int r34)) m33)) ∧ (¬ r29 = 0 → sh[b]? = some (.inl 6) ∧ Cal G mX6_change1 d [.ref b, .int (3 + x1), .int x2] sh ta m28 (fun v37 m38 => ∃ r39, v37 = some (.int r39) ∧ K (some (.int r39)) m38)))))))))) : WP G (rmD (d + 1) 0 0) mX6_spring (QC G sh ta K) 0 0 0 [(0, .ref b), (1, .int x1), (2, .int x2)] [] (sh, ta, m) := by
  refine WP.iload_n 1 dX6_spring_0 rfl rfl ?_
  refine WP.iconst (v := 0) dX6_spring_1 rfl ?_
  refine WP.iconst (v := 1) dX6_spring_2 rfl ?_
  refine WP.callS (y := mX6_in) (As := [.int x1, .int 0, .int 1]) (st := []) dX6_spring_3 wm_X6_50 mw_X6_in rfl (Nat.le_of_ble_eq_true rfl) (rmok d) rfl h (fun v1 Sm2 h4 => ?_)
  obtain ⟨m2, rfl, r3, rfl, h⟩ := h4
  show WP G _ _ _ 0 0 6 [(0, .ref b), (1, .int x1), (2, .int x2)] [.int r3] (sh, ta, m2)
  refine WP.if_eq (tgt := 39) dX6_spring_6 (by decide) (fun c5 => ?_) (fun c5 => ?_)
  · have h := h.1 c5
    refine WP.aload_n 0 dX6_spring_39 rfl rfl ?_
    refine WP.iconst (v := 1) dX6_spring_40 rfl ?_
    obtain ⟨h10, h⟩ := h
    refine WP.callV (y := mX6_error) (As := [.int 1]) (st := []) dX6_spring_41 wm_X6_68 mw_X6_error rfl (Nat.le_of_ble_eq_true rfl) (rmok d) h10 (by decide) rfl h (fun v6 Sm7 h9 => ?_)
    obtain ⟨m7, rfl, r8, rfl, h⟩ := h9
    show WP G _ _ _ 0 0 44 [(0, .ref b), (1, .int x1), (2, .int x2)] [.int r8] (sh, ta, m7)
    exact WP.iret dX6_spring_44 rfl (Nat.le_refl _) (Nat.le_refl _) ⟨_, rfl, h⟩
  · have h := h.2 c5
    refine WP.iload_n 2 dX6_spring_9 rfl rfl ?_
    refine WP.iconst (v := 0) dX6_spring_10 rfl ?_
    refine WP.iload_n 1 dX6_spring_11 rfl rfl ?_
    refine WP.if_ne (tgt := 20) dX6_spring_12 (by decide) (fun c11 => ?_) (fun c11 => ?_)
    · have h := h.1 c11
      refine WP.bipush (v := 9) dX6_spring_20 rfl ?_
      refine WP.callS (y := mX6_in) (As := [.int x2, .int 0, .int 9]) (st := []) dX6_spring_22 wm_X6_50 mw_X6_in rfl (Nat.le_of_ble_eq_true rfl) (rmok d) rfl h (fun v12 Sm13 h15 => ?_)
      obtain ⟨m13, rfl, r14, rfl, h⟩ := h15
      show WP G _ _ _ 0 0 25 [(0, .ref b), (1, .int x1), (2, .int x2)] [.int r14] (sh, ta, m13)
      refine WP.if_eq (tgt := 39) dX6_spring_25 (by decide) (fun c16 => ?_) (fun c16 => ?_)
      · have h := h.1 c16
        refine WP.aload_n 0 dX6_spring_39 rfl rfl ?_
        refine WP.iconst (v := 1) dX6_spring_40 rfl ?_
        obtain ⟨h21, h⟩ := h
        refine WP.callV (y := mX6_error) (As := [.int 1]) (st := []) dX6_spring_41 wm_X6_68 mw_X6_error rfl (Nat.le_of_ble_eq_true rfl) (rmok d) h21 (by decide) rfl h (fun v17 Sm18 h20 => ?_)
        obtain ⟨m18, rfl, r19, rfl, h⟩ := h20
        show WP G _ _ _ 0 0 44 [(0, .ref b), (1, .int x1), (2, .int x2)] [.int r19] (sh, ta, m18)
        exact WP.iret dX6_spring_44 rfl (Nat.le_refl _) (Nat.le_refl _) ⟨_, rfl, h⟩
      · have h := h.2 c16
        refine WP.aload_n 0 dX6_spring_28 rfl rfl ?_
        refine WP.iconst (v := 3) dX6_spring_29 rfl ?_
        refine WP.iload_n 1 dX6_spring_30 rfl rfl ?_
        refine WP.iadd dX6_spring_31 ?_
        refine WP.iload_n 2 dX6_spring_32 rfl rfl ?_
        obtain ⟨h26, h⟩ := h
        refine WP.callV (y := mX6_change1) (As := [.int (3 + x1), .int x2]) (st := []) dX6_spring_33 wm_X6_161 mw_X6_change1 rfl (Nat.le_of_ble_eq_true rfl) (rmok d) h26 (by decide) rfl h (fun v22 Sm23 h25 => ?_)
        obtain ⟨m23, rfl, r24, rfl, h⟩ := h25
        show WP G _ _ _ 0 0 36 [(0, .ref b), (1, .int x1), (2, .int x2)] [.int r24] (sh, ta, m23)
        refine WP.goto (tgt := 44) dX6_spring_36 (by decide) ?_
        exact WP.iret dX6_spring_44 rfl (Nat.le_refl _) (Nat.le_refl _) ⟨_, rfl, h⟩
    · have h := h.2 c11
      refine WP.bipush (v := 99) dX6_spring_15 rfl ?_
      refine WP.goto (tgt := 22) dX6_spring_17 (by decide) ?_
      refine WP.callS (y := mX6_in) (As := [.int x2, .int 0, .int 99]) (st := []) dX6_spring_22 wm_X6_50 mw_X6_in rfl (Nat.le_of_ble_eq_true rfl) (rmok d) rfl h (fun v27 Sm28 h30 => ?_)
      obtain ⟨m28, rfl, r29, rfl, h⟩ := h30
      show WP G _ _ _ 0 0 25 [(0, .ref b), (1, .int x1), (2, .int x2)] [.int r29] (sh, ta, m28)
      refine WP.if_eq (tgt := 39) dX6_spring_25 (by decide) (fun c31 => ?_) (fun c31 => ?_)
      · have h := h.1 c31
        refine WP.aload_n 0 dX6_spring_39 rfl rfl ?_
        refine WP.iconst (v := 1) dX6_spring_40 rfl ?_
        obtain ⟨h36, h⟩ := h
        refine WP.callV (y := mX6_error) (As := [.int 1]) (st := []) dX6_spring_41 wm_X6_68 mw_X6_error rfl (Nat.le_of_ble_eq_true rfl) (rmok d) h36 (by decide) rfl h (fun v32 Sm33 h35 => ?_)
        obtain ⟨m33, rfl, r34, rfl, h⟩ := h35
        show WP G _ _ _ 0 0 44 [(0, .ref b), (1, .int x1), (2, .int x2)] [.int r34] (sh, ta, m33)
        exact WP.iret dX6_spring_44 rfl (Nat.le_refl _) (Nat.le_refl _) ⟨_, rfl, h⟩
      · have h := h.2 c31
        refine WP.aload_n 0 dX6_spring_28 rfl rfl ?_
        refine WP.iconst (v := 3) dX6_spring_29 rfl ?_
        refine WP.iload_n 1 dX6_spring_30 rfl rfl ?_
        refine WP.iadd dX6_spring_31 ?_
        refine WP.iload_n 2 dX6_spring_32 rfl rfl ?_
        obtain ⟨h41, h⟩ := h
        refine WP.callV (y := mX6_change1) (As := [.int (3 + x1), .int x2]) (st := []) dX6_spring_33 wm_X6_161 mw_X6_change1 rfl (Nat.le_of_ble_eq_true rfl) (rmok d) h41 (by decide) rfl h (fun v37 Sm38 h40 => ?_)
        obtain ⟨m38, rfl, r39, rfl, h⟩ := h40
        show WP G _ _ _ 0 0 36 [(0, .ref b), (1, .int x1), (2, .int x2)] [.int r39] (sh, ta, m38)
        refine WP.goto (tgt := 44) dX6_spring_36 (by decide) ?_
        exact WP.iret dX6_spring_44 rfl (Nat.le_refl _) (Nat.le_refl _) ⟨_, rfl, h⟩
set_option maxHeartbeats 4000000 in
set_option maxRecDepth 20000 in
theorem rg_X6_wind_0 (hG : fl G = false) (b : Nat) (h : sh[b]? = some (.inl 6) ∧ Cal G mX6_change1 d [.ref b, .int 2, .int 0] sh ta m (fun v1 m2 => ∃ r3, v1 = some (.int r3) ∧ K (some (.int r3)) m2)) : WP G (rmD (d + 1) 0 0) mX6_wind (QC G sh ta K) 0 0 0 [(0, .ref b)] [] (sh, ta, m) := by
  refine WP.aload_n 0 dX6_wind_0 rfl rfl ?_
  refine WP.iconst (v := 2) dX6_wind_1 rfl ?_
  refine WP.iconst (v := 0) dX6_wind_2 rfl ?_
  obtain ⟨h5, h⟩ := h
  refine WP.callV (y := mX6_change1) (As := [.int 2, .int 0]) (st := []) dX6_wind_3 wm_X6_161 mw_X6_change1 rfl (Nat.le_of_ble_eq_true rfl) (rmok d) h5 (by decide) rfl h (fun v1 Sm2 h4 => ?_)
  obtain ⟨m2, rfl, r3, rfl, h⟩ := h4
  show WP G _ _ _ 0 0 6 [(0, .ref b)] [.int r3] (sh, ta, m2)
  exact WP.iret dX6_wind_6 rfl (Nat.le_refl _) (Nat.le_refl _) ⟨_, rfl, h⟩
set_option maxHeartbeats 4000000 in
set_option maxRecDepth 20000 in
theorem rg_X6_nearer_0 (hG : fl G = false) (x0 : Int32) (h : ¬ (4 : Int32) = 0 ∧ (((x0 - x0 / 4 * 4) ≤ 0 → K (some (.int (x0 - 4))) m) ∧ (¬ (x0 - x0 / 4 * 4) ≤ 0 → K (some (.int (x0 - 1))) m))) : WP G (rmD (d + 1) 0 0) mX6_nearer (QC G sh ta K) 0 0 0 [(0, .int x0)] [] (sh, ta, m) := by
  refine WP.iload_n 0 dX6_nearer_0 rfl rfl ?_
  refine WP.iconst (v := 4) dX6_nearer_1 rfl ?_
  obtain ⟨h1, h⟩ := h
  refine WP.irem dX6_nearer_2 h1 ?_
  refine WP.if_le (tgt := 12) dX6_nearer_3 (by decide) (fun c2 => ?_) (fun c2 => ?_)
  · have h := h.1 c2
    refine WP.iload_n 0 dX6_nearer_12 rfl rfl ?_
    refine WP.iconst (v := 4) dX6_nearer_13 rfl ?_
    refine WP.isub dX6_nearer_14 ?_
    exact WP.iret dX6_nearer_15 rfl (Nat.le_refl _) (Nat.le_refl _) ⟨_, rfl, h⟩
  · have h := h.2 c2
    refine WP.iload_n 0 dX6_nearer_6 rfl rfl ?_
    refine WP.iconst (v := 1) dX6_nearer_7 rfl ?_
    refine WP.isub dX6_nearer_8 ?_
    refine WP.goto (tgt := 15) dX6_nearer_9 (by decide) ?_
    exact WP.iret dX6_nearer_15 rfl (Nat.le_refl _) (Nat.le_refl _) ⟨_, rfl, h⟩
set_option maxHeartbeats 4000000 in
set_option maxRecDepth 20000 in
theorem rg_X6_does_0 (hG : fl G = false) (b : Nat) (x1 : Int32) (h : sh[b]? = some (.inl 6) ∧ Cal G mX6_uppermost d [.ref b, .int x1] sh ta m (fun v1 m2 => ∃ r3, v1 = some (.int r3) ∧ ((¬ r3 = ((-1) : Int32) → Cal G mX6_strengthBehind d [.ref b, .int 0] sh ta m2 (fun v7 m8 => ∃ r9, v7 = some (.int r9) ∧ Cal G mX6_needs d [.ref b, .int r3] sh ta m8 (fun v11 m12 => ∃ r13, v11 = some (.int r13) ∧ ((r9 < r13 → Cal G mX6_needs d [.ref b, .int r3] sh ta m12 (fun v16 m17 => ∃ r18, v16 = some (.int r18) ∧ ((r18 ≤ (2 * r9) → Cal G mX6_nearer d [.int x1] sh ta m17 (fun v21 m22 => ∃ r23, v21 = some (.int r23) ∧ ((¬ r23 = 0 → Cal G mX6_size d [.ref b, .int r23] sh ta m22 (fun v26 m27 => ∃ r28, v26 = some (.int r28) ∧ ((¬ r28 = (5 : Int32) → K (some (.int 1)) m27) ∧ (r28 = (5 : Int32) → K (some (.int 3)) m27)))) ∧ (r23 = 0 → K (some (.int 2)) m22)))) ∧ (¬ r18 ≤ (2 * r9) → K (some (.int 0)) m17)))) ∧ (¬ r9 < r13 → K (some (.int 2)) m12))))) ∧ (r3 = ((-1) : Int32) → K (some (.int 0)) m2)))) : WP G (rmD (d + 1) 0 0) mX6_does (QC G sh ta K) 0 0 0 [(0, .ref b), (1, .int x1)] [] (sh, ta, m) := by
  refine WP.aload_n 0 dX6_does_0 rfl rfl ?_
  refine WP.iload_n 1 dX6_does_1 rfl rfl ?_
  obtain ⟨h5, h⟩ := h
  refine WP.callV (y := mX6_uppermost) (As := [.int x1]) (st := []) dX6_does_2 wm_X6_167 mw_X6_uppermost rfl (Nat.le_of_ble_eq_true rfl) (rmok d) h5 (by decide) rfl h (fun v1 Sm2 h4 => ?_)
  obtain ⟨m2, rfl, r3, rfl, h⟩ := h4
  show WP G _ _ _ 0 0 5 [(0, .ref b), (1, .int x1)] [.int r3] (sh, ta, m2)
  refine WP.istore_n (lv2 := [(2, .int r3), (0, .ref b), (1, .int x1)]) dX6_does_5 rfl (by decide) rfl ?_
  refine WP.iload_n 0 dX6_does_6 rfl rfl ?_
  refine WP.iconst (v := (-1)) dX6_does_7 rfl ?_
  refine WP.icmp_ne (tgt := 13) dX6_does_8 (by decide) (fun c6 => ?_) (fun c6 => ?_)
  · have h := h.1 c6
    refine WP.aload_n 1 dX6_does_13 rfl rfl ?_
    refine WP.iconst (v := 0) dX6_does_14 rfl ?_
    refine WP.callV (y := mX6_strengthBehind) (As := [.int 0]) (st := []) dX6_does_15 wm_X6_170 mw_X6_strengthBehind rfl (Nat.le_of_ble_eq_true rfl) (rmok d) h5 (by decide) rfl h (fun v7 Sm8 h10 => ?_)
    obtain ⟨m8, rfl, r9, rfl, h⟩ := h10
    show WP G _ _ _ 0 0 18 [(2, .int r3), (0, .ref b), (1, .int x1)] [.int r9] (sh, ta, m8)
    refine WP.istore_n (lv2 := [(3, .int r9), (2, .int r3), (0, .ref b), (1, .int x1)]) dX6_does_18 rfl (by decide) rfl ?_
    refine WP.iload_n 0 dX6_does_19 rfl rfl ?_
    refine WP.aload_n 2 dX6_does_20 rfl rfl ?_
    refine WP.iload_n 1 dX6_does_21 rfl rfl ?_
    refine WP.callV (y := mX6_needs) (As := [.int r3]) (st := [.int r9]) dX6_does_22 wm_X6_151 mw_X6_needs rfl (Nat.le_of_ble_eq_true rfl) (rmok d) h5 (by decide) rfl h (fun v11 Sm12 h14 => ?_)
    obtain ⟨m12, rfl, r13, rfl, h⟩ := h14
    show WP G _ _ _ 0 0 25 [(3, .int r9), (2, .int r3), (0, .ref b), (1, .int x1)] [.int r13, .int r9] (sh, ta, m12)
    refine WP.icmp_lt (tgt := 30) dX6_does_25 (by decide) (fun c15 => ?_) (fun c15 => ?_)
    · have h := h.1 c15
      refine WP.iconst (v := 2) dX6_does_30 rfl ?_
      refine WP.iload_n 0 dX6_does_31 rfl rfl ?_
      refine WP.imul dX6_does_32 ?_
      refine WP.aload_n 2 dX6_does_33 rfl rfl ?_
      refine WP.iload_n 1 dX6_does_34 rfl rfl ?_
      refine WP.callV (y := mX6_needs) (As := [.int r3]) (st := [.int (2 * r9)]) dX6_does_35 wm_X6_151 mw_X6_needs rfl (Nat.le_of_ble_eq_true rfl) (rmok d) h5 (by decide) rfl h (fun v16 Sm17 h19 => ?_)
      obtain ⟨m17, rfl, r18, rfl, h⟩ := h19
      show WP G _ _ _ 0 0 38 [(3, .int r9), (2, .int r3), (0, .ref b), (1, .int x1)] [.int r18, .int (2 * r9)] (sh, ta, m17)
      refine WP.icmp_ge (tgt := 43) dX6_does_38 (by decide) (fun c20 => ?_) (fun c20 => ?_)
      · have h := h.1 c20
        refine WP.iload_n 3 dX6_does_43 rfl rfl ?_
        refine WP.callS (y := mX6_nearer) (As := [.int x1]) (st := []) dX6_does_44 wm_X6_173 mw_X6_nearer rfl (Nat.le_of_ble_eq_true rfl) (rmok d) rfl h (fun v21 Sm22 h24 => ?_)
        obtain ⟨m22, rfl, r23, rfl, h⟩ := h24
        show WP G _ _ _ 0 0 47 [(3, .int r9), (2, .int r3), (0, .ref b), (1, .int x1)] [.int r23] (sh, ta, m22)
        refine WP.istore (lv2 := [(4, .int r23), (3, .int r9), (2, .int r3), (0, .ref b), (1, .int x1)]) dX6_does_47 (by decide) rfl ?_
        refine WP.iload 0 dX6_does_49 rfl ?_
        refine WP.if_ne (tgt := 58) dX6_does_51 (by decide) (fun c25 => ?_) (fun c25 => ?_)
        · have h := h.1 c25
          refine WP.aload_n 3 dX6_does_58 rfl rfl ?_
          refine WP.iload 0 dX6_does_59 rfl ?_
          refine WP.callV (y := mX6_size) (As := [.int r23]) (st := []) dX6_does_61 wm_X6_54 mw_X6_size rfl (Nat.le_of_ble_eq_true rfl) (rmok d) h5 (by decide) rfl h (fun v26 Sm27 h29 => ?_)
          obtain ⟨m27, rfl, r28, rfl, h⟩ := h29
          show WP G _ _ _ 0 0 64 [(4, .int r23), (3, .int r9), (2, .int r3), (0, .ref b), (1, .int x1)] [.int r28] (sh, ta, m27)
          refine WP.iconst (v := 5) dX6_does_64 rfl ?_
          refine WP.icmp_ne (tgt := 72) dX6_does_65 (by decide) (fun c30 => ?_) (fun c30 => ?_)
          · have h := h.1 c30
            refine WP.iconst (v := 1) dX6_does_72 rfl ?_
            exact WP.iret dX6_does_73 rfl (Nat.le_refl _) (Nat.le_refl _) ⟨_, rfl, h⟩
          · have h := h.2 c30
            refine WP.iconst (v := 3) dX6_does_68 rfl ?_
            refine WP.goto (tgt := 73) dX6_does_69 (by decide) ?_
            exact WP.iret dX6_does_73 rfl (Nat.le_refl _) (Nat.le_refl _) ⟨_, rfl, h⟩
        · have h := h.2 c25
          refine WP.iconst (v := 2) dX6_does_54 rfl ?_
          refine WP.goto (tgt := 73) dX6_does_55 (by decide) ?_
          exact WP.iret dX6_does_73 rfl (Nat.le_refl _) (Nat.le_refl _) ⟨_, rfl, h⟩
      · have h := h.2 c20
        refine WP.iconst (v := 0) dX6_does_41 rfl ?_
        exact WP.iret dX6_does_42 rfl (Nat.le_refl _) (Nat.le_refl _) ⟨_, rfl, h⟩
    · have h := h.2 c15
      refine WP.iconst (v := 2) dX6_does_28 rfl ?_
      exact WP.iret dX6_does_29 rfl (Nat.le_refl _) (Nat.le_refl _) ⟨_, rfl, h⟩
  · have h := h.2 c6
    refine WP.iconst (v := 0) dX6_does_11 rfl ?_
    exact WP.iret dX6_does_12 rfl (Nat.le_refl _) (Nat.le_refl _) ⟨_, rfl, h⟩
set_option maxHeartbeats 4000000 in
set_option maxRecDepth 20000 in
theorem rg_X6_cellIs_0 (hG : fl G = false) (b : Nat) (x1 : Int32) (x2 : Int32) (h : Cal G mX6_isCell d [.int x1] sh ta m (fun v1 m2 => ∃ r3, v1 = some (.int r3) ∧ ((r3 = 0 → sh[b]? = some (.inl 6) ∧ Cal G mX6_error d [.ref b, .int 1] sh ta m2 (fun v6 m7 => ∃ r8, v6 = some (.int r8) ∧ K (some (.int r8)) m7)) ∧ (¬ r3 = 0 → Cal G mX6_in d [.int x2, .int 0, .int 3] sh ta m2 (fun v11 m12 => ∃ r13, v11 = some (.int r13) ∧ ((¬ r13 = 0 → (((x2.toInt < 0 ∨ 2 < x2.toInt) → sh[b]? = some (.inl 6) ∧ Cal G mX6_does d [.ref b, .int x1] sh ta m12 (fun v17 m18 => ∃ r19, v17 = some (.int r19) ∧ K (some (.int r19)) m18)) ∧ (x2 = 0 → sh[b]? = some (.inl 6) ∧ Cal G mX6_size d [.ref b, .int x1] sh ta m12 (fun v22 m23 => ∃ r24, v22 = some (.int r24) ∧ K (some (.int r24)) m23)) ∧ (x2 = 1 → sh[b]? = some (.inl 6) ∧ Cal G mX6_uppermost d [.ref b, .int x1] sh ta m12 (fun v27 m28 => ∃ r29, v27 = some (.int r29) ∧ K (some (.int r29)) m28)) ∧ (x2 = 2 → sh[b]? = some (.inl 6) ∧ Cal G mX6_size d [.ref b, .int x1] sh ta m12 (fun v32 m33 => ∃ r34, v32 = some (.int r34) ∧ ((¬ r34 = 0 → Cal G mX6_at1 d [.ref b, .int x1, .int 0] sh ta m33 (fun v38 m39 => ∃ r40, v38 = some (.int r40) ∧ K (some (.int r40)) m39)) ∧ (r34 = 0 → K (some (.int ((-1)))) m33)))))) ∧ (r13 = 0 → sh[b]? = some (.inl 6) ∧ Cal G mX6_error d [.ref b, .int 1] sh ta m12 (fun v42 m43 => ∃ r44, v42 = some (.int r44) ∧ K (some (.int r44)) m43)))))))) : WP G (rmD (d + 1) 0 0) mX6_cellIs (QC G sh ta K) 0 0 0 [(0, .ref b), (1, .int x1), (2, .int x2)] [] (sh, ta, m) := by
  refine WP.iload_n 1 dX6_cellIs_0 rfl rfl ?_
  refine WP.callS (y := mX6_isCell) (As := [.int x1]) (st := []) dX6_cellIs_1 wm_X6_176 mw_X6_isCell rfl (Nat.le_of_ble_eq_true rfl) (rmok d) rfl h (fun v1 Sm2 h4 => ?_)
  obtain ⟨m2, rfl, r3, rfl, h⟩ := h4
  show WP G _ _ _ 0 0 4 [(0, .ref b), (1, .int x1), (2, .int x2)] [.int r3] (sh, ta, m2)
  refine WP.if_eq (tgt := 16) dX6_cellIs_4 (by decide) (fun c5 => ?_) (fun c5 => ?_)
  · have h := h.1 c5
    refine WP.aload_n 0 dX6_cellIs_16 rfl rfl ?_
    refine WP.iconst (v := 1) dX6_cellIs_17 rfl ?_
    obtain ⟨h10, h⟩ := h
    refine WP.callV (y := mX6_error) (As := [.int 1]) (st := []) dX6_cellIs_18 wm_X6_68 mw_X6_error rfl (Nat.le_of_ble_eq_true rfl) (rmok d) h10 (by decide) rfl h (fun v6 Sm7 h9 => ?_)
    obtain ⟨m7, rfl, r8, rfl, h⟩ := h9
    show WP G _ _ _ 0 0 21 [(0, .ref b), (1, .int x1), (2, .int x2)] [.int r8] (sh, ta, m7)
    exact WP.iret dX6_cellIs_21 rfl (Nat.le_refl _) (Nat.le_refl _) ⟨_, rfl, h⟩
  · have h := h.2 c5
    refine WP.iload_n 2 dX6_cellIs_7 rfl rfl ?_
    refine WP.iconst (v := 0) dX6_cellIs_8 rfl ?_
    refine WP.iconst (v := 3) dX6_cellIs_9 rfl ?_
    refine WP.callS (y := mX6_in) (As := [.int x2, .int 0, .int 3]) (st := []) dX6_cellIs_10 wm_X6_50 mw_X6_in rfl (Nat.le_of_ble_eq_true rfl) (rmok d) rfl h (fun v11 Sm12 h14 => ?_)
    obtain ⟨m12, rfl, r13, rfl, h⟩ := h14
    show WP G _ _ _ 0 0 13 [(0, .ref b), (1, .int x1), (2, .int x2)] [.int r13] (sh, ta, m12)
    refine WP.if_ne (tgt := 22) dX6_cellIs_13 (by decide) (fun c15 => ?_) (fun c15 => ?_)
    · have h := h.1 c15
      refine WP.iload_n 2 dX6_cellIs_22 rfl rfl ?_
      by_cases c16 : (x2 : Int32).toInt < 0 ∨ 2 < (x2 : Int32).toInt
      · have h := h.1 c16
        refine WP.tswO (td := 79) dX6_cellIs_23 c16 (by decide) ?_
        refine WP.aload_n 0 dX6_cellIs_79 rfl rfl ?_
        refine WP.iload_n 1 dX6_cellIs_80 rfl rfl ?_
        obtain ⟨h21, h⟩ := h
        refine WP.callV (y := mX6_does) (As := [.int x1]) (st := []) dX6_cellIs_81 wm_X6_179 mw_X6_does rfl (Nat.le_of_ble_eq_true rfl) (rmok d) h21 (by decide) rfl h (fun v17 Sm18 h20 => ?_)
        obtain ⟨m18, rfl, r19, rfl, h⟩ := h20
        show WP G _ _ _ 0 0 84 [(0, .ref b), (1, .int x1), (2, .int x2)] [.int r19] (sh, ta, m18)
        exact WP.iret dX6_cellIs_84 rfl (Nat.le_refl _) (Nat.le_refl _) ⟨_, rfl, h⟩
      rcases (show (x2 : Int32).toInt = 0 ∨ (x2 : Int32).toInt = 1 ∨ (x2 : Int32).toInt = 2 by omega) with c16 | c16 | c16
      · have h := h.2.1 (i32_of c16 rfl)
        refine WP.tswI (td := 48) 0 dX6_cellIs_23 c16 (by decide) rfl (by decide) ?_
        refine WP.aload_n 0 dX6_cellIs_48 rfl rfl ?_
        refine WP.iload_n 1 dX6_cellIs_49 rfl rfl ?_
        obtain ⟨h26, h⟩ := h
        refine WP.callV (y := mX6_size) (As := [.int x1]) (st := []) dX6_cellIs_50 wm_X6_54 mw_X6_size rfl (Nat.le_of_ble_eq_true rfl) (rmok d) h26 (by decide) rfl h (fun v22 Sm23 h25 => ?_)
        obtain ⟨m23, rfl, r24, rfl, h⟩ := h25
        show WP G _ _ _ 0 0 53 [(0, .ref b), (1, .int x1), (2, .int x2)] [.int r24] (sh, ta, m23)
        exact WP.iret dX6_cellIs_53 rfl (Nat.le_refl _) (Nat.le_refl _) ⟨_, rfl, h⟩
      · have h := h.2.2.1 (i32_of c16 rfl)
        refine WP.tswI (td := 54) 1 dX6_cellIs_23 c16 (by decide) rfl (by decide) ?_
        refine WP.aload_n 0 dX6_cellIs_54 rfl rfl ?_
        refine WP.iload_n 1 dX6_cellIs_55 rfl rfl ?_
        obtain ⟨h31, h⟩ := h
        refine WP.callV (y := mX6_uppermost) (As := [.int x1]) (st := []) dX6_cellIs_56 wm_X6_167 mw_X6_uppermost rfl (Nat.le_of_ble_eq_true rfl) (rmok d) h31 (by decide) rfl h (fun v27 Sm28 h30 => ?_)
        obtain ⟨m28, rfl, r29, rfl, h⟩ := h30
        show WP G _ _ _ 0 0 59 [(0, .ref b), (1, .int x1), (2, .int x2)] [.int r29] (sh, ta, m28)
        exact WP.iret dX6_cellIs_59 rfl (Nat.le_refl _) (Nat.le_refl _) ⟨_, rfl, h⟩
      · have h := h.2.2.2 (i32_of c16 rfl)
        refine WP.tswI (td := 60) 2 dX6_cellIs_23 c16 (by decide) rfl (by decide) ?_
        refine WP.aload_n 0 dX6_cellIs_60 rfl rfl ?_
        refine WP.iload_n 1 dX6_cellIs_61 rfl rfl ?_
        obtain ⟨h36, h⟩ := h
        refine WP.callV (y := mX6_size) (As := [.int x1]) (st := []) dX6_cellIs_62 wm_X6_54 mw_X6_size rfl (Nat.le_of_ble_eq_true rfl) (rmok d) h36 (by decide) rfl h (fun v32 Sm33 h35 => ?_)
        obtain ⟨m33, rfl, r34, rfl, h⟩ := h35
        show WP G _ _ _ 0 0 65 [(0, .ref b), (1, .int x1), (2, .int x2)] [.int r34] (sh, ta, m33)
        refine WP.if_ne (tgt := 72) dX6_cellIs_65 (by decide) (fun c37 => ?_) (fun c37 => ?_)
        · have h := h.1 c37
          refine WP.aload_n 0 dX6_cellIs_72 rfl rfl ?_
          refine WP.iload_n 1 dX6_cellIs_73 rfl rfl ?_
          refine WP.iconst (v := 0) dX6_cellIs_74 rfl ?_
          refine WP.callV (y := mX6_at1) (As := [.int x1, .int 0]) (st := []) dX6_cellIs_75 wm_X6_58 mw_X6_at1 rfl (Nat.le_of_ble_eq_true rfl) (rmok d) h36 (by decide) rfl h (fun v38 Sm39 h41 => ?_)
          obtain ⟨m39, rfl, r40, rfl, h⟩ := h41
          show WP G _ _ _ 0 0 78 [(0, .ref b), (1, .int x1), (2, .int x2)] [.int r40] (sh, ta, m39)
          exact WP.iret dX6_cellIs_78 rfl (Nat.le_refl _) (Nat.le_refl _) ⟨_, rfl, h⟩
        · have h := h.2 c37
          refine WP.iconst (v := (-1)) dX6_cellIs_68 rfl ?_
          refine WP.goto (tgt := 78) dX6_cellIs_69 (by decide) ?_
          exact WP.iret dX6_cellIs_78 rfl (Nat.le_refl _) (Nat.le_refl _) ⟨_, rfl, h⟩
    · have h := h.2 c15
      refine WP.aload_n 0 dX6_cellIs_16 rfl rfl ?_
      refine WP.iconst (v := 1) dX6_cellIs_17 rfl ?_
      obtain ⟨h46, h⟩ := h
      refine WP.callV (y := mX6_error) (As := [.int 1]) (st := []) dX6_cellIs_18 wm_X6_68 mw_X6_error rfl (Nat.le_of_ble_eq_true rfl) (rmok d) h46 (by decide) rfl h (fun v42 Sm43 h45 => ?_)
      obtain ⟨m43, rfl, r44, rfl, h⟩ := h45
      show WP G _ _ _ 0 0 21 [(0, .ref b), (1, .int x1), (2, .int x2)] [.int r44] (sh, ta, m43)
      exact WP.iret dX6_cellIs_21 rfl (Nat.le_refl _) (Nat.le_refl _) ⟨_, rfl, h⟩
set_option maxHeartbeats 4000000 in
set_option maxRecDepth 20000 in
theorem rg_X6_pulls1_0 (hG : fl G = false) (b : Nat) (x1 : Int32) (h : sh[b]? = some (.inl 6) ∧ Cal G mX6_does d [.ref b, .int x1] sh ta m (fun v1 m2 => ∃ r3, v1 = some (.int r3) ∧ Cal G mX6_uppermost d [.ref b, .int x1] sh ta m2 (fun v6 m7 => ∃ r8, v6 = some (.int r8) ∧ ((¬ r3 = (2 : Int32) → ((¬ r3 = (1 : Int32) → ∃ i12, ta b 0 = some i12 ∧ ∃ n15, sh[i12]? = some (.inr (0, n15)) ∧ InB 1 n15 ∧ Cal G mX6_held d [.int ((rd (m7 i12) (1 : Int32)) + 1), .int 0, .int 99999] sh ta m7 (fun v17 m18 => ∃ r19, v17 = some (.int r19) ∧ InB 1 n15 ∧ ∀ m22, m22 = upa m18 i12 (1 : Int32) r19 → InB 2 n15 ∧ Cal G mX6_held d [.int ((rd (m22 i12) (2 : Int32)) + 1), .int 0, .int 9999] sh ta m22 (fun v24 m25 => ∃ r26, v24 = some (.int r26) ∧ InB 2 n15 ∧ ∀ m29, m29 = upa m25 i12 (2 : Int32) r26 → ((¬ r3 = (2 : Int32) → K (some (.int ((-1)))) m29) ∧ (r3 = (2 : Int32) → K (some (.int r8)) m29))))) ∧ (r3 = (1 : Int32) → Cal G mX6_takesOut d [.ref b, .int r8, .int ((-2))] sh ta m7 (fun v31 m32 => v31 = none ∧ Cal G mX6_nearer d [.int x1] sh ta m32 (fun v35 m36 => ∃ r37, v35 = some (.int r37) ∧ Cal G mX6_lays d [.ref b, .int r8, .int r37] sh ta m36 (fun v39 m40 => v39 = none ∧ ∃ i43, ta b 0 = some i43 ∧ ∃ n46, sh[i43]? = some (.inr (0, n46)) ∧ InB 1 n46 ∧ Cal G mX6_held d [.int ((rd (m40 i43) (1 : Int32)) + 1), .int 0, .int 99999] sh ta m40 (fun v48 m49 => ∃ r50, v48 = some (.int r50) ∧ InB 1 n46 ∧ ∀ m53, m53 = upa m49 i43 (1 : Int32) r50 → InB 2 n46 ∧ Cal G mX6_held d [.int ((rd (m53 i43) (2 : Int32)) + 1), .int 0, .int 9999] sh ta m53 (fun v55 m56 => ∃ r57, v55 = some (.int r57) ∧ InB 2 n46 ∧ ∀ m60, m60 = upa m56 i43 (2 : Int32) r57 → ((¬ r3 = (2 : Int32) → K (some (.int ((-1)))) m60) ∧ (r3 = (2 : Int32) → K (some (.int r8)) m60)))))))))) ∧ (r3 = (2 : Int32) → Cal G mX6_takesOut d [.ref b, .int r8, .int ((-1))] sh ta m7 (fun v62 m63 => v62 = none ∧ ((¬ r3 = (1 : Int32) → ∃ i67, ta b 0 = some i67 ∧ ∃ n70, sh[i67]? = some (.inr (0, n70)) ∧ InB 1 n70 ∧ Cal G mX6_held d [.int ((rd (m63 i67) (1 : Int32)) + 1), .int 0, .int 99999] sh ta m63 (fun v72 m73 => ∃ r74, v72 = some (.int r74) ∧ InB 1 n70 ∧ ∀ m77, m77 = upa m73 i67 (1 : Int32) r74 → InB 2 n70 ∧ Cal G mX6_held d [.int ((rd (m77 i67) (2 : Int32)) + 1), .int 0, .int 9999] sh ta m77 (fun v79 m80 => ∃ r81, v79 = some (.int r81) ∧ InB 2 n70 ∧ ∀ m84, m84 = upa m80 i67 (2 : Int32) r81 → ((¬ r3 = (2 : Int32) → K (some (.int ((-1)))) m84) ∧ (r3 = (2 : Int32) → K (some (.int r8)) m84))))) ∧ (r3 = (1 : Int32) → Cal G mX6_takesOut d [.ref b, .int r8, .int ((-2))] sh ta m63 (fun v86 m87 => v86 = none ∧ Cal G mX6_nearer d [.int x1] sh ta m87 (fun v90 m91 => ∃ r92, v90 = some (.int r92) ∧ Cal G mX6_lays d [.ref b, .int r8, .int r92] sh ta m91 (fun v94 m95 => v94 = none ∧ ∃ i98, ta b 0 = some i98 ∧ ∃ n101, sh[i98]? = some (.inr (0, n101)) ∧ InB 1 n101 ∧ Cal G mX6_held d [.int ((rd (m95 i98) (1 : Int32)) + 1), .int 0, .int 99999] sh ta m95 (fun v103 m104 => ∃ r105, v103 = some (.int r105) ∧ InB 1 n101 ∧ ∀ m108, m108 = upa m104 i98 (1 : Int32) r105 → InB 2 n101 ∧ Cal G mX6_held d [.int ((rd (m108 i98) (2 : Int32)) + 1), .int 0, .int 9999] sh ta m108 (fun v110 m111 => ∃ r112, v110 = some (.int r112) ∧ InB 2 n101 ∧ ∀ m115, m115 = upa m111 i98 (2 : Int32) r112 → ((¬ r3 = (2 : Int32) → K (some (.int ((-1)))) m115) ∧ (r3 = (2 : Int32) → K (some (.int r8)) m115))))))))))))))) : WP G (rmD (d + 1) 0 0) mX6_pulls1 (QC G sh ta K) 0 0 0 [(0, .ref b), (1, .int x1)] [] (sh, ta, m) := by
  refine WP.aload_n 0 dX6_pulls1_0 rfl rfl ?_
  refine WP.iload_n 1 dX6_pulls1_1 rfl rfl ?_
  obtain ⟨h5, h⟩ := h
  refine WP.callV (y := mX6_does) (As := [.int x1]) (st := []) dX6_pulls1_2 wm_X6_179 mw_X6_does rfl (Nat.le_of_ble_eq_true rfl) (rmok d) h5 (by decide) rfl h (fun v1 Sm2 h4 => ?_)
  obtain ⟨m2, rfl, r3, rfl, h⟩ := h4
  show WP G _ _ _ 0 0 5 [(0, .ref b), (1, .int x1)] [.int r3] (sh, ta, m2)
  refine WP.istore_n (lv2 := [(2, .int r3), (0, .ref b), (1, .int x1)]) dX6_pulls1_5 rfl (by decide) rfl ?_
  refine WP.aload_n 1 dX6_pulls1_6 rfl rfl ?_
  refine WP.iload_n 2 dX6_pulls1_7 rfl rfl ?_
  refine WP.callV (y := mX6_uppermost) (As := [.int x1]) (st := []) dX6_pulls1_8 wm_X6_167 mw_X6_uppermost rfl (Nat.le_of_ble_eq_true rfl) (rmok d) h5 (by decide) rfl h (fun v6 Sm7 h9 => ?_)
  obtain ⟨m7, rfl, r8, rfl, h⟩ := h9
  show WP G _ _ _ 0 0 11 [(2, .int r3), (0, .ref b), (1, .int x1)] [.int r8] (sh, ta, m7)
  refine WP.istore_n (lv2 := [(3, .int r8), (2, .int r3), (0, .ref b), (1, .int x1)]) dX6_pulls1_11 rfl (by decide) rfl ?_
  refine WP.iload_n 1 dX6_pulls1_12 rfl rfl ?_
  refine WP.iconst (v := 2) dX6_pulls1_13 rfl ?_
  refine WP.icmp_ne (tgt := 23) dX6_pulls1_14 (by decide) (fun c10 => ?_) (fun c10 => ?_)
  · have h := h.1 c10
    refine WP.iload_n 1 dX6_pulls1_23 rfl rfl ?_
    refine WP.iconst (v := 1) dX6_pulls1_24 rfl ?_
    refine WP.icmp_ne (tgt := 44) dX6_pulls1_25 (by decide) (fun c11 => ?_) (fun c11 => ?_)
    · have h := h.1 c11
      refine WP.aload_n 2 dX6_pulls1_44 rfl rfl ?_
      obtain ⟨i12, h13, h⟩ := h
      refine WP.getR 6 0 wf_X6_7 (by decide) (by decide) rfl h5 h13 dX6_pulls1_45 ?_
      refine WP.iconst (v := 1) dX6_pulls1_48 rfl ?_
      refine WP.aload_n 2 dX6_pulls1_49 rfl rfl ?_
      refine WP.getR 6 0 wf_X6_7 (by decide) (by decide) rfl h5 h13 dX6_pulls1_50 ?_
      refine WP.iconst (v := 1) dX6_pulls1_53 rfl ?_
      obtain ⟨n15, h14, h⟩ := h
      obtain ⟨h16, h⟩ := h
      refine WP.iald h14 h16 dX6_pulls1_54 ?_
      refine WP.iconst (v := 1) dX6_pulls1_55 rfl ?_
      refine WP.iadd dX6_pulls1_56 ?_
      refine WP.iconst (v := 0) dX6_pulls1_57 rfl ?_
      refine WP.ldc wx_X6_182 dX6_pulls1_58 ?_
      refine WP.callS (y := mX6_held) (As := [.int ((rd (m7 i12) (1 : Int32)) + 1), .int 0, .int 99999]) (st := [.int 1, .ref i12]) dX6_pulls1_60 wm_X6_139 mw_X6_held rfl (Nat.le_of_ble_eq_true rfl) (rmok d) rfl h (fun v17 Sm18 h20 => ?_)
      obtain ⟨m18, rfl, r19, rfl, h⟩ := h20
      show WP G _ _ _ 0 0 63 [(3, .int r8), (2, .int r3), (0, .ref b), (1, .int x1)] [.int r19, .int 1, .ref i12] (sh, ta, m18)
      obtain ⟨h21, h⟩ := h
      have h := h _ rfl
      refine WP.iast h14 h21 dX6_pulls1_63 ?_
      generalize upa m18 i12 (1 : Int32) r19 = m22 at h ⊢
      refine WP.aload_n 2 dX6_pulls1_64 rfl rfl ?_
      refine WP.getR 6 0 wf_X6_7 (by decide) (by decide) rfl h5 h13 dX6_pulls1_65 ?_
      refine WP.iconst (v := 2) dX6_pulls1_68 rfl ?_
      refine WP.aload_n 2 dX6_pulls1_69 rfl rfl ?_
      refine WP.getR 6 0 wf_X6_7 (by decide) (by decide) rfl h5 h13 dX6_pulls1_70 ?_
      refine WP.iconst (v := 2) dX6_pulls1_73 rfl ?_
      obtain ⟨h23, h⟩ := h
      refine WP.iald h14 h23 dX6_pulls1_74 ?_
      refine WP.iconst (v := 1) dX6_pulls1_75 rfl ?_
      refine WP.iadd dX6_pulls1_76 ?_
      refine WP.iconst (v := 0) dX6_pulls1_77 rfl ?_
      refine WP.sipush (v := 9999) dX6_pulls1_78 rfl ?_
      refine WP.callS (y := mX6_held) (As := [.int ((rd (m22 i12) (2 : Int32)) + 1), .int 0, .int 9999]) (st := [.int 2, .ref i12]) dX6_pulls1_81 wm_X6_139 mw_X6_held rfl (Nat.le_of_ble_eq_true rfl) (rmok d) rfl h (fun v24 Sm25 h27 => ?_)
      obtain ⟨m25, rfl, r26, rfl, h⟩ := h27
      show WP G _ _ _ 0 0 84 [(3, .int r8), (2, .int r3), (0, .ref b), (1, .int x1)] [.int r26, .int 2, .ref i12] (sh, ta, m25)
      obtain ⟨h28, h⟩ := h
      have h := h _ rfl
      refine WP.iast h14 h28 dX6_pulls1_84 ?_
      generalize upa m25 i12 (2 : Int32) r26 = m29 at h ⊢
      refine WP.iload_n 1 dX6_pulls1_85 rfl rfl ?_
      refine WP.iconst (v := 2) dX6_pulls1_86 rfl ?_
      refine WP.icmp_ne (tgt := 94) dX6_pulls1_87 (by decide) (fun c30 => ?_) (fun c30 => ?_)
      · have h := h.1 c30
        refine WP.iconst (v := (-1)) dX6_pulls1_94 rfl ?_
        exact WP.iret dX6_pulls1_95 rfl (Nat.le_refl _) (Nat.le_refl _) ⟨_, rfl, h⟩
      · have h := h.2 c30
        refine WP.iload_n 0 dX6_pulls1_90 rfl rfl ?_
        refine WP.goto (tgt := 95) dX6_pulls1_91 (by decide) ?_
        exact WP.iret dX6_pulls1_95 rfl (Nat.le_refl _) (Nat.le_refl _) ⟨_, rfl, h⟩
    · have h := h.2 c11
      refine WP.aload_n 2 dX6_pulls1_28 rfl rfl ?_
      refine WP.iload_n 0 dX6_pulls1_29 rfl rfl ?_
      refine WP.bipush (v := (-2)) dX6_pulls1_30 rfl ?_
      refine WP.callV (y := mX6_takesOut) (As := [.int r8, .int ((-2))]) (st := []) dX6_pulls1_32 wm_X6_164 mw_X6_takesOut rfl (Nat.le_of_ble_eq_true rfl) (rmok d) h5 (by decide) rfl h (fun v31 Sm32 h34 => ?_)
      obtain ⟨m32, rfl, rfl, h⟩ := h34
      show WP G _ _ _ 0 0 35 [(3, .int r8), (2, .int r3), (0, .ref b), (1, .int x1)] [] (sh, ta, m32)
      refine WP.aload_n 2 dX6_pulls1_35 rfl rfl ?_
      refine WP.iload_n 0 dX6_pulls1_36 rfl rfl ?_
      refine WP.iload_n 3 dX6_pulls1_37 rfl rfl ?_
      refine WP.callS (y := mX6_nearer) (As := [.int x1]) (st := [.int r8, .ref b]) dX6_pulls1_38 wm_X6_173 mw_X6_nearer rfl (Nat.le_of_ble_eq_true rfl) (rmok d) rfl h (fun v35 Sm36 h38 => ?_)
      obtain ⟨m36, rfl, r37, rfl, h⟩ := h38
      show WP G _ _ _ 0 0 41 [(3, .int r8), (2, .int r3), (0, .ref b), (1, .int x1)] [.int r37, .int r8, .ref b] (sh, ta, m36)
      refine WP.callV (y := mX6_lays) (As := [.int r8, .int r37]) (st := []) dX6_pulls1_41 wm_X6_145 mw_X6_lays rfl (Nat.le_of_ble_eq_true rfl) (rmok d) h5 (by decide) rfl h (fun v39 Sm40 h42 => ?_)
      obtain ⟨m40, rfl, rfl, h⟩ := h42
      show WP G _ _ _ 0 0 44 [(3, .int r8), (2, .int r3), (0, .ref b), (1, .int x1)] [] (sh, ta, m40)
      refine WP.aload_n 2 dX6_pulls1_44 rfl rfl ?_
      obtain ⟨i43, h44, h⟩ := h
      refine WP.getR 6 0 wf_X6_7 (by decide) (by decide) rfl h5 h44 dX6_pulls1_45 ?_
      refine WP.iconst (v := 1) dX6_pulls1_48 rfl ?_
      refine WP.aload_n 2 dX6_pulls1_49 rfl rfl ?_
      refine WP.getR 6 0 wf_X6_7 (by decide) (by decide) rfl h5 h44 dX6_pulls1_50 ?_
      refine WP.iconst (v := 1) dX6_pulls1_53 rfl ?_
      obtain ⟨n46, h45, h⟩ := h
      obtain ⟨h47, h⟩ := h
      refine WP.iald h45 h47 dX6_pulls1_54 ?_
      refine WP.iconst (v := 1) dX6_pulls1_55 rfl ?_
      refine WP.iadd dX6_pulls1_56 ?_
      refine WP.iconst (v := 0) dX6_pulls1_57 rfl ?_
      refine WP.ldc wx_X6_182 dX6_pulls1_58 ?_
      refine WP.callS (y := mX6_held) (As := [.int ((rd (m40 i43) (1 : Int32)) + 1), .int 0, .int 99999]) (st := [.int 1, .ref i43]) dX6_pulls1_60 wm_X6_139 mw_X6_held rfl (Nat.le_of_ble_eq_true rfl) (rmok d) rfl h (fun v48 Sm49 h51 => ?_)
      obtain ⟨m49, rfl, r50, rfl, h⟩ := h51
      show WP G _ _ _ 0 0 63 [(3, .int r8), (2, .int r3), (0, .ref b), (1, .int x1)] [.int r50, .int 1, .ref i43] (sh, ta, m49)
      obtain ⟨h52, h⟩ := h
      have h := h _ rfl
      refine WP.iast h45 h52 dX6_pulls1_63 ?_
      generalize upa m49 i43 (1 : Int32) r50 = m53 at h ⊢
      refine WP.aload_n 2 dX6_pulls1_64 rfl rfl ?_
      refine WP.getR 6 0 wf_X6_7 (by decide) (by decide) rfl h5 h44 dX6_pulls1_65 ?_
      refine WP.iconst (v := 2) dX6_pulls1_68 rfl ?_
      refine WP.aload_n 2 dX6_pulls1_69 rfl rfl ?_
      refine WP.getR 6 0 wf_X6_7 (by decide) (by decide) rfl h5 h44 dX6_pulls1_70 ?_
      refine WP.iconst (v := 2) dX6_pulls1_73 rfl ?_
      obtain ⟨h54, h⟩ := h
      refine WP.iald h45 h54 dX6_pulls1_74 ?_
      refine WP.iconst (v := 1) dX6_pulls1_75 rfl ?_
      refine WP.iadd dX6_pulls1_76 ?_
      refine WP.iconst (v := 0) dX6_pulls1_77 rfl ?_
      refine WP.sipush (v := 9999) dX6_pulls1_78 rfl ?_
      refine WP.callS (y := mX6_held) (As := [.int ((rd (m53 i43) (2 : Int32)) + 1), .int 0, .int 9999]) (st := [.int 2, .ref i43]) dX6_pulls1_81 wm_X6_139 mw_X6_held rfl (Nat.le_of_ble_eq_true rfl) (rmok d) rfl h (fun v55 Sm56 h58 => ?_)
      obtain ⟨m56, rfl, r57, rfl, h⟩ := h58
      show WP G _ _ _ 0 0 84 [(3, .int r8), (2, .int r3), (0, .ref b), (1, .int x1)] [.int r57, .int 2, .ref i43] (sh, ta, m56)
      obtain ⟨h59, h⟩ := h
      have h := h _ rfl
      refine WP.iast h45 h59 dX6_pulls1_84 ?_
      generalize upa m56 i43 (2 : Int32) r57 = m60 at h ⊢
      refine WP.iload_n 1 dX6_pulls1_85 rfl rfl ?_
      refine WP.iconst (v := 2) dX6_pulls1_86 rfl ?_
      refine WP.icmp_ne (tgt := 94) dX6_pulls1_87 (by decide) (fun c61 => ?_) (fun c61 => ?_)
      · have h := h.1 c61
        refine WP.iconst (v := (-1)) dX6_pulls1_94 rfl ?_
        exact WP.iret dX6_pulls1_95 rfl (Nat.le_refl _) (Nat.le_refl _) ⟨_, rfl, h⟩
      · have h := h.2 c61
        refine WP.iload_n 0 dX6_pulls1_90 rfl rfl ?_
        refine WP.goto (tgt := 95) dX6_pulls1_91 (by decide) ?_
        exact WP.iret dX6_pulls1_95 rfl (Nat.le_refl _) (Nat.le_refl _) ⟨_, rfl, h⟩
  · have h := h.2 c10
    refine WP.aload_n 2 dX6_pulls1_17 rfl rfl ?_
    refine WP.iload_n 0 dX6_pulls1_18 rfl rfl ?_
    refine WP.iconst (v := (-1)) dX6_pulls1_19 rfl ?_
    refine WP.callV (y := mX6_takesOut) (As := [.int r8, .int ((-1))]) (st := []) dX6_pulls1_20 wm_X6_164 mw_X6_takesOut rfl (Nat.le_of_ble_eq_true rfl) (rmok d) h5 (by decide) rfl h (fun v62 Sm63 h65 => ?_)
    obtain ⟨m63, rfl, rfl, h⟩ := h65
    show WP G _ _ _ 0 0 23 [(3, .int r8), (2, .int r3), (0, .ref b), (1, .int x1)] [] (sh, ta, m63)
    refine WP.iload_n 1 dX6_pulls1_23 rfl rfl ?_
    refine WP.iconst (v := 1) dX6_pulls1_24 rfl ?_
    refine WP.icmp_ne (tgt := 44) dX6_pulls1_25 (by decide) (fun c66 => ?_) (fun c66 => ?_)
    · have h := h.1 c66
      refine WP.aload_n 2 dX6_pulls1_44 rfl rfl ?_
      obtain ⟨i67, h68, h⟩ := h
      refine WP.getR 6 0 wf_X6_7 (by decide) (by decide) rfl h5 h68 dX6_pulls1_45 ?_
      refine WP.iconst (v := 1) dX6_pulls1_48 rfl ?_
      refine WP.aload_n 2 dX6_pulls1_49 rfl rfl ?_
      refine WP.getR 6 0 wf_X6_7 (by decide) (by decide) rfl h5 h68 dX6_pulls1_50 ?_
      refine WP.iconst (v := 1) dX6_pulls1_53 rfl ?_
      obtain ⟨n70, h69, h⟩ := h
      obtain ⟨h71, h⟩ := h
      refine WP.iald h69 h71 dX6_pulls1_54 ?_
      refine WP.iconst (v := 1) dX6_pulls1_55 rfl ?_
      refine WP.iadd dX6_pulls1_56 ?_
      refine WP.iconst (v := 0) dX6_pulls1_57 rfl ?_
      refine WP.ldc wx_X6_182 dX6_pulls1_58 ?_
      refine WP.callS (y := mX6_held) (As := [.int ((rd (m63 i67) (1 : Int32)) + 1), .int 0, .int 99999]) (st := [.int 1, .ref i67]) dX6_pulls1_60 wm_X6_139 mw_X6_held rfl (Nat.le_of_ble_eq_true rfl) (rmok d) rfl h (fun v72 Sm73 h75 => ?_)
      obtain ⟨m73, rfl, r74, rfl, h⟩ := h75
      show WP G _ _ _ 0 0 63 [(3, .int r8), (2, .int r3), (0, .ref b), (1, .int x1)] [.int r74, .int 1, .ref i67] (sh, ta, m73)
      obtain ⟨h76, h⟩ := h
      have h := h _ rfl
      refine WP.iast h69 h76 dX6_pulls1_63 ?_
      generalize upa m73 i67 (1 : Int32) r74 = m77 at h ⊢
      refine WP.aload_n 2 dX6_pulls1_64 rfl rfl ?_
      refine WP.getR 6 0 wf_X6_7 (by decide) (by decide) rfl h5 h68 dX6_pulls1_65 ?_
      refine WP.iconst (v := 2) dX6_pulls1_68 rfl ?_
      refine WP.aload_n 2 dX6_pulls1_69 rfl rfl ?_
      refine WP.getR 6 0 wf_X6_7 (by decide) (by decide) rfl h5 h68 dX6_pulls1_70 ?_
      refine WP.iconst (v := 2) dX6_pulls1_73 rfl ?_
      obtain ⟨h78, h⟩ := h
      refine WP.iald h69 h78 dX6_pulls1_74 ?_
      refine WP.iconst (v := 1) dX6_pulls1_75 rfl ?_
      refine WP.iadd dX6_pulls1_76 ?_
      refine WP.iconst (v := 0) dX6_pulls1_77 rfl ?_
      refine WP.sipush (v := 9999) dX6_pulls1_78 rfl ?_
      refine WP.callS (y := mX6_held) (As := [.int ((rd (m77 i67) (2 : Int32)) + 1), .int 0, .int 9999]) (st := [.int 2, .ref i67]) dX6_pulls1_81 wm_X6_139 mw_X6_held rfl (Nat.le_of_ble_eq_true rfl) (rmok d) rfl h (fun v79 Sm80 h82 => ?_)
      obtain ⟨m80, rfl, r81, rfl, h⟩ := h82
      show WP G _ _ _ 0 0 84 [(3, .int r8), (2, .int r3), (0, .ref b), (1, .int x1)] [.int r81, .int 2, .ref i67] (sh, ta, m80)
      obtain ⟨h83, h⟩ := h
      have h := h _ rfl
      refine WP.iast h69 h83 dX6_pulls1_84 ?_
      generalize upa m80 i67 (2 : Int32) r81 = m84 at h ⊢
      refine WP.iload_n 1 dX6_pulls1_85 rfl rfl ?_
      refine WP.iconst (v := 2) dX6_pulls1_86 rfl ?_
      refine WP.icmp_ne (tgt := 94) dX6_pulls1_87 (by decide) (fun c85 => ?_) (fun c85 => ?_)
      · have h := h.1 c85
        refine WP.iconst (v := (-1)) dX6_pulls1_94 rfl ?_
        exact WP.iret dX6_pulls1_95 rfl (Nat.le_refl _) (Nat.le_refl _) ⟨_, rfl, h⟩
      · have h := h.2 c85
        refine WP.iload_n 0 dX6_pulls1_90 rfl rfl ?_
        refine WP.goto (tgt := 95) dX6_pulls1_91 (by decide) ?_
        exact WP.iret dX6_pulls1_95 rfl (Nat.le_refl _) (Nat.le_refl _) ⟨_, rfl, h⟩
    · have h := h.2 c66
      refine WP.aload_n 2 dX6_pulls1_28 rfl rfl ?_
      refine WP.iload_n 0 dX6_pulls1_29 rfl rfl ?_
      refine WP.bipush (v := (-2)) dX6_pulls1_30 rfl ?_
      refine WP.callV (y := mX6_takesOut) (As := [.int r8, .int ((-2))]) (st := []) dX6_pulls1_32 wm_X6_164 mw_X6_takesOut rfl (Nat.le_of_ble_eq_true rfl) (rmok d) h5 (by decide) rfl h (fun v86 Sm87 h89 => ?_)
      obtain ⟨m87, rfl, rfl, h⟩ := h89
      show WP G _ _ _ 0 0 35 [(3, .int r8), (2, .int r3), (0, .ref b), (1, .int x1)] [] (sh, ta, m87)
      refine WP.aload_n 2 dX6_pulls1_35 rfl rfl ?_
      refine WP.iload_n 0 dX6_pulls1_36 rfl rfl ?_
      refine WP.iload_n 3 dX6_pulls1_37 rfl rfl ?_
      refine WP.callS (y := mX6_nearer) (As := [.int x1]) (st := [.int r8, .ref b]) dX6_pulls1_38 wm_X6_173 mw_X6_nearer rfl (Nat.le_of_ble_eq_true rfl) (rmok d) rfl h (fun v90 Sm91 h93 => ?_)
      obtain ⟨m91, rfl, r92, rfl, h⟩ := h93
      show WP G _ _ _ 0 0 41 [(3, .int r8), (2, .int r3), (0, .ref b), (1, .int x1)] [.int r92, .int r8, .ref b] (sh, ta, m91)
      refine WP.callV (y := mX6_lays) (As := [.int r8, .int r92]) (st := []) dX6_pulls1_41 wm_X6_145 mw_X6_lays rfl (Nat.le_of_ble_eq_true rfl) (rmok d) h5 (by decide) rfl h (fun v94 Sm95 h97 => ?_)
      obtain ⟨m95, rfl, rfl, h⟩ := h97
      show WP G _ _ _ 0 0 44 [(3, .int r8), (2, .int r3), (0, .ref b), (1, .int x1)] [] (sh, ta, m95)
      refine WP.aload_n 2 dX6_pulls1_44 rfl rfl ?_
      obtain ⟨i98, h99, h⟩ := h
      refine WP.getR 6 0 wf_X6_7 (by decide) (by decide) rfl h5 h99 dX6_pulls1_45 ?_
      refine WP.iconst (v := 1) dX6_pulls1_48 rfl ?_
      refine WP.aload_n 2 dX6_pulls1_49 rfl rfl ?_
      refine WP.getR 6 0 wf_X6_7 (by decide) (by decide) rfl h5 h99 dX6_pulls1_50 ?_
      refine WP.iconst (v := 1) dX6_pulls1_53 rfl ?_
      obtain ⟨n101, h100, h⟩ := h
      obtain ⟨h102, h⟩ := h
      refine WP.iald h100 h102 dX6_pulls1_54 ?_
      refine WP.iconst (v := 1) dX6_pulls1_55 rfl ?_
      refine WP.iadd dX6_pulls1_56 ?_
      refine WP.iconst (v := 0) dX6_pulls1_57 rfl ?_
      refine WP.ldc wx_X6_182 dX6_pulls1_58 ?_
      refine WP.callS (y := mX6_held) (As := [.int ((rd (m95 i98) (1 : Int32)) + 1), .int 0, .int 99999]) (st := [.int 1, .ref i98]) dX6_pulls1_60 wm_X6_139 mw_X6_held rfl (Nat.le_of_ble_eq_true rfl) (rmok d) rfl h (fun v103 Sm104 h106 => ?_)
      obtain ⟨m104, rfl, r105, rfl, h⟩ := h106
      show WP G _ _ _ 0 0 63 [(3, .int r8), (2, .int r3), (0, .ref b), (1, .int x1)] [.int r105, .int 1, .ref i98] (sh, ta, m104)
      obtain ⟨h107, h⟩ := h
      have h := h _ rfl
      refine WP.iast h100 h107 dX6_pulls1_63 ?_
      generalize upa m104 i98 (1 : Int32) r105 = m108 at h ⊢
      refine WP.aload_n 2 dX6_pulls1_64 rfl rfl ?_
      refine WP.getR 6 0 wf_X6_7 (by decide) (by decide) rfl h5 h99 dX6_pulls1_65 ?_
      refine WP.iconst (v := 2) dX6_pulls1_68 rfl ?_
      refine WP.aload_n 2 dX6_pulls1_69 rfl rfl ?_
      refine WP.getR 6 0 wf_X6_7 (by decide) (by decide) rfl h5 h99 dX6_pulls1_70 ?_
      refine WP.iconst (v := 2) dX6_pulls1_73 rfl ?_
      obtain ⟨h109, h⟩ := h
      refine WP.iald h100 h109 dX6_pulls1_74 ?_
      refine WP.iconst (v := 1) dX6_pulls1_75 rfl ?_
      refine WP.iadd dX6_pulls1_76 ?_
      refine WP.iconst (v := 0) dX6_pulls1_77 rfl ?_
      refine WP.sipush (v := 9999) dX6_pulls1_78 rfl ?_
      refine WP.callS (y := mX6_held) (As := [.int ((rd (m108 i98) (2 : Int32)) + 1), .int 0, .int 9999]) (st := [.int 2, .ref i98]) dX6_pulls1_81 wm_X6_139 mw_X6_held rfl (Nat.le_of_ble_eq_true rfl) (rmok d) rfl h (fun v110 Sm111 h113 => ?_)
      obtain ⟨m111, rfl, r112, rfl, h⟩ := h113
      show WP G _ _ _ 0 0 84 [(3, .int r8), (2, .int r3), (0, .ref b), (1, .int x1)] [.int r112, .int 2, .ref i98] (sh, ta, m111)
      obtain ⟨h114, h⟩ := h
      have h := h _ rfl
      refine WP.iast h100 h114 dX6_pulls1_84 ?_
      generalize upa m111 i98 (2 : Int32) r112 = m115 at h ⊢
      refine WP.iload_n 1 dX6_pulls1_85 rfl rfl ?_
      refine WP.iconst (v := 2) dX6_pulls1_86 rfl ?_
      refine WP.icmp_ne (tgt := 94) dX6_pulls1_87 (by decide) (fun c116 => ?_) (fun c116 => ?_)
      · have h := h.1 c116
        refine WP.iconst (v := (-1)) dX6_pulls1_94 rfl ?_
        exact WP.iret dX6_pulls1_95 rfl (Nat.le_refl _) (Nat.le_refl _) ⟨_, rfl, h⟩
      · have h := h.2 c116
        refine WP.iload_n 0 dX6_pulls1_90 rfl rfl ?_
        refine WP.goto (tgt := 95) dX6_pulls1_91 (by decide) ?_
        exact WP.iret dX6_pulls1_95 rfl (Nat.le_refl _) (Nat.le_refl _) ⟨_, rfl, h⟩
set_option maxHeartbeats 4000000 in
set_option maxRecDepth 20000 in
theorem rg_X6_pull_0 (hG : fl G = false) (b : Nat) (x1 : Int32) (h : Cal G mX6_isOpen d [.int x1] sh ta m (fun v1 m2 => ∃ r3, v1 = some (.int r3) ∧ ((r3 = 0 → sh[b]? = some (.inl 6) ∧ Cal G mX6_error d [.ref b, .int 1] sh ta m2 (fun v6 m7 => ∃ r8, v6 = some (.int r8) ∧ K (some (.int r8)) m7)) ∧ (¬ r3 = 0 → sh[b]? = some (.inl 6) ∧ Cal G mX6_pulls1 d [.ref b, .int x1] sh ta m2 (fun v11 m12 => ∃ r13, v11 = some (.int r13) ∧ K (some (.int r13)) m12))))) : WP G (rmD (d + 1) 0 0) mX6_pull (QC G sh ta K) 0 0 0 [(0, .ref b), (1, .int x1)] [] (sh, ta, m) := by
  refine WP.iload_n 1 dX6_pull_0 rfl rfl ?_
  refine WP.callS (y := mX6_isOpen) (As := [.int x1]) (st := []) dX6_pull_1 wm_X6_142 mw_X6_isOpen rfl (Nat.le_of_ble_eq_true rfl) (rmok d) rfl h (fun v1 Sm2 h4 => ?_)
  obtain ⟨m2, rfl, r3, rfl, h⟩ := h4
  show WP G _ _ _ 0 0 4 [(0, .ref b), (1, .int x1)] [.int r3] (sh, ta, m2)
  refine WP.if_eq (tgt := 15) dX6_pull_4 (by decide) (fun c5 => ?_) (fun c5 => ?_)
  · have h := h.1 c5
    refine WP.aload_n 0 dX6_pull_15 rfl rfl ?_
    refine WP.iconst (v := 1) dX6_pull_16 rfl ?_
    obtain ⟨h10, h⟩ := h
    refine WP.callV (y := mX6_error) (As := [.int 1]) (st := []) dX6_pull_17 wm_X6_68 mw_X6_error rfl (Nat.le_of_ble_eq_true rfl) (rmok d) h10 (by decide) rfl h (fun v6 Sm7 h9 => ?_)
    obtain ⟨m7, rfl, r8, rfl, h⟩ := h9
    show WP G _ _ _ 0 0 20 [(0, .ref b), (1, .int x1)] [.int r8] (sh, ta, m7)
    exact WP.iret dX6_pull_20 rfl (Nat.le_refl _) (Nat.le_refl _) ⟨_, rfl, h⟩
  · have h := h.2 c5
    refine WP.aload_n 0 dX6_pull_7 rfl rfl ?_
    refine WP.iload_n 1 dX6_pull_8 rfl rfl ?_
    obtain ⟨h15, h⟩ := h
    refine WP.callV (y := mX6_pulls1) (As := [.int x1]) (st := []) dX6_pull_9 wm_X6_183 mw_X6_pulls1 rfl (Nat.le_of_ble_eq_true rfl) (rmok d) h15 (by decide) rfl h (fun v11 Sm12 h14 => ?_)
    obtain ⟨m12, rfl, r13, rfl, h⟩ := h14
    show WP G _ _ _ 0 0 12 [(0, .ref b), (1, .int x1)] [.int r13] (sh, ta, m12)
    refine WP.goto (tgt := 20) dX6_pull_12 (by decide) ?_
    exact WP.iret dX6_pull_20 rfl (Nat.le_refl _) (Nat.le_refl _) ⟨_, rfl, h⟩
set_option maxHeartbeats 4000000 in
set_option maxRecDepth 20000 in
theorem rg_X6_rowOf_0 (hG : fl G = false) (b : Nat) (x1 : Int32) (h : WP G (rmD (d + 1) 0 0) mX6_rowOf (QC G sh ta K) 0 0 2 [(0, .ref b), (1, .int x1), (2, .int 0)] [] (sh, ta, m)) : WP G (rmD (d + 1) 0 0) mX6_rowOf (QC G sh ta K) 0 0 0 [(0, .ref b), (1, .int x1)] [] (sh, ta, m) := by
  refine WP.iconst (v := 0) dX6_rowOf_0 rfl ?_
  refine WP.istore_n (lv2 := [(2, .int 0), (0, .ref b), (1, .int x1)]) dX6_rowOf_1 rfl (by decide) rfl ?_
  exact WP.pick [1, 2, 0] rfl h
set_option maxHeartbeats 4000000 in
set_option maxRecDepth 20000 in
theorem rg_X6_rowOf_2 (hG : fl G = false) (b : Nat) (x1 : Int32) (x2 : Int32) (h : sh[b]? = some (.inl 6) ∧ ∃ i2, ta b 19 = some i2 ∧ ∃ n5, sh[i2]? = some (.inr (0, n5)) ∧ InB x1 n5 ∧ (((rd (m i2) x1) ≤ x2 → K (some (.int x2)) m) ∧ (¬ (rd (m i2) x1) ≤ x2 → ∃ i8, ta b 20 = some i8 ∧ ∃ n11, sh[i8]? = some (.inr (0, n11)) ∧ InB ((24 * x1) + x2) n11 ∧ Cal G mX6_isOpen d [.int (rd (m i8) ((24 * x1) + x2))] sh ta m (fun v13 m14 => ∃ r15, v13 = some (.int r15) ∧ ((r15 = 0 → K (some (.int x2)) m14) ∧ (¬ r15 = 0 → WP G (rmD (d + 1) 0 0) mX6_rowOf (QC G sh ta K) 0 0 2 [(0, .ref b), (1, .int x1), (2, .int (x2 + 1))] [] (sh, ta, m14))))))) : WP G (rmD (d + 1) 0 0) mX6_rowOf (QC G sh ta K) 0 0 2 [(0, .ref b), (1, .int x1), (2, .int x2)] [] (sh, ta, m) := by
  refine WP.iload_n 2 dX6_rowOf_2 rfl rfl ?_
  refine WP.aload_n 0 dX6_rowOf_3 rfl rfl ?_
  obtain ⟨h1, h⟩ := h
  obtain ⟨i2, h3, h⟩ := h
  refine WP.getR 6 19 wf_X6_40 (by decide) (by decide) rfl h1 h3 dX6_rowOf_4 ?_
  refine WP.iload_n 1 dX6_rowOf_7 rfl rfl ?_
  obtain ⟨n5, h4, h⟩ := h
  obtain ⟨h6, h⟩ := h
  refine WP.iald h4 h6 dX6_rowOf_8 ?_
  refine WP.icmp_ge (tgt := 35) dX6_rowOf_9 (by decide) (fun c7 => ?_) (fun c7 => ?_)
  · have h := h.1 c7
    refine WP.iload_n 2 dX6_rowOf_35 rfl rfl ?_
    exact WP.iret dX6_rowOf_36 rfl (Nat.le_refl _) (Nat.le_refl _) ⟨_, rfl, h⟩
  · have h := h.2 c7
    refine WP.aload_n 0 dX6_rowOf_12 rfl rfl ?_
    obtain ⟨i8, h9, h⟩ := h
    refine WP.getR 6 20 wf_X6_43 (by decide) (by decide) rfl h1 h9 dX6_rowOf_13 ?_
    refine WP.bipush (v := 24) dX6_rowOf_16 rfl ?_
    refine WP.iload_n 1 dX6_rowOf_18 rfl rfl ?_
    refine WP.imul dX6_rowOf_19 ?_
    refine WP.iload_n 2 dX6_rowOf_20 rfl rfl ?_
    refine WP.iadd dX6_rowOf_21 ?_
    obtain ⟨n11, h10, h⟩ := h
    obtain ⟨h12, h⟩ := h
    refine WP.iald h10 h12 dX6_rowOf_22 ?_
    refine WP.callS (y := mX6_isOpen) (As := [.int (rd (m i8) ((24 * x1) + x2))]) (st := []) dX6_rowOf_23 wm_X6_142 mw_X6_isOpen rfl (Nat.le_of_ble_eq_true rfl) (rmok d) rfl h (fun v13 Sm14 h16 => ?_)
    obtain ⟨m14, rfl, r15, rfl, h⟩ := h16
    show WP G _ _ _ 0 0 26 [(0, .ref b), (1, .int x1), (2, .int x2)] [.int r15] (sh, ta, m14)
    refine WP.if_eq (tgt := 35) dX6_rowOf_26 (by decide) (fun c17 => ?_) (fun c17 => ?_)
    · have h := h.1 c17
      refine WP.iload_n 2 dX6_rowOf_35 rfl rfl ?_
      exact WP.iret dX6_rowOf_36 rfl (Nat.le_refl _) (Nat.le_refl _) ⟨_, rfl, h⟩
    · have h := h.2 c17
      refine WP.iinc (lv2 := [(2, .int (x2 + 1)), (0, .ref b), (1, .int x1)]) 2 1 dX6_rowOf_29 rfl rfl (by decide) rfl ?_
      refine WP.goto (tgt := 2) dX6_rowOf_32 (by decide) ?_
      exact WP.pick [1, 2, 0] rfl h
set_option maxHeartbeats 4000000 in
set_option maxRecDepth 20000 in
theorem rg_X6_pulls_0 (hG : fl G = false) (b : Nat) (x1 : Int32) (h : sh[b]? = some (.inl 6) ∧ Cal G mX6_lacks d [.ref b, .int x1] sh ta m (fun v1 m2 => ∃ r3, v1 = some (.int r3) ∧ ((r3 ≤ 0 → Cal G mX6_rowOf d [.ref b, .int x1] sh ta m2 (fun v7 m8 => ∃ r9, v7 = some (.int r9) ∧ WP G (rmD (d + 1) 0 0) mX6_pulls (QC G sh ta K) 0 0 25 [(0, .ref b), (1, .int x1), (3, .int r9), (4, .int 0)] [] (sh, ta, m8))) ∧ (¬ r3 ≤ 0 → Cal G mX6_error d [.ref b, .int r3] sh ta m2 (fun v11 m12 => ∃ r13, v11 = some (.int r13) ∧ K (some (.int r13)) m12))))) : WP G (rmD (d + 1) 0 0) mX6_pulls (QC G sh ta K) 0 0 0 [(0, .ref b), (1, .int x1)] [] (sh, ta, m) := by
  refine WP.aload_n 0 dX6_pulls_0 rfl rfl ?_
  refine WP.iload_n 1 dX6_pulls_1 rfl rfl ?_
  obtain ⟨h5, h⟩ := h
  refine WP.callV (y := mX6_lacks) (As := [.int x1]) (st := []) dX6_pulls_2 wm_X6_186 mw_X6_lacks rfl (Nat.le_of_ble_eq_true rfl) (rmok d) h5 (by decide) rfl h (fun v1 Sm2 h4 => ?_)
  obtain ⟨m2, rfl, r3, rfl, h⟩ := h4
  show WP G _ _ _ 0 0 5 [(0, .ref b), (1, .int x1)] [.int r3] (sh, ta, m2)
  refine WP.istore_n (lv2 := [(2, .int r3), (0, .ref b), (1, .int x1)]) dX6_pulls_5 rfl (by decide) rfl ?_
  refine WP.iload_n 0 dX6_pulls_6 rfl rfl ?_
  refine WP.if_le (tgt := 16) dX6_pulls_7 (by decide) (fun c6 => ?_) (fun c6 => ?_)
  · have h := h.1 c6
    refine WP.aload_n 1 dX6_pulls_16 rfl rfl ?_
    refine WP.iload_n 2 dX6_pulls_17 rfl rfl ?_
    refine WP.callV (y := mX6_rowOf) (As := [.int x1]) (st := []) dX6_pulls_18 wm_X6_189 mw_X6_rowOf rfl (Nat.le_of_ble_eq_true rfl) (rmok d) h5 (by decide) rfl h (fun v7 Sm8 h10 => ?_)
    obtain ⟨m8, rfl, r9, rfl, h⟩ := h10
    show WP G _ _ _ 0 0 21 [(2, .int r3), (0, .ref b), (1, .int x1)] [.int r9] (sh, ta, m8)
    refine WP.istore_n (lv2 := [(3, .int r9), (2, .int r3), (0, .ref b), (1, .int x1)]) dX6_pulls_21 rfl (by decide) rfl ?_
    refine WP.iconst (v := 0) dX6_pulls_22 rfl ?_
    refine WP.istore (lv2 := [(4, .int 0), (3, .int r9), (2, .int r3), (0, .ref b), (1, .int x1)]) dX6_pulls_23 (by decide) rfl ?_
    exact WP.pick [3, 4, 1, 0] rfl h
  · have h := h.2 c6
    refine WP.aload_n 1 dX6_pulls_10 rfl rfl ?_
    refine WP.iload_n 0 dX6_pulls_11 rfl rfl ?_
    refine WP.callV (y := mX6_error) (As := [.int r3]) (st := []) dX6_pulls_12 wm_X6_68 mw_X6_error rfl (Nat.le_of_ble_eq_true rfl) (rmok d) h5 (by decide) rfl h (fun v11 Sm12 h14 => ?_)
    obtain ⟨m12, rfl, r13, rfl, h⟩ := h14
    show WP G _ _ _ 0 0 15 [(2, .int r3), (0, .ref b), (1, .int x1)] [.int r13] (sh, ta, m12)
    exact WP.iret dX6_pulls_15 rfl (Nat.le_refl _) (Nat.le_refl _) ⟨_, rfl, h⟩
set_option maxHeartbeats 4000000 in
set_option maxRecDepth 20000 in
theorem rg_X6_pulls_25 (hG : fl G = false) (b : Nat) (x1 : Int32) (x3 : Int32) (x4 : Int32) (h : ((x3 ≤ x4 → K (some (.int x3)) m) ∧ (¬ x3 ≤ x4 → sh[b]? = some (.inl 6) ∧ ∃ i3, ta b 20 = some i3 ∧ ∃ n6, sh[i3]? = some (.inr (0, n6)) ∧ InB ((24 * x1) + x4) n6 ∧ Cal G mX6_pulls1 d [.ref b, .int (rd (m i3) ((24 * x1) + x4))] sh ta m (fun v8 m9 => ∃ r10, v8 = some (.int r10) ∧ WP G (rmD (d + 1) 0 0) mX6_pulls (QC G sh ta K) 0 0 25 [(0, .ref b), (1, .int x1), (3, .int x3), (4, .int (x4 + 1))] [] (sh, ta, m9))))) : WP G (rmD (d + 1) 0 0) mX6_pulls (QC G sh ta K) 0 0 25 [(0, .ref b), (1, .int x1), (3, .int x3), (4, .int x4)] [] (sh, ta, m) := by
  refine WP.iload 3 dX6_pulls_25 rfl ?_
  refine WP.iload_n 2 dX6_pulls_27 rfl rfl ?_
  refine WP.icmp_ge (tgt := 55) dX6_pulls_28 (by decide) (fun c1 => ?_) (fun c1 => ?_)
  · have h := h.1 c1
    refine WP.iload_n 2 dX6_pulls_55 rfl rfl ?_
    exact WP.iret dX6_pulls_56 rfl (Nat.le_refl _) (Nat.le_refl _) ⟨_, rfl, h⟩
  · have h := h.2 c1
    refine WP.aload_n 0 dX6_pulls_31 rfl rfl ?_
    refine WP.aload_n 0 dX6_pulls_32 rfl rfl ?_
    obtain ⟨h2, h⟩ := h
    obtain ⟨i3, h4, h⟩ := h
    refine WP.getR 6 20 wf_X6_43 (by decide) (by decide) rfl h2 h4 dX6_pulls_33 ?_
    refine WP.bipush (v := 24) dX6_pulls_36 rfl ?_
    refine WP.iload_n 1 dX6_pulls_38 rfl rfl ?_
    refine WP.imul dX6_pulls_39 ?_
    refine WP.iload 3 dX6_pulls_40 rfl ?_
    refine WP.iadd dX6_pulls_42 ?_
    obtain ⟨n6, h5, h⟩ := h
    obtain ⟨h7, h⟩ := h
    refine WP.iald h5 h7 dX6_pulls_43 ?_
    refine WP.callV (y := mX6_pulls1) (As := [.int (rd (m i3) ((24 * x1) + x4))]) (st := []) dX6_pulls_44 wm_X6_183 mw_X6_pulls1 rfl (Nat.le_of_ble_eq_true rfl) (rmok d) h2 (by decide) rfl h (fun v8 Sm9 h11 => ?_)
    obtain ⟨m9, rfl, r10, rfl, h⟩ := h11
    show WP G _ _ _ 0 0 47 [(0, .ref b), (1, .int x1), (3, .int x3), (4, .int x4)] [.int r10] (sh, ta, m9)
    refine WP.istore (lv2 := [(5, .int r10), (0, .ref b), (1, .int x1), (3, .int x3), (4, .int x4)]) dX6_pulls_47 (by decide) rfl ?_
    refine WP.iinc (lv2 := [(4, .int (x4 + 1)), (5, .int r10), (0, .ref b), (1, .int x1), (3, .int x3)]) 4 1 dX6_pulls_49 rfl rfl (by decide) rfl ?_
    refine WP.goto (tgt := 25) dX6_pulls_52 (by decide) ?_
    exact WP.pick [2, 3, 4, 0] rfl h
set_option maxHeartbeats 4000000 in
set_option maxRecDepth 20000 in
theorem rg_X6_draw_0 (hG : fl G = false) (b : Nat) (h : sh[b]? = some (.inl 6) ∧ ∃ i2, ta b 0 = some i2 ∧ ∃ n5, sh[i2]? = some (.inr (0, n5)) ∧ InB 7 n5 ∧ InB 7 n5 ∧ ∀ m8, m8 = upa m i2 (7 : Int32) (((rd (m i2) (7 : Int32)) * 1103515245) + 12345) → InB 7 n5 ∧ K (some (.int (((rd (m8 i2) (7 : Int32)).toUInt32 >>> ((8 : Int32).toUInt32 &&& Int32.toUInt32 31)).toInt32))) m8) : WP G (rmD (d + 1) 0 0) mX6_draw (QC G sh ta K) 0 0 0 [(0, .ref b)] [] (sh, ta, m) := by
  refine WP.aload_n 0 dX6_draw_0 rfl rfl ?_
  obtain ⟨h1, h⟩ := h
  obtain ⟨i2, h3, h⟩ := h
  refine WP.getR 6 0 wf_X6_7 (by decide) (by decide) rfl h1 h3 dX6_draw_1 ?_
  refine WP.bipush (v := 7) dX6_draw_4 rfl ?_
  refine WP.aload_n 0 dX6_draw_6 rfl rfl ?_
  refine WP.getR 6 0 wf_X6_7 (by decide) (by decide) rfl h1 h3 dX6_draw_7 ?_
  refine WP.bipush (v := 7) dX6_draw_10 rfl ?_
  obtain ⟨n5, h4, h⟩ := h
  obtain ⟨h6, h⟩ := h
  refine WP.iald h4 h6 dX6_draw_12 ?_
  refine WP.ldc wx_X6_192 dX6_draw_13 ?_
  refine WP.imul dX6_draw_15 ?_
  refine WP.sipush (v := 12345) dX6_draw_16 rfl ?_
  refine WP.iadd dX6_draw_19 ?_
  obtain ⟨h7, h⟩ := h
  have h := h _ rfl
  refine WP.iast h4 h7 dX6_draw_20 ?_
  generalize upa m i2 (7 : Int32) (((rd (m i2) (7 : Int32)) * 1103515245) + 12345) = m8 at h ⊢
  refine WP.aload_n 0 dX6_draw_21 rfl rfl ?_
  refine WP.getR 6 0 wf_X6_7 (by decide) (by decide) rfl h1 h3 dX6_draw_22 ?_
  refine WP.bipush (v := 7) dX6_draw_25 rfl ?_
  obtain ⟨h9, h⟩ := h
  refine WP.iald h4 h9 dX6_draw_27 ?_
  refine WP.bipush (v := 8) dX6_draw_28 rfl ?_
  refine WP.iushr dX6_draw_30 ?_
  exact WP.iret dX6_draw_31 rfl (Nat.le_refl _) (Nat.le_refl _) ⟨_, rfl, h⟩
set_option maxHeartbeats 4000000 in
set_option maxRecDepth 20000 in
theorem rg_X6_draws_0 (hG : fl G = false) (b : Nat) (x1 : Int32) (h : Cal G mX6_in d [.int x1, .int 1, .int 60] sh ta m (fun v1 m2 => ∃ r3, v1 = some (.int r3) ∧ ((¬ r3 = 0 → WP G (rmD (d + 1) 0 0) mX6_draws (QC G sh ta K) 0 0 20 [(0, .ref b), (1, .int x1), (2, .int 0), (3, .int 0)] [] (sh, ta, m2)) ∧ (r3 = 0 → sh[b]? = some (.inl 6) ∧ Cal G mX6_error d [.ref b, .int 1] sh ta m2 (fun v6 m7 => ∃ r8, v6 = some (.int r8) ∧ K (some (.int r8)) m7))))) : WP G (rmD (d + 1) 0 0) mX6_draws (QC G sh ta K) 0 0 0 [(0, .ref b), (1, .int x1)] [] (sh, ta, m) := by
  refine WP.iload_n 1 dX6_draws_0 rfl rfl ?_
  refine WP.iconst (v := 1) dX6_draws_1 rfl ?_
  refine WP.bipush (v := 60) dX6_draws_2 rfl ?_
  refine WP.callS (y := mX6_in) (As := [.int x1, .int 1, .int 60]) (st := []) dX6_draws_4 wm_X6_50 mw_X6_in rfl (Nat.le_of_ble_eq_true rfl) (rmok d) rfl h (fun v1 Sm2 h4 => ?_)
  obtain ⟨m2, rfl, r3, rfl, h⟩ := h4
  show WP G _ _ _ 0 0 7 [(0, .ref b), (1, .int x1)] [.int r3] (sh, ta, m2)
  refine WP.if_ne (tgt := 16) dX6_draws_7 (by decide) (fun c5 => ?_) (fun c5 => ?_)
  · have h := h.1 c5
    refine WP.iconst (v := 0) dX6_draws_16 rfl ?_
    refine WP.istore_n (lv2 := [(2, .int 0), (0, .ref b), (1, .int x1)]) dX6_draws_17 rfl (by decide) rfl ?_
    refine WP.iconst (v := 0) dX6_draws_18 rfl ?_
    refine WP.istore_n (lv2 := [(3, .int 0), (2, .int 0), (0, .ref b), (1, .int x1)]) dX6_draws_19 rfl (by decide) rfl ?_
    exact WP.pick [2, 3, 1, 0] rfl h
  · have h := h.2 c5
    refine WP.aload_n 0 dX6_draws_10 rfl rfl ?_
    refine WP.iconst (v := 1) dX6_draws_11 rfl ?_
    obtain ⟨h10, h⟩ := h
    refine WP.callV (y := mX6_error) (As := [.int 1]) (st := []) dX6_draws_12 wm_X6_68 mw_X6_error rfl (Nat.le_of_ble_eq_true rfl) (rmok d) h10 (by decide) rfl h (fun v6 Sm7 h9 => ?_)
    obtain ⟨m7, rfl, r8, rfl, h⟩ := h9
    show WP G _ _ _ 0 0 15 [(0, .ref b), (1, .int x1)] [.int r8] (sh, ta, m7)
    exact WP.iret dX6_draws_15 rfl (Nat.le_refl _) (Nat.le_refl _) ⟨_, rfl, h⟩
set_option maxHeartbeats 4000000 in
set_option maxRecDepth 20000 in
theorem rg_X6_draws_20 (hG : fl G = false) (b : Nat) (x1 : Int32) (x2 : Int32) (x3 : Int32) (h : ((x1 ≤ x3 → K (some (.int x2)) m) ∧ (¬ x1 ≤ x3 → sh[b]? = some (.inl 6) ∧ Cal G mX6_draw d [.ref b] sh ta m (fun v2 m3 => ∃ r4, v2 = some (.int r4) ∧ ¬ (15 : Int32) = 0 ∧ Cal G mX6_pulls1 d [.ref b, .int (1 + (r4 - r4 / 15 * 15))] sh ta m3 (fun v8 m9 => ∃ r10, v8 = some (.int r10) ∧ ((¬ r10 = ((-1) : Int32) → WP G (rmD (d + 1) 0 0) mX6_draws (QC G sh ta K) 0 0 20 [(0, .ref b), (1, .int x1), (2, .int (x2 + 1)), (3, .int (x3 + 1))] [] (sh, ta, m9)) ∧ (r10 = ((-1) : Int32) → WP G (rmD (d + 1) 0 0) mX6_draws (QC G sh ta K) 0 0 20 [(0, .ref b), (1, .int x1), (2, .int (x2 + 0)), (3, .int (x3 + 1))] [] (sh, ta, m9)))))))) : WP G (rmD (d + 1) 0 0) mX6_draws (QC G sh ta K) 0 0 20 [(0, .ref b), (1, .int x1), (2, .int x2), (3, .int x3)] [] (sh, ta, m) := by
  refine WP.iload_n 3 dX6_draws_20 rfl rfl ?_
  refine WP.iload_n 1 dX6_draws_21 rfl rfl ?_
  refine WP.icmp_ge (tgt := 56) dX6_draws_22 (by decide) (fun c1 => ?_) (fun c1 => ?_)
  · have h := h.1 c1
    refine WP.iload_n 2 dX6_draws_56 rfl rfl ?_
    exact WP.iret dX6_draws_57 rfl (Nat.le_refl _) (Nat.le_refl _) ⟨_, rfl, h⟩
  · have h := h.2 c1
    refine WP.iload_n 2 dX6_draws_25 rfl rfl ?_
    refine WP.aload_n 0 dX6_draws_26 rfl rfl ?_
    refine WP.iconst (v := 1) dX6_draws_27 rfl ?_
    refine WP.aload_n 0 dX6_draws_28 rfl rfl ?_
    obtain ⟨h6, h⟩ := h
    refine WP.callV (y := mX6_draw) (As := []) (st := [.int 1, .ref b, .int x2]) dX6_draws_29 wm_X6_193 mw_X6_draw rfl (Nat.le_of_ble_eq_true rfl) (rmok d) h6 (by decide) rfl h (fun v2 Sm3 h5 => ?_)
    obtain ⟨m3, rfl, r4, rfl, h⟩ := h5
    show WP G _ _ _ 0 0 32 [(0, .ref b), (1, .int x1), (2, .int x2), (3, .int x3)] [.int r4, .int 1, .ref b, .int x2] (sh, ta, m3)
    refine WP.bipush (v := 15) dX6_draws_32 rfl ?_
    obtain ⟨h7, h⟩ := h
    refine WP.irem dX6_draws_34 h7 ?_
    refine WP.iadd dX6_draws_35 ?_
    refine WP.callV (y := mX6_pulls1) (As := [.int (1 + (r4 - r4 / 15 * 15))]) (st := [.int x2]) dX6_draws_36 wm_X6_183 mw_X6_pulls1 rfl (Nat.le_of_ble_eq_true rfl) (rmok d) h6 (by decide) rfl h (fun v8 Sm9 h11 => ?_)
    obtain ⟨m9, rfl, r10, rfl, h⟩ := h11
    show WP G _ _ _ 0 0 39 [(0, .ref b), (1, .int x1), (2, .int x2), (3, .int x3)] [.int r10, .int x2] (sh, ta, m9)
    refine WP.iconst (v := (-1)) dX6_draws_39 rfl ?_
    refine WP.icmp_ne (tgt := 47) dX6_draws_40 (by decide) (fun c12 => ?_) (fun c12 => ?_)
    · have h := h.1 c12
      refine WP.iconst (v := 1) dX6_draws_47 rfl ?_
      refine WP.iadd dX6_draws_48 ?_
      refine WP.istore_n (lv2 := [(2, .int (x2 + 1)), (0, .ref b), (1, .int x1), (3, .int x3)]) dX6_draws_49 rfl (by decide) rfl ?_
      refine WP.iinc (lv2 := [(3, .int (x3 + 1)), (2, .int (x2 + 1)), (0, .ref b), (1, .int x1)]) 3 1 dX6_draws_50 rfl rfl (by decide) rfl ?_
      refine WP.goto (tgt := 20) dX6_draws_53 (by decide) ?_
      exact WP.pick [2, 3, 1, 0] rfl h
    · have h := h.2 c12
      refine WP.iconst (v := 0) dX6_draws_43 rfl ?_
      refine WP.goto (tgt := 48) dX6_draws_44 (by decide) ?_
      refine WP.iadd dX6_draws_48 ?_
      refine WP.istore_n (lv2 := [(2, .int (x2 + 0)), (0, .ref b), (1, .int x1), (3, .int x3)]) dX6_draws_49 rfl (by decide) rfl ?_
      refine WP.iinc (lv2 := [(3, .int (x3 + 1)), (2, .int (x2 + 0)), (0, .ref b), (1, .int x1)]) 3 1 dX6_draws_50 rfl rfl (by decide) rfl ?_
      refine WP.goto (tgt := 20) dX6_draws_53 (by decide) ?_
      exact WP.pick [2, 3, 1, 0] rfl h
set_option maxHeartbeats 4000000 in
set_option maxRecDepth 20000 in
theorem rg_X6_seed_0 (hG : fl G = false) (b : Nat) (x1 : Int32) (h : sh[b]? = some (.inl 6) ∧ Cal G mX6_change1 d [.ref b, .int 7, .int x1] sh ta m (fun v1 m2 => ∃ r3, v1 = some (.int r3) ∧ K (some (.int r3)) m2)) : WP G (rmD (d + 1) 0 0) mX6_seed (QC G sh ta K) 0 0 0 [(0, .ref b), (1, .int x1)] [] (sh, ta, m) := by
  refine WP.aload_n 0 dX6_seed_0 rfl rfl ?_
  refine WP.bipush (v := 7) dX6_seed_1 rfl ?_
  refine WP.iload_n 1 dX6_seed_3 rfl rfl ?_
  obtain ⟨h5, h⟩ := h
  refine WP.callV (y := mX6_change1) (As := [.int 7, .int x1]) (st := []) dX6_seed_4 wm_X6_161 mw_X6_change1 rfl (Nat.le_of_ble_eq_true rfl) (rmok d) h5 (by decide) rfl h (fun v1 Sm2 h4 => ?_)
  obtain ⟨m2, rfl, r3, rfl, h⟩ := h4
  show WP G _ _ _ 0 0 7 [(0, .ref b), (1, .int x1)] [.int r3] (sh, ta, m2)
  exact WP.iret dX6_seed_7 rfl (Nat.le_refl _) (Nat.le_refl _) ⟨_, rfl, h⟩
set_option maxHeartbeats 4000000 in
set_option maxRecDepth 20000 in
theorem rg_X6_wins_0 (hG : fl G = false) (b : Nat) (x1 : Int32) (x2 : Int32) (x3 : Int32) (h : ((¬ x2 = x3 → sh[b]? = some (.inl 6) ∧ Cal G mX6_layDown d [.ref b, .int x2] sh ta m (fun v2 m3 => v2 = none ∧ WP G (rmD (d + 1) 0 0) mX6_wins (QC G sh ta K) 0 0 29 [(0, .ref b), (1, .int x1), (2, .int x2), (3, .int x3), (4, .int 1)] [] (sh, ta, m3))) ∧ (x2 = x3 → sh[b]? = some (.inl 6) ∧ Cal G mX6_its d [.ref b, .int x1, .int 3] sh ta m (fun v7 m8 => ∃ r9, v7 = some (.int r9) ∧ ((¬ r9 = ((-1) : Int32) → K (some (.int 0)) m8) ∧ (r9 = ((-1) : Int32) → K (some (.int 1)) m8)))))) : WP G (rmD (d + 1) 0 0) mX6_wins (QC G sh ta K) 0 0 0 [(0, .ref b), (1, .int x1), (2, .int x2), (3, .int x3)] [] (sh, ta, m) := by
  refine WP.iload_n 2 dX6_wins_0 rfl rfl ?_
  refine WP.iload_n 3 dX6_wins_1 rfl rfl ?_
  refine WP.icmp_ne (tgt := 21) dX6_wins_2 (by decide) (fun c1 => ?_) (fun c1 => ?_)
  · have h := h.1 c1
    refine WP.aload_n 0 dX6_wins_21 rfl rfl ?_
    refine WP.iload_n 2 dX6_wins_22 rfl rfl ?_
    obtain ⟨h6, h⟩ := h
    refine WP.callV (y := mX6_layDown) (As := [.int x2]) (st := []) dX6_wins_23 wm_X6_196 mw_X6_layDown rfl (Nat.le_of_ble_eq_true rfl) (rmok d) h6 (by decide) rfl h (fun v2 Sm3 h5 => ?_)
    obtain ⟨m3, rfl, rfl, h⟩ := h5
    show WP G _ _ _ 0 0 26 [(0, .ref b), (1, .int x1), (2, .int x2), (3, .int x3)] [] (sh, ta, m3)
    refine WP.iconst (v := 1) dX6_wins_26 rfl ?_
    refine WP.istore (lv2 := [(4, .int 1), (0, .ref b), (1, .int x1), (2, .int x2), (3, .int x3)]) dX6_wins_27 (by decide) rfl ?_
    exact WP.pick [1, 2, 3, 4, 0] rfl h
  · have h := h.2 c1
    refine WP.aload_n 0 dX6_wins_5 rfl rfl ?_
    refine WP.iload_n 1 dX6_wins_6 rfl rfl ?_
    refine WP.iconst (v := 3) dX6_wins_7 rfl ?_
    obtain ⟨h11, h⟩ := h
    refine WP.callV (y := mX6_its) (As := [.int x1, .int 3]) (st := []) dX6_wins_8 wm_X6_62 mw_X6_its rfl (Nat.le_of_ble_eq_true rfl) (rmok d) h11 (by decide) rfl h (fun v7 Sm8 h10 => ?_)
    obtain ⟨m8, rfl, r9, rfl, h⟩ := h10
    show WP G _ _ _ 0 0 11 [(0, .ref b), (1, .int x1), (2, .int x2), (3, .int x3)] [.int r9] (sh, ta, m8)
    refine WP.iconst (v := (-1)) dX6_wins_11 rfl ?_
    refine WP.icmp_ne (tgt := 19) dX6_wins_12 (by decide) (fun c12 => ?_) (fun c12 => ?_)
    · have h := h.1 c12
      refine WP.iconst (v := 0) dX6_wins_19 rfl ?_
      exact WP.zret dX6_wins_20 rfl (Nat.le_refl _) (Nat.le_refl _) rfl ⟨_, rfl, h⟩
    · have h := h.2 c12
      refine WP.iconst (v := 1) dX6_wins_15 rfl ?_
      refine WP.goto (tgt := 20) dX6_wins_16 (by decide) ?_
      exact WP.zret dX6_wins_20 rfl (Nat.le_refl _) (Nat.le_refl _) rfl ⟨_, rfl, h⟩
set_option maxHeartbeats 4000000 in
set_option maxRecDepth 20000 in
theorem rg_X6_wins_29 (hG : fl G = false) (b : Nat) (x1 : Int32) (x2 : Int32) (x3 : Int32) (x4 : Int32) (h : (((16 : Int32) ≤ x4 → K (some (.int 0)) m) ∧ (¬ (16 : Int32) ≤ x4 → sh[b]? = some (.inl 6) ∧ ∃ i3, ta b 12 = some i3 ∧ ∃ n6, sh[i3]? = some (.inr (0, n6)) ∧ InB x2 n6 ∧ ∀ m8, m8 = upa m i3 x2 x4 → Cal G mX6_pulls1 d [.ref b, .int x4] sh ta m8 (fun v9 m10 => ∃ r11, v9 = some (.int r11) ∧ Cal G mX6_wins d [.ref b, .int x1, .int (x2 + 1), .int x3] sh ta m10 (fun v13 m14 => ∃ r15, v13 = some (.int r15) ∧ Cal G mX6_layBack d [.ref b, .int x2] sh ta m14 (fun v17 m18 => v17 = none ∧ ((r15 = 0 → WP G (rmD (d + 1) 0 0) mX6_wins (QC G sh ta K) 0 0 29 [(0, .ref b), (1, .int x1), (2, .int x2), (3, .int x3), (4, .int (x4 + 1))] [] (sh, ta, m18)) ∧ (¬ r15 = 0 → K (some (.int 1)) m18)))))))) : WP G (rmD (d + 1) 0 0) mX6_wins (QC G sh ta K) 0 0 29 [(0, .ref b), (1, .int x1), (2, .int x2), (3, .int x3), (4, .int x4)] [] (sh, ta, m) := by
  refine WP.iload 4 dX6_wins_29 rfl ?_
  refine WP.bipush (v := 16) dX6_wins_31 rfl ?_
  refine WP.icmp_ge (tgt := 81) dX6_wins_33 (by decide) (fun c1 => ?_) (fun c1 => ?_)
  · have h := h.1 c1
    refine WP.iconst (v := 0) dX6_wins_81 rfl ?_
    exact WP.zret dX6_wins_82 rfl (Nat.le_refl _) (Nat.le_refl _) rfl ⟨_, rfl, h⟩
  · have h := h.2 c1
    refine WP.aload_n 0 dX6_wins_36 rfl rfl ?_
    obtain ⟨h2, h⟩ := h
    obtain ⟨i3, h4, h⟩ := h
    refine WP.getR 6 12 wf_X6_31 (by decide) (by decide) rfl h2 h4 dX6_wins_37 ?_
    refine WP.iload_n 2 dX6_wins_40 rfl rfl ?_
    refine WP.iload 4 dX6_wins_41 rfl ?_
    obtain ⟨n6, h5, h⟩ := h
    obtain ⟨h7, h⟩ := h
    have h := h _ rfl
    refine WP.iast h5 h7 dX6_wins_43 ?_
    generalize upa m i3 x2 x4 = m8 at h ⊢
    refine WP.aload_n 0 dX6_wins_44 rfl rfl ?_
    refine WP.iload 4 dX6_wins_45 rfl ?_
    refine WP.callV (y := mX6_pulls1) (As := [.int x4]) (st := []) dX6_wins_47 wm_X6_183 mw_X6_pulls1 rfl (Nat.le_of_ble_eq_true rfl) (rmok d) h2 (by decide) rfl h (fun v9 Sm10 h12 => ?_)
    obtain ⟨m10, rfl, r11, rfl, h⟩ := h12
    show WP G _ _ _ 0 0 50 [(0, .ref b), (1, .int x1), (2, .int x2), (3, .int x3), (4, .int x4)] [.int r11] (sh, ta, m10)
    refine WP.istore (lv2 := [(5, .int r11), (0, .ref b), (1, .int x1), (2, .int x2), (3, .int x3), (4, .int x4)]) dX6_wins_50 (by decide) rfl ?_
    refine WP.aload_n 1 dX6_wins_52 rfl rfl ?_
    refine WP.iload_n 2 dX6_wins_53 rfl rfl ?_
    refine WP.iload_n 3 dX6_wins_54 rfl rfl ?_
    refine WP.iconst (v := 1) dX6_wins_55 rfl ?_
    refine WP.iadd dX6_wins_56 ?_
    refine WP.iload_n 4 dX6_wins_57 rfl rfl ?_
    refine WP.callV (y := mX6_wins) (As := [.int x1, .int (x2 + 1), .int x3]) (st := []) dX6_wins_58 wm_X6_200 mw_X6_wins rfl (Nat.le_of_ble_eq_true rfl) (rmok d) h2 (by decide) rfl h (fun v13 Sm14 h16 => ?_)
    obtain ⟨m14, rfl, r15, rfl, h⟩ := h16
    show WP G _ _ _ 0 0 61 [(5, .int r11), (0, .ref b), (1, .int x1), (2, .int x2), (3, .int x3), (4, .int x4)] [.int r15] (sh, ta, m14)
    refine WP.istore (lv2 := [(6, .int r15), (5, .int r11), (0, .ref b), (1, .int x1), (2, .int x2), (3, .int x3), (4, .int x4)]) dX6_wins_61 (by decide) rfl ?_
    refine WP.aload_n 2 dX6_wins_63 rfl rfl ?_
    refine WP.iload_n 4 dX6_wins_64 rfl rfl ?_
    refine WP.callV (y := mX6_layBack) (As := [.int x2]) (st := []) dX6_wins_65 wm_X6_203 mw_X6_layBack rfl (Nat.le_of_ble_eq_true rfl) (rmok d) h2 (by decide) rfl h (fun v17 Sm18 h20 => ?_)
    obtain ⟨m18, rfl, rfl, h⟩ := h20
    show WP G _ _ _ 0 0 68 [(6, .int r15), (5, .int r11), (0, .ref b), (1, .int x1), (2, .int x2), (3, .int x3), (4, .int x4)] [] (sh, ta, m18)
    refine WP.iload 0 dX6_wins_68 rfl ?_
    refine WP.if_eq (tgt := 75) dX6_wins_70 (by decide) (fun c21 => ?_) (fun c21 => ?_)
    · have h := h.1 c21
      refine WP.iinc (lv2 := [(4, .int (x4 + 1)), (6, .int r15), (5, .int r11), (0, .ref b), (1, .int x1), (2, .int x2), (3, .int x3)]) 6 1 dX6_wins_75 rfl rfl (by decide) rfl ?_
      refine WP.goto (tgt := 29) dX6_wins_78 (by decide) ?_
      exact WP.pick [3, 4, 5, 6, 0] rfl h
    · have h := h.2 c21
      refine WP.iconst (v := 1) dX6_wins_73 rfl ?_
      exact WP.zret dX6_wins_74 rfl (Nat.le_refl _) (Nat.le_refl _) rfl ⟨_, rfl, h⟩
set_option maxHeartbeats 4000000 in
set_option maxRecDepth 20000 in
theorem rg_X6_fewest_0 (hG : fl G = false) (b : Nat) (x1 : Int32) (x2 : Int32) (x3 : Int32) (h : sh[b]? = some (.inl 6) ∧ Cal G mX6_isThing d [.ref b, .int x1] sh ta m (fun v1 m2 => ∃ r3, v1 = some (.int r3) ∧ ((r3 = 0 → Cal G mX6_error d [.ref b, .int 1] sh ta m2 (fun v7 m8 => ∃ r9, v7 = some (.int r9) ∧ K (some (.int r9)) m8)) ∧ (¬ r3 = 0 → Cal G mX6_in d [.int x2, .int 1, .int 3] sh ta m2 (fun v11 m12 => ∃ r13, v11 = some (.int r13) ∧ ((r13 = 0 → Cal G mX6_error d [.ref b, .int 1] sh ta m12 (fun v16 m17 => ∃ r18, v16 = some (.int r18) ∧ K (some (.int r18)) m17)) ∧ (¬ r13 = 0 → Cal G mX6_in d [.int x3, .int ((-1)), .int 2] sh ta m12 (fun v20 m21 => ∃ r22, v20 = some (.int r22) ∧ ((¬ r22 = 0 → Cal G mX6_its d [.ref b, .int x1, .int 3] sh ta m21 (fun v25 m26 => ∃ r27, v25 = some (.int r27) ∧ ((0 ≤ r27 → WP G (rmD (d + 1) 0 0) mX6_fewest (QC G sh ta K) 0 0 50 [(0, .ref b), (1, .int x1), (2, .int x2), (3, .int x3), (4, .int 1)] [] (sh, ta, m26)) ∧ (¬ 0 ≤ r27 → Cal G mX6_error d [.ref b, .int 3] sh ta m26 (fun v30 m31 => ∃ r32, v30 = some (.int r32) ∧ K (some (.int r32)) m31))))) ∧ (r22 = 0 → Cal G mX6_error d [.ref b, .int 1] sh ta m21 (fun v34 m35 => ∃ r36, v34 = some (.int r36) ∧ K (some (.int r36)) m35))))))))))) : WP G (rmD (d + 1) 0 0) mX6_fewest (QC G sh ta K) 0 0 0 [(0, .ref b), (1, .int x1), (2, .int x2), (3, .int x3)] [] (sh, ta, m) := by
  refine WP.aload_n 0 dX6_fewest_0 rfl rfl ?_
  refine WP.iload_n 1 dX6_fewest_1 rfl rfl ?_
  obtain ⟨h5, h⟩ := h
  refine WP.callV (y := mX6_isThing) (As := [.int x1]) (st := []) dX6_fewest_2 wm_X6_148 mw_X6_isThing rfl (Nat.le_of_ble_eq_true rfl) (rmok d) h5 (by decide) rfl h (fun v1 Sm2 h4 => ?_)
  obtain ⟨m2, rfl, r3, rfl, h⟩ := h4
  show WP G _ _ _ 0 0 5 [(0, .ref b), (1, .int x1), (2, .int x2), (3, .int x3)] [.int r3] (sh, ta, m2)
  refine WP.if_eq (tgt := 26) dX6_fewest_5 (by decide) (fun c6 => ?_) (fun c6 => ?_)
  · have h := h.1 c6
    refine WP.aload_n 0 dX6_fewest_26 rfl rfl ?_
    refine WP.iconst (v := 1) dX6_fewest_27 rfl ?_
    refine WP.callV (y := mX6_error) (As := [.int 1]) (st := []) dX6_fewest_28 wm_X6_68 mw_X6_error rfl (Nat.le_of_ble_eq_true rfl) (rmok d) h5 (by decide) rfl h (fun v7 Sm8 h10 => ?_)
    obtain ⟨m8, rfl, r9, rfl, h⟩ := h10
    show WP G _ _ _ 0 0 31 [(0, .ref b), (1, .int x1), (2, .int x2), (3, .int x3)] [.int r9] (sh, ta, m8)
    exact WP.iret dX6_fewest_31 rfl (Nat.le_refl _) (Nat.le_refl _) ⟨_, rfl, h⟩
  · have h := h.2 c6
    refine WP.iload_n 2 dX6_fewest_8 rfl rfl ?_
    refine WP.iconst (v := 1) dX6_fewest_9 rfl ?_
    refine WP.iconst (v := 3) dX6_fewest_10 rfl ?_
    refine WP.callS (y := mX6_in) (As := [.int x2, .int 1, .int 3]) (st := []) dX6_fewest_11 wm_X6_50 mw_X6_in rfl (Nat.le_of_ble_eq_true rfl) (rmok d) rfl h (fun v11 Sm12 h14 => ?_)
    obtain ⟨m12, rfl, r13, rfl, h⟩ := h14
    show WP G _ _ _ 0 0 14 [(0, .ref b), (1, .int x1), (2, .int x2), (3, .int x3)] [.int r13] (sh, ta, m12)
    refine WP.if_eq (tgt := 26) dX6_fewest_14 (by decide) (fun c15 => ?_) (fun c15 => ?_)
    · have h := h.1 c15
      refine WP.aload_n 0 dX6_fewest_26 rfl rfl ?_
      refine WP.iconst (v := 1) dX6_fewest_27 rfl ?_
      refine WP.callV (y := mX6_error) (As := [.int 1]) (st := []) dX6_fewest_28 wm_X6_68 mw_X6_error rfl (Nat.le_of_ble_eq_true rfl) (rmok d) h5 (by decide) rfl h (fun v16 Sm17 h19 => ?_)
      obtain ⟨m17, rfl, r18, rfl, h⟩ := h19
      show WP G _ _ _ 0 0 31 [(0, .ref b), (1, .int x1), (2, .int x2), (3, .int x3)] [.int r18] (sh, ta, m17)
      exact WP.iret dX6_fewest_31 rfl (Nat.le_refl _) (Nat.le_refl _) ⟨_, rfl, h⟩
    · have h := h.2 c15
      refine WP.iload_n 3 dX6_fewest_17 rfl rfl ?_
      refine WP.iconst (v := (-1)) dX6_fewest_18 rfl ?_
      refine WP.iconst (v := 2) dX6_fewest_19 rfl ?_
      refine WP.callS (y := mX6_in) (As := [.int x3, .int ((-1)), .int 2]) (st := []) dX6_fewest_20 wm_X6_50 mw_X6_in rfl (Nat.le_of_ble_eq_true rfl) (rmok d) rfl h (fun v20 Sm21 h23 => ?_)
      obtain ⟨m21, rfl, r22, rfl, h⟩ := h23
      show WP G _ _ _ 0 0 23 [(0, .ref b), (1, .int x1), (2, .int x2), (3, .int x3)] [.int r22] (sh, ta, m21)
      refine WP.if_ne (tgt := 32) dX6_fewest_23 (by decide) (fun c24 => ?_) (fun c24 => ?_)
      · have h := h.1 c24
        refine WP.aload_n 0 dX6_fewest_32 rfl rfl ?_
        refine WP.iload_n 1 dX6_fewest_33 rfl rfl ?_
        refine WP.iconst (v := 3) dX6_fewest_34 rfl ?_
        refine WP.callV (y := mX6_its) (As := [.int x1, .int 3]) (st := []) dX6_fewest_35 wm_X6_62 mw_X6_its rfl (Nat.le_of_ble_eq_true rfl) (rmok d) h5 (by decide) rfl h (fun v25 Sm26 h28 => ?_)
        obtain ⟨m26, rfl, r27, rfl, h⟩ := h28
        show WP G _ _ _ 0 0 38 [(0, .ref b), (1, .int x1), (2, .int x2), (3, .int x3)] [.int r27] (sh, ta, m26)
        refine WP.if_ge (tgt := 47) dX6_fewest_38 (by decide) (fun c29 => ?_) (fun c29 => ?_)
        · have h := h.1 c29
          refine WP.iconst (v := 1) dX6_fewest_47 rfl ?_
          refine WP.istore (lv2 := [(4, .int 1), (0, .ref b), (1, .int x1), (2, .int x2), (3, .int x3)]) dX6_fewest_48 (by decide) rfl ?_
          exact WP.pick [1, 2, 3, 4, 0] rfl h
        · have h := h.2 c29
          refine WP.aload_n 0 dX6_fewest_41 rfl rfl ?_
          refine WP.iconst (v := 3) dX6_fewest_42 rfl ?_
          refine WP.callV (y := mX6_error) (As := [.int 3]) (st := []) dX6_fewest_43 wm_X6_68 mw_X6_error rfl (Nat.le_of_ble_eq_true rfl) (rmok d) h5 (by decide) rfl h (fun v30 Sm31 h33 => ?_)
          obtain ⟨m31, rfl, r32, rfl, h⟩ := h33
          show WP G _ _ _ 0 0 46 [(0, .ref b), (1, .int x1), (2, .int x2), (3, .int x3)] [.int r32] (sh, ta, m31)
          exact WP.iret dX6_fewest_46 rfl (Nat.le_refl _) (Nat.le_refl _) ⟨_, rfl, h⟩
      · have h := h.2 c24
        refine WP.aload_n 0 dX6_fewest_26 rfl rfl ?_
        refine WP.iconst (v := 1) dX6_fewest_27 rfl ?_
        refine WP.callV (y := mX6_error) (As := [.int 1]) (st := []) dX6_fewest_28 wm_X6_68 mw_X6_error rfl (Nat.le_of_ble_eq_true rfl) (rmok d) h5 (by decide) rfl h (fun v34 Sm35 h37 => ?_)
        obtain ⟨m35, rfl, r36, rfl, h⟩ := h37
        show WP G _ _ _ 0 0 31 [(0, .ref b), (1, .int x1), (2, .int x2), (3, .int x3)] [.int r36] (sh, ta, m35)
        exact WP.iret dX6_fewest_31 rfl (Nat.le_refl _) (Nat.le_refl _) ⟨_, rfl, h⟩
set_option maxHeartbeats 4000000 in
set_option maxRecDepth 20000 in
theorem rg_X6_fewest_50 (hG : fl G = false) (b : Nat) (x1 : Int32) (x2 : Int32) (x3 : Int32) (x4 : Int32) (h : ((x2 < x4 → ((x2 < x4 → sh[b]? = some (.inl 6) ∧ Cal G mX6_error d [.ref b, .int 2] sh ta m (fun v3 m4 => ∃ r5, v3 = some (.int r5) ∧ K (some (.int r5)) m4)) ∧ (¬ x2 < x4 → ((x3 < x4 → ((¬ x3 = ((-1) : Int32) → sh[b]? = some (.inl 6) ∧ ∃ i11, ta b 12 = some i11 ∧ ∃ n14, sh[i11]? = some (.inr (0, n14)) ∧ InB x3 n14 ∧ K (some (.int (rd (m i11) x3))) m) ∧ (x3 = ((-1) : Int32) → K (some (.int x4)) m))) ∧ (¬ x3 < x4 → sh[b]? = some (.inl 6) ∧ Cal G mX6_error d [.ref b, .int 2] sh ta m (fun v16 m17 => ∃ r18, v16 = some (.int r18) ∧ K (some (.int r18)) m17)))))) ∧ (¬ x2 < x4 → sh[b]? = some (.inl 6) ∧ Cal G mX6_wins d [.ref b, .int x1, .int 0, .int x4] sh ta m (fun v21 m22 => ∃ r23, v21 = some (.int r23) ∧ ((¬ r23 = 0 → ((x2 < x4 → Cal G mX6_error d [.ref b, .int 2] sh ta m22 (fun v28 m29 => ∃ r30, v28 = some (.int r30) ∧ K (some (.int r30)) m29)) ∧ (¬ x2 < x4 → ((x3 < x4 → ((¬ x3 = ((-1) : Int32) → ∃ i34, ta b 12 = some i34 ∧ ∃ n37, sh[i34]? = some (.inr (0, n37)) ∧ InB x3 n37 ∧ K (some (.int (rd (m22 i34) x3))) m22) ∧ (x3 = ((-1) : Int32) → K (some (.int x4)) m22))) ∧ (¬ x3 < x4 → Cal G mX6_error d [.ref b, .int 2] sh ta m22 (fun v39 m40 => ∃ r41, v39 = some (.int r41) ∧ K (some (.int r41)) m40)))))) ∧ (r23 = 0 → WP G (rmD (d + 1) 0 0) mX6_fewest (QC G sh ta K) 0 0 50 [(0, .ref b), (1, .int x1), (2, .int x2), (3, .int x3), (4, .int (x4 + 1))] [] (sh, ta, m22))))))) : WP G (rmD (d + 1) 0 0) mX6_fewest (QC G sh ta K) 0 0 50 [(0, .ref b), (1, .int x1), (2, .int x2), (3, .int x3), (4, .int x4)] [] (sh, ta, m) := by
  refine WP.iload 4 dX6_fewest_50 rfl ?_
  refine WP.iload_n 2 dX6_fewest_52 rfl rfl ?_
  refine WP.icmp_gt (tgt := 73) dX6_fewest_53 (by decide) (fun c1 => ?_) (fun c1 => ?_)
  · have h := h.1 c1
    refine WP.iload 4 dX6_fewest_73 rfl ?_
    refine WP.iload_n 2 dX6_fewest_75 rfl rfl ?_
    refine WP.icmp_gt (tgt := 85) dX6_fewest_76 (by decide) (fun c2 => ?_) (fun c2 => ?_)
    · have h := h.1 c2
      refine WP.aload_n 0 dX6_fewest_85 rfl rfl ?_
      refine WP.iconst (v := 2) dX6_fewest_86 rfl ?_
      obtain ⟨h7, h⟩ := h
      refine WP.callV (y := mX6_error) (As := [.int 2]) (st := []) dX6_fewest_87 wm_X6_68 mw_X6_error rfl (Nat.le_of_ble_eq_true rfl) (rmok d) h7 (by decide) rfl h (fun v3 Sm4 h6 => ?_)
      obtain ⟨m4, rfl, r5, rfl, h⟩ := h6
      show WP G _ _ _ 0 0 90 [(0, .ref b), (1, .int x1), (2, .int x2), (3, .int x3), (4, .int x4)] [.int r5] (sh, ta, m4)
      exact WP.iret dX6_fewest_90 rfl (Nat.le_refl _) (Nat.le_refl _) ⟨_, rfl, h⟩
    · have h := h.2 c2
      refine WP.iload_n 3 dX6_fewest_79 rfl rfl ?_
      refine WP.iload 4 dX6_fewest_80 rfl ?_
      refine WP.icmp_lt (tgt := 91) dX6_fewest_82 (by decide) (fun c8 => ?_) (fun c8 => ?_)
      · have h := h.1 c8
        refine WP.iload_n 3 dX6_fewest_91 rfl rfl ?_
        refine WP.iconst (v := (-1)) dX6_fewest_92 rfl ?_
        refine WP.icmp_ne (tgt := 101) dX6_fewest_93 (by decide) (fun c9 => ?_) (fun c9 => ?_)
        · have h := h.1 c9
          refine WP.aload_n 0 dX6_fewest_101 rfl rfl ?_
          obtain ⟨h10, h⟩ := h
          obtain ⟨i11, h12, h⟩ := h
          refine WP.getR 6 12 wf_X6_31 (by decide) (by decide) rfl h10 h12 dX6_fewest_102 ?_
          refine WP.iload_n 3 dX6_fewest_105 rfl rfl ?_
          obtain ⟨n14, h13, h⟩ := h
          obtain ⟨h15, h⟩ := h
          refine WP.iald h13 h15 dX6_fewest_106 ?_
          exact WP.iret dX6_fewest_107 rfl (Nat.le_refl _) (Nat.le_refl _) ⟨_, rfl, h⟩
        · have h := h.2 c9
          refine WP.iload 4 dX6_fewest_96 rfl ?_
          refine WP.goto (tgt := 107) dX6_fewest_98 (by decide) ?_
          exact WP.iret dX6_fewest_107 rfl (Nat.le_refl _) (Nat.le_refl _) ⟨_, rfl, h⟩
      · have h := h.2 c8
        refine WP.aload_n 0 dX6_fewest_85 rfl rfl ?_
        refine WP.iconst (v := 2) dX6_fewest_86 rfl ?_
        obtain ⟨h20, h⟩ := h
        refine WP.callV (y := mX6_error) (As := [.int 2]) (st := []) dX6_fewest_87 wm_X6_68 mw_X6_error rfl (Nat.le_of_ble_eq_true rfl) (rmok d) h20 (by decide) rfl h (fun v16 Sm17 h19 => ?_)
        obtain ⟨m17, rfl, r18, rfl, h⟩ := h19
        show WP G _ _ _ 0 0 90 [(0, .ref b), (1, .int x1), (2, .int x2), (3, .int x3), (4, .int x4)] [.int r18] (sh, ta, m17)
        exact WP.iret dX6_fewest_90 rfl (Nat.le_refl _) (Nat.le_refl _) ⟨_, rfl, h⟩
  · have h := h.2 c1
    refine WP.aload_n 0 dX6_fewest_56 rfl rfl ?_
    refine WP.iload_n 1 dX6_fewest_57 rfl rfl ?_
    refine WP.iconst (v := 0) dX6_fewest_58 rfl ?_
    refine WP.iload 4 dX6_fewest_59 rfl ?_
    obtain ⟨h25, h⟩ := h
    refine WP.callV (y := mX6_wins) (As := [.int x1, .int 0, .int x4]) (st := []) dX6_fewest_61 wm_X6_200 mw_X6_wins rfl (Nat.le_of_ble_eq_true rfl) (rmok d) h25 (by decide) rfl h (fun v21 Sm22 h24 => ?_)
    obtain ⟨m22, rfl, r23, rfl, h⟩ := h24
    show WP G _ _ _ 0 0 64 [(0, .ref b), (1, .int x1), (2, .int x2), (3, .int x3), (4, .int x4)] [.int r23] (sh, ta, m22)
    refine WP.if_ne (tgt := 73) dX6_fewest_64 (by decide) (fun c26 => ?_) (fun c26 => ?_)
    · have h := h.1 c26
      refine WP.iload 4 dX6_fewest_73 rfl ?_
      refine WP.iload_n 2 dX6_fewest_75 rfl rfl ?_
      refine WP.icmp_gt (tgt := 85) dX6_fewest_76 (by decide) (fun c27 => ?_) (fun c27 => ?_)
      · have h := h.1 c27
        refine WP.aload_n 0 dX6_fewest_85 rfl rfl ?_
        refine WP.iconst (v := 2) dX6_fewest_86 rfl ?_
        refine WP.callV (y := mX6_error) (As := [.int 2]) (st := []) dX6_fewest_87 wm_X6_68 mw_X6_error rfl (Nat.le_of_ble_eq_true rfl) (rmok d) h25 (by decide) rfl h (fun v28 Sm29 h31 => ?_)
        obtain ⟨m29, rfl, r30, rfl, h⟩ := h31
        show WP G _ _ _ 0 0 90 [(0, .ref b), (1, .int x1), (2, .int x2), (3, .int x3), (4, .int x4)] [.int r30] (sh, ta, m29)
        exact WP.iret dX6_fewest_90 rfl (Nat.le_refl _) (Nat.le_refl _) ⟨_, rfl, h⟩
      · have h := h.2 c27
        refine WP.iload_n 3 dX6_fewest_79 rfl rfl ?_
        refine WP.iload 4 dX6_fewest_80 rfl ?_
        refine WP.icmp_lt (tgt := 91) dX6_fewest_82 (by decide) (fun c32 => ?_) (fun c32 => ?_)
        · have h := h.1 c32
          refine WP.iload_n 3 dX6_fewest_91 rfl rfl ?_
          refine WP.iconst (v := (-1)) dX6_fewest_92 rfl ?_
          refine WP.icmp_ne (tgt := 101) dX6_fewest_93 (by decide) (fun c33 => ?_) (fun c33 => ?_)
          · have h := h.1 c33
            refine WP.aload_n 0 dX6_fewest_101 rfl rfl ?_
            obtain ⟨i34, h35, h⟩ := h
            refine WP.getR 6 12 wf_X6_31 (by decide) (by decide) rfl h25 h35 dX6_fewest_102 ?_
            refine WP.iload_n 3 dX6_fewest_105 rfl rfl ?_
            obtain ⟨n37, h36, h⟩ := h
            obtain ⟨h38, h⟩ := h
            refine WP.iald h36 h38 dX6_fewest_106 ?_
            exact WP.iret dX6_fewest_107 rfl (Nat.le_refl _) (Nat.le_refl _) ⟨_, rfl, h⟩
          · have h := h.2 c33
            refine WP.iload 4 dX6_fewest_96 rfl ?_
            refine WP.goto (tgt := 107) dX6_fewest_98 (by decide) ?_
            exact WP.iret dX6_fewest_107 rfl (Nat.le_refl _) (Nat.le_refl _) ⟨_, rfl, h⟩
        · have h := h.2 c32
          refine WP.aload_n 0 dX6_fewest_85 rfl rfl ?_
          refine WP.iconst (v := 2) dX6_fewest_86 rfl ?_
          refine WP.callV (y := mX6_error) (As := [.int 2]) (st := []) dX6_fewest_87 wm_X6_68 mw_X6_error rfl (Nat.le_of_ble_eq_true rfl) (rmok d) h25 (by decide) rfl h (fun v39 Sm40 h42 => ?_)
          obtain ⟨m40, rfl, r41, rfl, h⟩ := h42
          show WP G _ _ _ 0 0 90 [(0, .ref b), (1, .int x1), (2, .int x2), (3, .int x3), (4, .int x4)] [.int r41] (sh, ta, m40)
          exact WP.iret dX6_fewest_90 rfl (Nat.le_refl _) (Nat.le_refl _) ⟨_, rfl, h⟩
    · have h := h.2 c26
      refine WP.iinc (lv2 := [(4, .int (x4 + 1)), (0, .ref b), (1, .int x1), (2, .int x2), (3, .int x3)]) 4 1 dX6_fewest_67 rfl rfl (by decide) rfl ?_
      refine WP.goto (tgt := 50) dX6_fewest_70 (by decide) ?_
      exact WP.pick [1, 2, 3, 4, 0] rfl h
set_option maxHeartbeats 4000000 in
set_option maxRecDepth 20000 in
theorem rg_X6_value_0 (hG : fl G = false) (b : Nat) (x1 : Int32) (x2 : Int32) (h : ((¬ x1 = x2 → sh[b]? = some (.inl 6) ∧ Cal G mX6_layDown d [.ref b, .int x1] sh ta m (fun v2 m3 => v2 = none ∧ WP G (rmD (d + 1) 0 0) mX6_value (QC G sh ta K) 0 0 20 [(0, .ref b), (1, .int x1), (2, .int x2), (3, .int ((-1))), (4, .int 0), (5, .int 1)] [] (sh, ta, m3))) ∧ (x1 = x2 → K (some (.int 0)) m))) : WP G (rmD (d + 1) 0 0) mX6_value (QC G sh ta K) 0 0 0 [(0, .ref b), (1, .int x1), (2, .int x2)] [] (sh, ta, m) := by
  refine WP.iload_n 1 dX6_value_0 rfl rfl ?_
  refine WP.iload_n 2 dX6_value_1 rfl rfl ?_
  refine WP.icmp_ne (tgt := 7) dX6_value_2 (by decide) (fun c1 => ?_) (fun c1 => ?_)
  · have h := h.1 c1
    refine WP.iconst (v := (-1)) dX6_value_7 rfl ?_
    refine WP.istore_n (lv2 := [(3, .int ((-1))), (0, .ref b), (1, .int x1), (2, .int x2)]) dX6_value_8 rfl (by decide) rfl ?_
    refine WP.iconst (v := 0) dX6_value_9 rfl ?_
    refine WP.istore (lv2 := [(4, .int 0), (3, .int ((-1))), (0, .ref b), (1, .int x1), (2, .int x2)]) dX6_value_10 (by decide) rfl ?_
    refine WP.aload_n 2 dX6_value_12 rfl rfl ?_
    refine WP.iload_n 3 dX6_value_13 rfl rfl ?_
    obtain ⟨h6, h⟩ := h
    refine WP.callV (y := mX6_layDown) (As := [.int x1]) (st := []) dX6_value_14 wm_X6_196 mw_X6_layDown rfl (Nat.le_of_ble_eq_true rfl) (rmok d) h6 (by decide) rfl h (fun v2 Sm3 h5 => ?_)
    obtain ⟨m3, rfl, rfl, h⟩ := h5
    show WP G _ _ _ 0 0 17 [(4, .int 0), (3, .int ((-1))), (0, .ref b), (1, .int x1), (2, .int x2)] [] (sh, ta, m3)
    refine WP.iconst (v := 1) dX6_value_17 rfl ?_
    refine WP.istore (lv2 := [(5, .int 1), (4, .int 0), (3, .int ((-1))), (0, .ref b), (1, .int x1), (2, .int x2)]) dX6_value_18 (by decide) rfl ?_
    exact WP.pick [3, 4, 5, 2, 1, 0] rfl h
  · have h := h.2 c1
    refine WP.iconst (v := 0) dX6_value_5 rfl ?_
    exact WP.iret dX6_value_6 rfl (Nat.le_refl _) (Nat.le_refl _) ⟨_, rfl, h⟩
set_option maxHeartbeats 4000000 in
set_option maxRecDepth 20000 in
theorem rg_X6_value_20 (hG : fl G = false) (b : Nat) (x1 : Int32) (x2 : Int32) (x3 : Int32) (x4 : Int32) (x5 : Int32) (h : (((16 : Int32) ≤ x5 → sh[b]? = some (.inl 6) ∧ ∀ m3, m3 = up2 m b 13 x3 → K (some (.int x4)) m3) ∧ (¬ (16 : Int32) ≤ x5 → sh[b]? = some (.inl 6) ∧ Cal G mX6_pulls1 d [.ref b, .int x5] sh ta m (fun v4 m5 => ∃ r6, v4 = some (.int r6) ∧ ((¬ r6 = ((-1) : Int32) → Cal G mX6_likes d [.ref b, .int r6] sh ta m5 (fun v10 m11 => ∃ r12, v10 = some (.int r12) ∧ Cal G mX6_value d [.ref b, .int (x1 + 1), .int x2] sh ta m11 (fun v14 m15 => ∃ r16, v14 = some (.int r16) ∧ Cal G mX6_layBack d [.ref b, .int x1] sh ta m15 (fun v18 m19 => v18 = none ∧ ((x3 = ((-1) : Int32) → WP G (rmD (d + 1) 0 0) mX6_value (QC G sh ta K) 0 0 20 [(0, .ref b), (1, .int x1), (2, .int x2), (3, .int x5), (4, .int (r12 - r16)), (5, .int (x5 + 1))] [] (sh, ta, m19)) ∧ (¬ x3 = ((-1) : Int32) → (((r12 - r16) ≤ x4 → WP G (rmD (d + 1) 0 0) mX6_value (QC G sh ta K) 0 0 20 [(0, .ref b), (1, .int x1), (2, .int x2), (3, .int x3), (4, .int x4), (5, .int (x5 + 1))] [] (sh, ta, m19)) ∧ (¬ (r12 - r16) ≤ x4 → WP G (rmD (d + 1) 0 0) mX6_value (QC G sh ta K) 0 0 20 [(0, .ref b), (1, .int x1), (2, .int x2), (3, .int x5), (4, .int (r12 - r16)), (5, .int (x5 + 1))] [] (sh, ta, m19))))))))) ∧ (r6 = ((-1) : Int32) → Cal G mX6_value d [.ref b, .int (x1 + 1), .int x2] sh ta m5 (fun v24 m25 => ∃ r26, v24 = some (.int r26) ∧ Cal G mX6_layBack d [.ref b, .int x1] sh ta m25 (fun v28 m29 => v28 = none ∧ ((x3 = ((-1) : Int32) → WP G (rmD (d + 1) 0 0) mX6_value (QC G sh ta K) 0 0 20 [(0, .ref b), (1, .int x1), (2, .int x2), (3, .int x5), (4, .int (0 - r26)), (5, .int (x5 + 1))] [] (sh, ta, m29)) ∧ (¬ x3 = ((-1) : Int32) → (((0 - r26) ≤ x4 → WP G (rmD (d + 1) 0 0) mX6_value (QC G sh ta K) 0 0 20 [(0, .ref b), (1, .int x1), (2, .int x2), (3, .int x3), (4, .int x4), (5, .int (x5 + 1))] [] (sh, ta, m29)) ∧ (¬ (0 - r26) ≤ x4 → WP G (rmD (d + 1) 0 0) mX6_value (QC G sh ta K) 0 0 20 [(0, .ref b), (1, .int x1), (2, .int x2), (3, .int x5), (4, .int (0 - r26)), (5, .int (x5 + 1))] [] (sh, ta, m29))))))))))))) : WP G (rmD (d + 1) 0 0) mX6_value (QC G sh ta K) 0 0 20 [(0, .ref b), (1, .int x1), (2, .int x2), (3, .int x3), (4, .int x4), (5, .int x5)] [] (sh, ta, m) := by
  refine WP.iload 5 dX6_value_20 rfl ?_
  refine WP.bipush (v := 16) dX6_value_22 rfl ?_
  refine WP.icmp_ge (tgt := 92) dX6_value_24 (by decide) (fun c1 => ?_) (fun c1 => ?_)
  · have h := h.1 c1
    refine WP.aload_n 0 dX6_value_92 rfl rfl ?_
    refine WP.iload_n 3 dX6_value_93 rfl rfl ?_
    obtain ⟨h2, h⟩ := h
    have h := h _ rfl
    refine WP.putI 6 13 wf_X6_209 (by decide) (by decide) rfl h2 rfl rfl rfl dX6_value_94 ?_
    generalize up2 m b 13 x3 = m3 at h ⊢
    refine WP.iload 4 dX6_value_97 rfl ?_
    exact WP.iret dX6_value_99 rfl (Nat.le_refl _) (Nat.le_refl _) ⟨_, rfl, h⟩
  · have h := h.2 c1
    refine WP.aload_n 0 dX6_value_27 rfl rfl ?_
    refine WP.iload 5 dX6_value_28 rfl ?_
    obtain ⟨h8, h⟩ := h
    refine WP.callV (y := mX6_pulls1) (As := [.int x5]) (st := []) dX6_value_30 wm_X6_183 mw_X6_pulls1 rfl (Nat.le_of_ble_eq_true rfl) (rmok d) h8 (by decide) rfl h (fun v4 Sm5 h7 => ?_)
    obtain ⟨m5, rfl, r6, rfl, h⟩ := h7
    show WP G _ _ _ 0 0 33 [(0, .ref b), (1, .int x1), (2, .int x2), (3, .int x3), (4, .int x4), (5, .int x5)] [.int r6] (sh, ta, m5)
    refine WP.istore (lv2 := [(6, .int r6), (0, .ref b), (1, .int x1), (2, .int x2), (3, .int x3), (4, .int x4), (5, .int x5)]) dX6_value_33 (by decide) rfl ?_
    refine WP.iload 0 dX6_value_35 rfl ?_
    refine WP.iconst (v := (-1)) dX6_value_37 rfl ?_
    refine WP.icmp_ne (tgt := 45) dX6_value_38 (by decide) (fun c9 => ?_) (fun c9 => ?_)
    · have h := h.1 c9
      refine WP.aload_n 1 dX6_value_45 rfl rfl ?_
      refine WP.iload 0 dX6_value_46 rfl ?_
      refine WP.callV (y := mX6_likes) (As := [.int r6]) (st := []) dX6_value_48 wm_X6_154 mw_X6_likes rfl (Nat.le_of_ble_eq_true rfl) (rmok d) h8 (by decide) rfl h (fun v10 Sm11 h13 => ?_)
      obtain ⟨m11, rfl, r12, rfl, h⟩ := h13
      show WP G _ _ _ 0 0 51 [(6, .int r6), (0, .ref b), (1, .int x1), (2, .int x2), (3, .int x3), (4, .int x4), (5, .int x5)] [.int r12] (sh, ta, m11)
      refine WP.aload_n 1 dX6_value_51 rfl rfl ?_
      refine WP.iload_n 2 dX6_value_52 rfl rfl ?_
      refine WP.iconst (v := 1) dX6_value_53 rfl ?_
      refine WP.iadd dX6_value_54 ?_
      refine WP.iload_n 3 dX6_value_55 rfl rfl ?_
      refine WP.callV (y := mX6_value) (As := [.int (x1 + 1), .int x2]) (st := [.int r12]) dX6_value_56 wm_X6_206 mw_X6_value rfl (Nat.le_of_ble_eq_true rfl) (rmok d) h8 (by decide) rfl h (fun v14 Sm15 h17 => ?_)
      obtain ⟨m15, rfl, r16, rfl, h⟩ := h17
      show WP G _ _ _ 0 0 59 [(6, .int r6), (0, .ref b), (1, .int x1), (2, .int x2), (3, .int x3), (4, .int x4), (5, .int x5)] [.int r16, .int r12] (sh, ta, m15)
      refine WP.isub dX6_value_59 ?_
      refine WP.istore (lv2 := [(7, .int (r12 - r16)), (6, .int r6), (0, .ref b), (1, .int x1), (2, .int x2), (3, .int x3), (4, .int x4), (5, .int x5)]) dX6_value_60 (by decide) rfl ?_
      refine WP.aload_n 2 dX6_value_62 rfl rfl ?_
      refine WP.iload_n 3 dX6_value_63 rfl rfl ?_
      refine WP.callV (y := mX6_layBack) (As := [.int x1]) (st := []) dX6_value_64 wm_X6_203 mw_X6_layBack rfl (Nat.le_of_ble_eq_true rfl) (rmok d) h8 (by decide) rfl h (fun v18 Sm19 h21 => ?_)
      obtain ⟨m19, rfl, rfl, h⟩ := h21
      show WP G _ _ _ 0 0 67 [(7, .int (r12 - r16)), (6, .int r6), (0, .ref b), (1, .int x1), (2, .int x2), (3, .int x3), (4, .int x4), (5, .int x5)] [] (sh, ta, m19)
      refine WP.iload_n 5 dX6_value_67 rfl rfl ?_
      refine WP.iconst (v := (-1)) dX6_value_68 rfl ?_
      refine WP.icmp_eq (tgt := 79) dX6_value_69 (by decide) (fun c22 => ?_) (fun c22 => ?_)
      · have h := h.1 c22
        refine WP.iload 7 dX6_value_79 rfl ?_
        refine WP.istore_n (lv2 := [(3, .int x5), (7, .int (r12 - r16)), (6, .int r6), (0, .ref b), (1, .int x1), (2, .int x2), (4, .int x4), (5, .int x5)]) dX6_value_81 rfl (by decide) rfl ?_
        refine WP.iload 1 dX6_value_82 rfl ?_
        refine WP.istore (lv2 := [(4, .int (r12 - r16)), (3, .int x5), (7, .int (r12 - r16)), (6, .int r6), (0, .ref b), (1, .int x1), (2, .int x2), (5, .int x5)]) dX6_value_84 (by decide) rfl ?_
        refine WP.iinc (lv2 := [(5, .int (x5 + 1)), (4, .int (r12 - r16)), (3, .int x5), (7, .int (r12 - r16)), (6, .int r6), (0, .ref b), (1, .int x1), (2, .int x2)]) 7 1 dX6_value_86 rfl rfl (by decide) rfl ?_
        refine WP.goto (tgt := 20) dX6_value_89 (by decide) ?_
        exact WP.pick [5, 6, 7, 2, 1, 0] rfl h
      · have h := h.2 c22
        refine WP.iload 0 dX6_value_72 rfl ?_
        refine WP.iload 6 dX6_value_74 rfl ?_
        refine WP.icmp_le (tgt := 86) dX6_value_76 (by decide) (fun c23 => ?_) (fun c23 => ?_)
        · have h := h.1 c23
          refine WP.iinc (lv2 := [(5, .int (x5 + 1)), (7, .int (r12 - r16)), (6, .int r6), (0, .ref b), (1, .int x1), (2, .int x2), (3, .int x3), (4, .int x4)]) 7 1 dX6_value_86 rfl rfl (by decide) rfl ?_
          refine WP.goto (tgt := 20) dX6_value_89 (by decide) ?_
          exact WP.pick [3, 4, 5, 6, 7, 0] rfl h
        · have h := h.2 c23
          refine WP.iload 7 dX6_value_79 rfl ?_
          refine WP.istore_n (lv2 := [(3, .int x5), (7, .int (r12 - r16)), (6, .int r6), (0, .ref b), (1, .int x1), (2, .int x2), (4, .int x4), (5, .int x5)]) dX6_value_81 rfl (by decide) rfl ?_
          refine WP.iload 1 dX6_value_82 rfl ?_
          refine WP.istore (lv2 := [(4, .int (r12 - r16)), (3, .int x5), (7, .int (r12 - r16)), (6, .int r6), (0, .ref b), (1, .int x1), (2, .int x2), (5, .int x5)]) dX6_value_84 (by decide) rfl ?_
          refine WP.iinc (lv2 := [(5, .int (x5 + 1)), (4, .int (r12 - r16)), (3, .int x5), (7, .int (r12 - r16)), (6, .int r6), (0, .ref b), (1, .int x1), (2, .int x2)]) 7 1 dX6_value_86 rfl rfl (by decide) rfl ?_
          refine WP.goto (tgt := 20) dX6_value_89 (by decide) ?_
          exact WP.pick [5, 6, 7, 2, 1, 0] rfl h
    · have h := h.2 c9
      refine WP.iconst (v := 0) dX6_value_41 rfl ?_
      refine WP.goto (tgt := 51) dX6_value_42 (by decide) ?_
      refine WP.aload_n 1 dX6_value_51 rfl rfl ?_
      refine WP.iload_n 2 dX6_value_52 rfl rfl ?_
      refine WP.iconst (v := 1) dX6_value_53 rfl ?_
      refine WP.iadd dX6_value_54 ?_
      refine WP.iload_n 3 dX6_value_55 rfl rfl ?_
      refine WP.callV (y := mX6_value) (As := [.int (x1 + 1), .int x2]) (st := [.int 0]) dX6_value_56 wm_X6_206 mw_X6_value rfl (Nat.le_of_ble_eq_true rfl) (rmok d) h8 (by decide) rfl h (fun v24 Sm25 h27 => ?_)
      obtain ⟨m25, rfl, r26, rfl, h⟩ := h27
      show WP G _ _ _ 0 0 59 [(6, .int r6), (0, .ref b), (1, .int x1), (2, .int x2), (3, .int x3), (4, .int x4), (5, .int x5)] [.int r26, .int 0] (sh, ta, m25)
      refine WP.isub dX6_value_59 ?_
      refine WP.istore (lv2 := [(7, .int (0 - r26)), (6, .int r6), (0, .ref b), (1, .int x1), (2, .int x2), (3, .int x3), (4, .int x4), (5, .int x5)]) dX6_value_60 (by decide) rfl ?_
      refine WP.aload_n 2 dX6_value_62 rfl rfl ?_
      refine WP.iload_n 3 dX6_value_63 rfl rfl ?_
      refine WP.callV (y := mX6_layBack) (As := [.int x1]) (st := []) dX6_value_64 wm_X6_203 mw_X6_layBack rfl (Nat.le_of_ble_eq_true rfl) (rmok d) h8 (by decide) rfl h (fun v28 Sm29 h31 => ?_)
      obtain ⟨m29, rfl, rfl, h⟩ := h31
      show WP G _ _ _ 0 0 67 [(7, .int (0 - r26)), (6, .int r6), (0, .ref b), (1, .int x1), (2, .int x2), (3, .int x3), (4, .int x4), (5, .int x5)] [] (sh, ta, m29)
      refine WP.iload_n 5 dX6_value_67 rfl rfl ?_
      refine WP.iconst (v := (-1)) dX6_value_68 rfl ?_
      refine WP.icmp_eq (tgt := 79) dX6_value_69 (by decide) (fun c32 => ?_) (fun c32 => ?_)
      · have h := h.1 c32
        refine WP.iload 7 dX6_value_79 rfl ?_
        refine WP.istore_n (lv2 := [(3, .int x5), (7, .int (0 - r26)), (6, .int r6), (0, .ref b), (1, .int x1), (2, .int x2), (4, .int x4), (5, .int x5)]) dX6_value_81 rfl (by decide) rfl ?_
        refine WP.iload 1 dX6_value_82 rfl ?_
        refine WP.istore (lv2 := [(4, .int (0 - r26)), (3, .int x5), (7, .int (0 - r26)), (6, .int r6), (0, .ref b), (1, .int x1), (2, .int x2), (5, .int x5)]) dX6_value_84 (by decide) rfl ?_
        refine WP.iinc (lv2 := [(5, .int (x5 + 1)), (4, .int (0 - r26)), (3, .int x5), (7, .int (0 - r26)), (6, .int r6), (0, .ref b), (1, .int x1), (2, .int x2)]) 7 1 dX6_value_86 rfl rfl (by decide) rfl ?_
        refine WP.goto (tgt := 20) dX6_value_89 (by decide) ?_
        exact WP.pick [5, 6, 7, 2, 1, 0] rfl h
      · have h := h.2 c32
        refine WP.iload 0 dX6_value_72 rfl ?_
        refine WP.iload 6 dX6_value_74 rfl ?_
        refine WP.icmp_le (tgt := 86) dX6_value_76 (by decide) (fun c33 => ?_) (fun c33 => ?_)
        · have h := h.1 c33
          refine WP.iinc (lv2 := [(5, .int (x5 + 1)), (7, .int (0 - r26)), (6, .int r6), (0, .ref b), (1, .int x1), (2, .int x2), (3, .int x3), (4, .int x4)]) 7 1 dX6_value_86 rfl rfl (by decide) rfl ?_
          refine WP.goto (tgt := 20) dX6_value_89 (by decide) ?_
          exact WP.pick [3, 4, 5, 6, 7, 0] rfl h
        · have h := h.2 c33
          refine WP.iload 7 dX6_value_79 rfl ?_
          refine WP.istore_n (lv2 := [(3, .int x5), (7, .int (0 - r26)), (6, .int r6), (0, .ref b), (1, .int x1), (2, .int x2), (4, .int x4), (5, .int x5)]) dX6_value_81 rfl (by decide) rfl ?_
          refine WP.iload 1 dX6_value_82 rfl ?_
          refine WP.istore (lv2 := [(4, .int (0 - r26)), (3, .int x5), (7, .int (0 - r26)), (6, .int r6), (0, .ref b), (1, .int x1), (2, .int x2), (5, .int x5)]) dX6_value_84 (by decide) rfl ?_
          refine WP.iinc (lv2 := [(5, .int (x5 + 1)), (4, .int (0 - r26)), (3, .int x5), (7, .int (0 - r26)), (6, .int r6), (0, .ref b), (1, .int x1), (2, .int x2)]) 7 1 dX6_value_86 rfl rfl (by decide) rfl ?_
          refine WP.goto (tgt := 20) dX6_value_89 (by decide) ?_
          exact WP.pick [5, 6, 7, 2, 1, 0] rfl h
set_option maxHeartbeats 4000000 in
set_option maxRecDepth 20000 in
theorem rg_X6_game_0 (hG : fl G = false) (b : Nat) (x1 : Int32) (x2 : Int32) (h : Cal G mX6_in d [.int x1, .int 1, .int 3] sh ta m (fun v1 m2 => ∃ r3, v1 = some (.int r3) ∧ ((r3 = 0 → sh[b]? = some (.inl 6) ∧ Cal G mX6_error d [.ref b, .int 1] sh ta m2 (fun v6 m7 => ∃ r8, v6 = some (.int r8) ∧ K (some (.int r8)) m7)) ∧ (¬ r3 = 0 → Cal G mX6_in d [.int x2, .int 0, .int 1] sh ta m2 (fun v11 m12 => ∃ r13, v11 = some (.int r13) ∧ ((¬ r13 = 0 → sh[b]? = some (.inl 6) ∧ Cal G mX6_value d [.ref b, .int 0, .int x1] sh ta m12 (fun v16 m17 => ∃ r18, v16 = some (.int r18) ∧ ((¬ x2 = 0 → K (some (.int (m17 b 13))) m17) ∧ (x2 = 0 → K (some (.int r18)) m17)))) ∧ (r13 = 0 → sh[b]? = some (.inl 6) ∧ Cal G mX6_error d [.ref b, .int 1] sh ta m12 (fun v22 m23 => ∃ r24, v22 = some (.int r24) ∧ K (some (.int r24)) m23)))))))) : WP G (rmD (d + 1) 0 0) mX6_game (QC G sh ta K) 0 0 0 [(0, .ref b), (1, .int x1), (2, .int x2)] [] (sh, ta, m) := by
  refine WP.iload_n 1 dX6_game_0 rfl rfl ?_
  refine WP.iconst (v := 1) dX6_game_1 rfl ?_
  refine WP.iconst (v := 3) dX6_game_2 rfl ?_
  refine WP.callS (y := mX6_in) (As := [.int x1, .int 1, .int 3]) (st := []) dX6_game_3 wm_X6_50 mw_X6_in rfl (Nat.le_of_ble_eq_true rfl) (rmok d) rfl h (fun v1 Sm2 h4 => ?_)
  obtain ⟨m2, rfl, r3, rfl, h⟩ := h4
  show WP G _ _ _ 0 0 6 [(0, .ref b), (1, .int x1), (2, .int x2)] [.int r3] (sh, ta, m2)
  refine WP.if_eq (tgt := 18) dX6_game_6 (by decide) (fun c5 => ?_) (fun c5 => ?_)
  · have h := h.1 c5
    refine WP.aload_n 0 dX6_game_18 rfl rfl ?_
    refine WP.iconst (v := 1) dX6_game_19 rfl ?_
    obtain ⟨h10, h⟩ := h
    refine WP.callV (y := mX6_error) (As := [.int 1]) (st := []) dX6_game_20 wm_X6_68 mw_X6_error rfl (Nat.le_of_ble_eq_true rfl) (rmok d) h10 (by decide) rfl h (fun v6 Sm7 h9 => ?_)
    obtain ⟨m7, rfl, r8, rfl, h⟩ := h9
    show WP G _ _ _ 0 0 23 [(0, .ref b), (1, .int x1), (2, .int x2)] [.int r8] (sh, ta, m7)
    exact WP.iret dX6_game_23 rfl (Nat.le_refl _) (Nat.le_refl _) ⟨_, rfl, h⟩
  · have h := h.2 c5
    refine WP.iload_n 2 dX6_game_9 rfl rfl ?_
    refine WP.iconst (v := 0) dX6_game_10 rfl ?_
    refine WP.iconst (v := 1) dX6_game_11 rfl ?_
    refine WP.callS (y := mX6_in) (As := [.int x2, .int 0, .int 1]) (st := []) dX6_game_12 wm_X6_50 mw_X6_in rfl (Nat.le_of_ble_eq_true rfl) (rmok d) rfl h (fun v11 Sm12 h14 => ?_)
    obtain ⟨m12, rfl, r13, rfl, h⟩ := h14
    show WP G _ _ _ 0 0 15 [(0, .ref b), (1, .int x1), (2, .int x2)] [.int r13] (sh, ta, m12)
    refine WP.if_ne (tgt := 24) dX6_game_15 (by decide) (fun c15 => ?_) (fun c15 => ?_)
    · have h := h.1 c15
      refine WP.aload_n 0 dX6_game_24 rfl rfl ?_
      refine WP.iconst (v := 0) dX6_game_25 rfl ?_
      refine WP.iload_n 1 dX6_game_26 rfl rfl ?_
      obtain ⟨h20, h⟩ := h
      refine WP.callV (y := mX6_value) (As := [.int 0, .int x1]) (st := []) dX6_game_27 wm_X6_206 mw_X6_value rfl (Nat.le_of_ble_eq_true rfl) (rmok d) h20 (by decide) rfl h (fun v16 Sm17 h19 => ?_)
      obtain ⟨m17, rfl, r18, rfl, h⟩ := h19
      show WP G _ _ _ 0 0 30 [(0, .ref b), (1, .int x1), (2, .int x2)] [.int r18] (sh, ta, m17)
      refine WP.istore_n (lv2 := [(3, .int r18), (0, .ref b), (1, .int x1), (2, .int x2)]) dX6_game_30 rfl (by decide) rfl ?_
      refine WP.iload_n 3 dX6_game_31 rfl rfl ?_
      refine WP.if_ne (tgt := 39) dX6_game_32 (by decide) (fun c21 => ?_) (fun c21 => ?_)
      · have h := h.1 c21
        refine WP.aload_n 1 dX6_game_39 rfl rfl ?_
        refine WP.getI 6 13 wf_X6_209 (by decide) (by decide) rfl h20 dX6_game_40 ?_
        exact WP.iret dX6_game_43 rfl (Nat.le_refl _) (Nat.le_refl _) ⟨_, rfl, h⟩
      · have h := h.2 c21
        refine WP.iload_n 0 dX6_game_35 rfl rfl ?_
        refine WP.goto (tgt := 43) dX6_game_36 (by decide) ?_
        exact WP.iret dX6_game_43 rfl (Nat.le_refl _) (Nat.le_refl _) ⟨_, rfl, h⟩
    · have h := h.2 c15
      refine WP.aload_n 0 dX6_game_18 rfl rfl ?_
      refine WP.iconst (v := 1) dX6_game_19 rfl ?_
      obtain ⟨h26, h⟩ := h
      refine WP.callV (y := mX6_error) (As := [.int 1]) (st := []) dX6_game_20 wm_X6_68 mw_X6_error rfl (Nat.le_of_ble_eq_true rfl) (rmok d) h26 (by decide) rfl h (fun v22 Sm23 h25 => ?_)
      obtain ⟨m23, rfl, r24, rfl, h⟩ := h25
      show WP G _ _ _ 0 0 23 [(0, .ref b), (1, .int x1), (2, .int x2)] [.int r24] (sh, ta, m23)
      exact WP.iret dX6_game_23 rfl (Nat.le_refl _) (Nat.le_refl _) ⟨_, rfl, h⟩
set_option maxHeartbeats 4000000 in
set_option maxRecDepth 20000 in
theorem rg_X6_hauls_0 (hG : fl G = false) (b : Nat) (x1 : Int32) (h : sh[b]? = some (.inl 6) ∧ Cal G mX6_rowOf d [.ref b, .int x1] sh ta m (fun v1 m2 => ∃ r3, v1 = some (.int r3) ∧ Cal G mX6_layDown d [.ref b, .int 0] sh ta m2 (fun v6 m7 => v6 = none ∧ WP G (rmD (d + 1) 0 0) mX6_hauls (QC G sh ta K) 0 0 16 [(0, .ref b), (1, .int x1), (2, .int 0), (3, .int r3), (4, .int 0)] [] (sh, ta, m7)))) : WP G (rmD (d + 1) 0 0) mX6_hauls (QC G sh ta K) 0 0 0 [(0, .ref b), (1, .int x1)] [] (sh, ta, m) := by
  refine WP.iconst (v := 0) dX6_hauls_0 rfl ?_
  refine WP.istore_n (lv2 := [(2, .int 0), (0, .ref b), (1, .int x1)]) dX6_hauls_1 rfl (by decide) rfl ?_
  refine WP.aload_n 1 dX6_hauls_2 rfl rfl ?_
  refine WP.iload_n 2 dX6_hauls_3 rfl rfl ?_
  obtain ⟨h5, h⟩ := h
  refine WP.callV (y := mX6_rowOf) (As := [.int x1]) (st := []) dX6_hauls_4 wm_X6_189 mw_X6_rowOf rfl (Nat.le_of_ble_eq_true rfl) (rmok d) h5 (by decide) rfl h (fun v1 Sm2 h4 => ?_)
  obtain ⟨m2, rfl, r3, rfl, h⟩ := h4
  show WP G _ _ _ 0 0 7 [(2, .int 0), (0, .ref b), (1, .int x1)] [.int r3] (sh, ta, m2)
  refine WP.istore_n (lv2 := [(3, .int r3), (2, .int 0), (0, .ref b), (1, .int x1)]) dX6_hauls_7 rfl (by decide) rfl ?_
  refine WP.aload_n 2 dX6_hauls_8 rfl rfl ?_
  refine WP.iconst (v := 0) dX6_hauls_9 rfl ?_
  refine WP.callV (y := mX6_layDown) (As := [.int 0]) (st := []) dX6_hauls_10 wm_X6_196 mw_X6_layDown rfl (Nat.le_of_ble_eq_true rfl) (rmok d) h5 (by decide) rfl h (fun v6 Sm7 h9 => ?_)
  obtain ⟨m7, rfl, rfl, h⟩ := h9
  show WP G _ _ _ 0 0 13 [(3, .int r3), (2, .int 0), (0, .ref b), (1, .int x1)] [] (sh, ta, m7)
  refine WP.iconst (v := 0) dX6_hauls_13 rfl ?_
  refine WP.istore (lv2 := [(4, .int 0), (3, .int r3), (2, .int 0), (0, .ref b), (1, .int x1)]) dX6_hauls_14 (by decide) rfl ?_
  exact WP.pick [3, 4, 2, 1, 0] rfl h
set_option maxHeartbeats 4000000 in
set_option maxRecDepth 20000 in
theorem rg_X6_hauls_16 (hG : fl G = false) (b : Nat) (x1 : Int32) (x2 : Int32) (x3 : Int32) (x4 : Int32) (h : ((x3 ≤ x4 → sh[b]? = some (.inl 6) ∧ Cal G mX6_layBack d [.ref b, .int 0] sh ta m (fun v2 m3 => v2 = none ∧ K (some (.int x2)) m3)) ∧ (¬ x3 ≤ x4 → sh[b]? = some (.inl 6) ∧ ∃ i8, ta b 20 = some i8 ∧ ∃ n11, sh[i8]? = some (.inr (0, n11)) ∧ InB ((24 * x1) + x4) n11 ∧ Cal G mX6_pulls1 d [.ref b, .int (rd (m i8) ((24 * x1) + x4))] sh ta m (fun v13 m14 => ∃ r15, v13 = some (.int r15) ∧ ((¬ r15 = ((-1) : Int32) → Cal G mX6_likes d [.ref b, .int r15] sh ta m14 (fun v18 m19 => ∃ r20, v18 = some (.int r20) ∧ WP G (rmD (d + 1) 0 0) mX6_hauls (QC G sh ta K) 0 0 16 [(0, .ref b), (1, .int x1), (2, .int (x2 + r20)), (3, .int x3), (4, .int (x4 + 1))] [] (sh, ta, m19))) ∧ (r15 = ((-1) : Int32) → WP G (rmD (d + 1) 0 0) mX6_hauls (QC G sh ta K) 0 0 16 [(0, .ref b), (1, .int x1), (2, .int (x2 + 0)), (3, .int x3), (4, .int (x4 + 1))] [] (sh, ta, m14))))))) : WP G (rmD (d + 1) 0 0) mX6_hauls (QC G sh ta K) 0 0 16 [(0, .ref b), (1, .int x1), (2, .int x2), (3, .int x3), (4, .int x4)] [] (sh, ta, m) := by
  refine WP.iload 4 dX6_hauls_16 rfl ?_
  refine WP.iload_n 3 dX6_hauls_18 rfl rfl ?_
  refine WP.icmp_ge (tgt := 65) dX6_hauls_19 (by decide) (fun c1 => ?_) (fun c1 => ?_)
  · have h := h.1 c1
    refine WP.aload_n 0 dX6_hauls_65 rfl rfl ?_
    refine WP.iconst (v := 0) dX6_hauls_66 rfl ?_
    obtain ⟨h6, h⟩ := h
    refine WP.callV (y := mX6_layBack) (As := [.int 0]) (st := []) dX6_hauls_67 wm_X6_203 mw_X6_layBack rfl (Nat.le_of_ble_eq_true rfl) (rmok d) h6 (by decide) rfl h (fun v2 Sm3 h5 => ?_)
    obtain ⟨m3, rfl, rfl, h⟩ := h5
    show WP G _ _ _ 0 0 70 [(0, .ref b), (1, .int x1), (2, .int x2), (3, .int x3), (4, .int x4)] [] (sh, ta, m3)
    refine WP.iload_n 2 dX6_hauls_70 rfl rfl ?_
    exact WP.iret dX6_hauls_71 rfl (Nat.le_refl _) (Nat.le_refl _) ⟨_, rfl, h⟩
  · have h := h.2 c1
    refine WP.aload_n 0 dX6_hauls_22 rfl rfl ?_
    refine WP.aload_n 0 dX6_hauls_23 rfl rfl ?_
    obtain ⟨h7, h⟩ := h
    obtain ⟨i8, h9, h⟩ := h
    refine WP.getR 6 20 wf_X6_43 (by decide) (by decide) rfl h7 h9 dX6_hauls_24 ?_
    refine WP.bipush (v := 24) dX6_hauls_27 rfl ?_
    refine WP.iload_n 1 dX6_hauls_29 rfl rfl ?_
    refine WP.imul dX6_hauls_30 ?_
    refine WP.iload 4 dX6_hauls_31 rfl ?_
    refine WP.iadd dX6_hauls_33 ?_
    obtain ⟨n11, h10, h⟩ := h
    obtain ⟨h12, h⟩ := h
    refine WP.iald h10 h12 dX6_hauls_34 ?_
    refine WP.callV (y := mX6_pulls1) (As := [.int (rd (m i8) ((24 * x1) + x4))]) (st := []) dX6_hauls_35 wm_X6_183 mw_X6_pulls1 rfl (Nat.le_of_ble_eq_true rfl) (rmok d) h7 (by decide) rfl h (fun v13 Sm14 h16 => ?_)
    obtain ⟨m14, rfl, r15, rfl, h⟩ := h16
    show WP G _ _ _ 0 0 38 [(0, .ref b), (1, .int x1), (2, .int x2), (3, .int x3), (4, .int x4)] [.int r15] (sh, ta, m14)
    refine WP.istore (lv2 := [(5, .int r15), (0, .ref b), (1, .int x1), (2, .int x2), (3, .int x3), (4, .int x4)]) dX6_hauls_38 (by decide) rfl ?_
    refine WP.iload_n 3 dX6_hauls_40 rfl rfl ?_
    refine WP.iload 0 dX6_hauls_41 rfl ?_
    refine WP.iconst (v := (-1)) dX6_hauls_43 rfl ?_
    refine WP.icmp_ne (tgt := 51) dX6_hauls_44 (by decide) (fun c17 => ?_) (fun c17 => ?_)
    · have h := h.1 c17
      refine WP.aload_n 1 dX6_hauls_51 rfl rfl ?_
      refine WP.iload 0 dX6_hauls_52 rfl ?_
      refine WP.callV (y := mX6_likes) (As := [.int r15]) (st := [.int x2]) dX6_hauls_54 wm_X6_154 mw_X6_likes rfl (Nat.le_of_ble_eq_true rfl) (rmok d) h7 (by decide) rfl h (fun v18 Sm19 h21 => ?_)
      obtain ⟨m19, rfl, r20, rfl, h⟩ := h21
      show WP G _ _ _ 0 0 57 [(5, .int r15), (0, .ref b), (1, .int x1), (2, .int x2), (3, .int x3), (4, .int x4)] [.int r20, .int x2] (sh, ta, m19)
      refine WP.iadd dX6_hauls_57 ?_
      refine WP.istore_n (lv2 := [(2, .int (x2 + r20)), (5, .int r15), (0, .ref b), (1, .int x1), (3, .int x3), (4, .int x4)]) dX6_hauls_58 rfl (by decide) rfl ?_
      refine WP.iinc (lv2 := [(4, .int (x4 + 1)), (2, .int (x2 + r20)), (5, .int r15), (0, .ref b), (1, .int x1), (3, .int x3)]) 5 1 dX6_hauls_59 rfl rfl (by decide) rfl ?_
      refine WP.goto (tgt := 16) dX6_hauls_62 (by decide) ?_
      exact WP.pick [3, 4, 1, 5, 0] rfl h
    · have h := h.2 c17
      refine WP.iconst (v := 0) dX6_hauls_47 rfl ?_
      refine WP.goto (tgt := 57) dX6_hauls_48 (by decide) ?_
      refine WP.iadd dX6_hauls_57 ?_
      refine WP.istore_n (lv2 := [(2, .int (x2 + 0)), (5, .int r15), (0, .ref b), (1, .int x1), (3, .int x3), (4, .int x4)]) dX6_hauls_58 rfl (by decide) rfl ?_
      refine WP.iinc (lv2 := [(4, .int (x4 + 1)), (2, .int (x2 + 0)), (5, .int r15), (0, .ref b), (1, .int x1), (3, .int x3)]) 5 1 dX6_hauls_59 rfl rfl (by decide) rfl ?_
      refine WP.goto (tgt := 16) dX6_hauls_62 (by decide) ?_
      exact WP.pick [3, 4, 1, 5, 0] rfl h
set_option maxHeartbeats 4000000 in
set_option maxRecDepth 20000 in
theorem rg_X6_haul_0 (hG : fl G = false) (b : Nat) (x1 : Int32) (h : sh[b]? = some (.inl 6) ∧ Cal G mX6_lacks d [.ref b, .int x1] sh ta m (fun v1 m2 => ∃ r3, v1 = some (.int r3) ∧ ((r3 ≤ 0 → Cal G mX6_hauls d [.ref b, .int x1] sh ta m2 (fun v7 m8 => ∃ r9, v7 = some (.int r9) ∧ K (some (.int r9)) m8)) ∧ (¬ r3 ≤ 0 → Cal G mX6_error d [.ref b, .int r3] sh ta m2 (fun v11 m12 => ∃ r13, v11 = some (.int r13) ∧ K (some (.int r13)) m12))))) : WP G (rmD (d + 1) 0 0) mX6_haul (QC G sh ta K) 0 0 0 [(0, .ref b), (1, .int x1)] [] (sh, ta, m) := by
  refine WP.aload_n 0 dX6_haul_0 rfl rfl ?_
  refine WP.iload_n 1 dX6_haul_1 rfl rfl ?_
  obtain ⟨h5, h⟩ := h
  refine WP.callV (y := mX6_lacks) (As := [.int x1]) (st := []) dX6_haul_2 wm_X6_186 mw_X6_lacks rfl (Nat.le_of_ble_eq_true rfl) (rmok d) h5 (by decide) rfl h (fun v1 Sm2 h4 => ?_)
  obtain ⟨m2, rfl, r3, rfl, h⟩ := h4
  show WP G _ _ _ 0 0 5 [(0, .ref b), (1, .int x1)] [.int r3] (sh, ta, m2)
  refine WP.istore_n (lv2 := [(2, .int r3), (0, .ref b), (1, .int x1)]) dX6_haul_5 rfl (by decide) rfl ?_
  refine WP.iload_n 0 dX6_haul_6 rfl rfl ?_
  refine WP.if_le (tgt := 18) dX6_haul_7 (by decide) (fun c6 => ?_) (fun c6 => ?_)
  · have h := h.1 c6
    refine WP.aload_n 1 dX6_haul_18 rfl rfl ?_
    refine WP.iload_n 2 dX6_haul_19 rfl rfl ?_
    refine WP.callV (y := mX6_hauls) (As := [.int x1]) (st := []) dX6_haul_20 wm_X6_212 mw_X6_hauls rfl (Nat.le_of_ble_eq_true rfl) (rmok d) h5 (by decide) rfl h (fun v7 Sm8 h10 => ?_)
    obtain ⟨m8, rfl, r9, rfl, h⟩ := h10
    show WP G _ _ _ 0 0 23 [(2, .int r3), (0, .ref b), (1, .int x1)] [.int r9] (sh, ta, m8)
    exact WP.iret dX6_haul_23 rfl (Nat.le_refl _) (Nat.le_refl _) ⟨_, rfl, h⟩
  · have h := h.2 c6
    refine WP.aload_n 1 dX6_haul_10 rfl rfl ?_
    refine WP.iload_n 0 dX6_haul_11 rfl rfl ?_
    refine WP.callV (y := mX6_error) (As := [.int r3]) (st := []) dX6_haul_12 wm_X6_68 mw_X6_error rfl (Nat.le_of_ble_eq_true rfl) (rmok d) h5 (by decide) rfl h (fun v11 Sm12 h14 => ?_)
    obtain ⟨m12, rfl, r13, rfl, h⟩ := h14
    show WP G _ _ _ 0 0 15 [(2, .int r3), (0, .ref b), (1, .int x1)] [.int r13] (sh, ta, m12)
    refine WP.goto (tgt := 23) dX6_haul_15 (by decide) ?_
    exact WP.iret dX6_haul_23 rfl (Nat.le_refl _) (Nat.le_refl _) ⟨_, rfl, h⟩
set_option maxHeartbeats 4000000 in
set_option maxRecDepth 20000 in
theorem rg_X6_changes_0 (hG : fl G = false) (b : Nat) (x1 : Int32) (x2 : Int32) (h : sh[b]? = some (.inl 6) ∧ Cal G mX6_its d [.ref b, .int x1, .int 3] sh ta m (fun v1 m2 => ∃ r3, v1 = some (.int r3) ∧ Cal G mX6_its d [.ref b, .int x2, .int 3] sh ta m2 (fun v6 m7 => ∃ r8, v6 = some (.int r8) ∧ Cal G mX6_heightOf d [.ref b, .int x1] sh ta m7 (fun v10 m11 => ∃ r12, v10 = some (.int r12) ∧ Cal G mX6_heightOf d [.ref b, .int x2] sh ta m11 (fun v14 m15 => ∃ r16, v14 = some (.int r16) ∧ ∃ i18, ta b 0 = some i18 ∧ ∃ n21, sh[i18]? = some (.inr (0, n21)) ∧ InB (((72 + (6 * r3)) + 1) + r12) n21 ∧ ∀ m23, m23 = upa m15 i18 (((72 + (6 * r3)) + 1) + r12) x2 → InB (((72 + (6 * r8)) + 1) + r16) n21 ∧ ∀ m25, m25 = upa m23 i18 (((72 + (6 * r8)) + 1) + r16) x1 → InB ((8 + (4 * x1)) + 3) n21 ∧ ∀ m27, m27 = upa m25 i18 ((8 + (4 * x1)) + 3) r8 → InB ((8 + (4 * x2)) + 3) n21 ∧ ∀ m29, m29 = upa m27 i18 ((8 + (4 * x2)) + 3) r3 → K none m29))))) : WP G (rmD (d + 1) 0 0) mX6_changes (QC G sh ta K) 0 0 0 [(0, .ref b), (1, .int x1), (2, .int x2)] [] (sh, ta, m) := by
  refine WP.aload_n 0 dX6_changes_0 rfl rfl ?_
  refine WP.iload_n 1 dX6_changes_1 rfl rfl ?_
  refine WP.iconst (v := 3) dX6_changes_2 rfl ?_
  obtain ⟨h5, h⟩ := h
  refine WP.callV (y := mX6_its) (As := [.int x1, .int 3]) (st := []) dX6_changes_3 wm_X6_62 mw_X6_its rfl (Nat.le_of_ble_eq_true rfl) (rmok d) h5 (by decide) rfl h (fun v1 Sm2 h4 => ?_)
  obtain ⟨m2, rfl, r3, rfl, h⟩ := h4
  show WP G _ _ _ 0 0 6 [(0, .ref b), (1, .int x1), (2, .int x2)] [.int r3] (sh, ta, m2)
  refine WP.istore_n (lv2 := [(3, .int r3), (0, .ref b), (1, .int x1), (2, .int x2)]) dX6_changes_6 rfl (by decide) rfl ?_
  refine WP.aload_n 1 dX6_changes_7 rfl rfl ?_
  refine WP.iload_n 3 dX6_changes_8 rfl rfl ?_
  refine WP.iconst (v := 3) dX6_changes_9 rfl ?_
  refine WP.callV (y := mX6_its) (As := [.int x2, .int 3]) (st := []) dX6_changes_10 wm_X6_62 mw_X6_its rfl (Nat.le_of_ble_eq_true rfl) (rmok d) h5 (by decide) rfl h (fun v6 Sm7 h9 => ?_)
  obtain ⟨m7, rfl, r8, rfl, h⟩ := h9
  show WP G _ _ _ 0 0 13 [(3, .int r3), (0, .ref b), (1, .int x1), (2, .int x2)] [.int r8] (sh, ta, m7)
  refine WP.istore (lv2 := [(4, .int r8), (3, .int r3), (0, .ref b), (1, .int x1), (2, .int x2)]) dX6_changes_13 (by decide) rfl ?_
  refine WP.aload_n 2 dX6_changes_15 rfl rfl ?_
  refine WP.iload_n 3 dX6_changes_16 rfl rfl ?_
  refine WP.callV (y := mX6_heightOf) (As := [.int x1]) (st := []) dX6_changes_17 wm_X6_65 mw_X6_heightOf rfl (Nat.le_of_ble_eq_true rfl) (rmok d) h5 (by decide) rfl h (fun v10 Sm11 h13 => ?_)
  obtain ⟨m11, rfl, r12, rfl, h⟩ := h13
  show WP G _ _ _ 0 0 20 [(4, .int r8), (3, .int r3), (0, .ref b), (1, .int x1), (2, .int x2)] [.int r12] (sh, ta, m11)
  refine WP.istore (lv2 := [(5, .int r12), (4, .int r8), (3, .int r3), (0, .ref b), (1, .int x1), (2, .int x2)]) dX6_changes_20 (by decide) rfl ?_
  refine WP.aload_n 3 dX6_changes_22 rfl rfl ?_
  refine WP.iload_n 5 dX6_changes_23 rfl rfl ?_
  refine WP.callV (y := mX6_heightOf) (As := [.int x2]) (st := []) dX6_changes_24 wm_X6_65 mw_X6_heightOf rfl (Nat.le_of_ble_eq_true rfl) (rmok d) h5 (by decide) rfl h (fun v14 Sm15 h17 => ?_)
  obtain ⟨m15, rfl, r16, rfl, h⟩ := h17
  show WP G _ _ _ 0 0 27 [(5, .int r12), (4, .int r8), (3, .int r3), (0, .ref b), (1, .int x1), (2, .int x2)] [.int r16] (sh, ta, m15)
  refine WP.istore (lv2 := [(6, .int r16), (5, .int r12), (4, .int r8), (3, .int r3), (0, .ref b), (1, .int x1), (2, .int x2)]) dX6_changes_27 (by decide) rfl ?_
  refine WP.aload_n 4 dX6_changes_29 rfl rfl ?_
  obtain ⟨i18, h19, h⟩ := h
  refine WP.getR 6 0 wf_X6_7 (by decide) (by decide) rfl h5 h19 dX6_changes_30 ?_
  refine WP.bipush (v := 72) dX6_changes_33 rfl ?_
  refine WP.bipush (v := 6) dX6_changes_35 rfl ?_
  refine WP.iload_n 3 dX6_changes_37 rfl rfl ?_
  refine WP.imul dX6_changes_38 ?_
  refine WP.iadd dX6_changes_39 ?_
  refine WP.iconst (v := 1) dX6_changes_40 rfl ?_
  refine WP.iadd dX6_changes_41 ?_
  refine WP.iload 1 dX6_changes_42 rfl ?_
  refine WP.iadd dX6_changes_44 ?_
  refine WP.iload_n 6 dX6_changes_45 rfl rfl ?_
  obtain ⟨n21, h20, h⟩ := h
  obtain ⟨h22, h⟩ := h
  have h := h _ rfl
  refine WP.iast h20 h22 dX6_changes_46 ?_
  generalize upa m15 i18 (((72 + (6 * r3)) + 1) + r12) x2 = m23 at h ⊢
  refine WP.aload_n 4 dX6_changes_47 rfl rfl ?_
  refine WP.getR 6 0 wf_X6_7 (by decide) (by decide) rfl h5 h19 dX6_changes_48 ?_
  refine WP.bipush (v := 72) dX6_changes_51 rfl ?_
  refine WP.bipush (v := 6) dX6_changes_53 rfl ?_
  refine WP.iload 2 dX6_changes_55 rfl ?_
  refine WP.imul dX6_changes_57 ?_
  refine WP.iadd dX6_changes_58 ?_
  refine WP.iconst (v := 1) dX6_changes_59 rfl ?_
  refine WP.iadd dX6_changes_60 ?_
  refine WP.iload 0 dX6_changes_61 rfl ?_
  refine WP.iadd dX6_changes_63 ?_
  refine WP.iload_n 5 dX6_changes_64 rfl rfl ?_
  obtain ⟨h24, h⟩ := h
  have h := h _ rfl
  refine WP.iast h20 h24 dX6_changes_65 ?_
  generalize upa m23 i18 (((72 + (6 * r8)) + 1) + r16) x1 = m25 at h ⊢
  refine WP.aload_n 4 dX6_changes_66 rfl rfl ?_
  refine WP.getR 6 0 wf_X6_7 (by decide) (by decide) rfl h5 h19 dX6_changes_67 ?_
  refine WP.bipush (v := 8) dX6_changes_70 rfl ?_
  refine WP.iconst (v := 4) dX6_changes_72 rfl ?_
  refine WP.iload_n 5 dX6_changes_73 rfl rfl ?_
  refine WP.imul dX6_changes_74 ?_
  refine WP.iadd dX6_changes_75 ?_
  refine WP.iconst (v := 3) dX6_changes_76 rfl ?_
  refine WP.iadd dX6_changes_77 ?_
  refine WP.iload 2 dX6_changes_78 rfl ?_
  obtain ⟨h26, h⟩ := h
  have h := h _ rfl
  refine WP.iast h20 h26 dX6_changes_80 ?_
  generalize upa m25 i18 ((8 + (4 * x1)) + 3) r8 = m27 at h ⊢
  refine WP.aload_n 4 dX6_changes_81 rfl rfl ?_
  refine WP.getR 6 0 wf_X6_7 (by decide) (by decide) rfl h5 h19 dX6_changes_82 ?_
  refine WP.bipush (v := 8) dX6_changes_85 rfl ?_
  refine WP.iconst (v := 4) dX6_changes_87 rfl ?_
  refine WP.iload_n 6 dX6_changes_88 rfl rfl ?_
  refine WP.imul dX6_changes_89 ?_
  refine WP.iadd dX6_changes_90 ?_
  refine WP.iconst (v := 3) dX6_changes_91 rfl ?_
  refine WP.iadd dX6_changes_92 ?_
  refine WP.iload_n 3 dX6_changes_93 rfl rfl ?_
  obtain ⟨h28, h⟩ := h
  have h := h _ rfl
  refine WP.iast h20 h28 dX6_changes_94 ?_
  generalize upa m27 i18 ((8 + (4 * x2)) + 3) r3 = m29 at h ⊢
  exact WP.vret dX6_changes_95 rfl (Nat.le_refl _) (Nat.le_refl _) ⟨_, rfl, h⟩
set_option maxHeartbeats 4000000 in
set_option maxRecDepth 20000 in
theorem rg_X6_changed_0 (hG : fl G = false) (b : Nat) (x1 : Int32) (h : sh[b]? = some (.inl 6) ∧ Cal G mX6_lacks d [.ref b, .int x1] sh ta m (fun v1 m2 => ∃ r3, v1 = some (.int r3) ∧ ((r3 ≤ 0 → Cal G mX6_hauls d [.ref b, .int x1] sh ta m2 (fun v7 m8 => ∃ r9, v7 = some (.int r9) ∧ WP G (rmD (d + 1) 0 0) mX6_changed (QC G sh ta K) 0 0 28 [(0, .ref b), (1, .int x1), (3, .int ((-1))), (4, .int r9), (5, .int 0)] [] (sh, ta, m8))) ∧ (¬ r3 ≤ 0 → Cal G mX6_error d [.ref b, .int r3] sh ta m2 (fun v11 m12 => ∃ r13, v11 = some (.int r13) ∧ K (some (.int r13)) m12))))) : WP G (rmD (d + 1) 0 0) mX6_changed (QC G sh ta K) 0 0 0 [(0, .ref b), (1, .int x1)] [] (sh, ta, m) := by
  refine WP.aload_n 0 dX6_changed_0 rfl rfl ?_
  refine WP.iload_n 1 dX6_changed_1 rfl rfl ?_
  obtain ⟨h5, h⟩ := h
  refine WP.callV (y := mX6_lacks) (As := [.int x1]) (st := []) dX6_changed_2 wm_X6_186 mw_X6_lacks rfl (Nat.le_of_ble_eq_true rfl) (rmok d) h5 (by decide) rfl h (fun v1 Sm2 h4 => ?_)
  obtain ⟨m2, rfl, r3, rfl, h⟩ := h4
  show WP G _ _ _ 0 0 5 [(0, .ref b), (1, .int x1)] [.int r3] (sh, ta, m2)
  refine WP.istore_n (lv2 := [(2, .int r3), (0, .ref b), (1, .int x1)]) dX6_changed_5 rfl (by decide) rfl ?_
  refine WP.iload_n 0 dX6_changed_6 rfl rfl ?_
  refine WP.if_le (tgt := 16) dX6_changed_7 (by decide) (fun c6 => ?_) (fun c6 => ?_)
  · have h := h.1 c6
    refine WP.iconst (v := (-1)) dX6_changed_16 rfl ?_
    refine WP.istore_n (lv2 := [(3, .int ((-1))), (2, .int r3), (0, .ref b), (1, .int x1)]) dX6_changed_17 rfl (by decide) rfl ?_
    refine WP.aload_n 2 dX6_changed_18 rfl rfl ?_
    refine WP.iload_n 3 dX6_changed_19 rfl rfl ?_
    refine WP.callV (y := mX6_hauls) (As := [.int x1]) (st := []) dX6_changed_20 wm_X6_212 mw_X6_hauls rfl (Nat.le_of_ble_eq_true rfl) (rmok d) h5 (by decide) rfl h (fun v7 Sm8 h10 => ?_)
    obtain ⟨m8, rfl, r9, rfl, h⟩ := h10
    show WP G _ _ _ 0 0 23 [(3, .int ((-1))), (2, .int r3), (0, .ref b), (1, .int x1)] [.int r9] (sh, ta, m8)
    refine WP.istore (lv2 := [(4, .int r9), (3, .int ((-1))), (2, .int r3), (0, .ref b), (1, .int x1)]) dX6_changed_23 (by decide) rfl ?_
    refine WP.iconst (v := 0) dX6_changed_25 rfl ?_
    refine WP.istore (lv2 := [(5, .int 0), (4, .int r9), (3, .int ((-1))), (2, .int r3), (0, .ref b), (1, .int x1)]) dX6_changed_26 (by decide) rfl ?_
    exact WP.pick [4, 5, 2, 1, 0] rfl h
  · have h := h.2 c6
    refine WP.aload_n 1 dX6_changed_10 rfl rfl ?_
    refine WP.iload_n 0 dX6_changed_11 rfl rfl ?_
    refine WP.callV (y := mX6_error) (As := [.int r3]) (st := []) dX6_changed_12 wm_X6_68 mw_X6_error rfl (Nat.le_of_ble_eq_true rfl) (rmok d) h5 (by decide) rfl h (fun v11 Sm12 h14 => ?_)
    obtain ⟨m12, rfl, r13, rfl, h⟩ := h14
    show WP G _ _ _ 0 0 15 [(2, .int r3), (0, .ref b), (1, .int x1)] [.int r13] (sh, ta, m12)
    exact WP.iret dX6_changed_15 rfl (Nat.le_refl _) (Nat.le_refl _) ⟨_, rfl, h⟩
set_option maxHeartbeats 4000000 in
set_option maxRecDepth 20000 in
theorem rg_X6_changed_28 (hG : fl G = false) (b : Nat) (x1 : Int32) (x3 : Int32) (x4 : Int32) (x5 : Int32) (h : sh[b]? = some (.inl 6) ∧ ∃ i2, ta b 0 = some i2 ∧ ∃ n5, sh[i2]? = some (.inr (0, n5)) ∧ InB 0 n5 ∧ (((rd (m i2) (0 : Int32)) ≤ x5 → ((¬ x3 = ((-1) : Int32) → K (some (.int x3)) m) ∧ (x3 = ((-1) : Int32) → Cal G mX6_error d [.ref b, .int 2] sh ta m (fun v9 m10 => ∃ r11, v9 = some (.int r11) ∧ K (some (.int r11)) m10)))) ∧ (¬ (rd (m i2) (0 : Int32)) ≤ x5 → WP G (rmD (d + 1) 0 0) mX6_changed (QC G sh ta K) 0 0 45 [(0, .ref b), (1, .int x1), (3, .int x3), (4, .int x4), (5, .int x5), (6, .int (x5 + 1))] [] (sh, ta, m)))) : WP G (rmD (d + 1) 0 0) mX6_changed (QC G sh ta K) 0 0 28 [(0, .ref b), (1, .int x1), (3, .int x3), (4, .int x4), (5, .int x5)] [] (sh, ta, m) := by
  refine WP.iload 4 dX6_changed_28 rfl ?_
  refine WP.aload_n 0 dX6_changed_30 rfl rfl ?_
  obtain ⟨h1, h⟩ := h
  obtain ⟨i2, h3, h⟩ := h
  refine WP.getR 6 0 wf_X6_7 (by decide) (by decide) rfl h1 h3 dX6_changed_31 ?_
  refine WP.iconst (v := 0) dX6_changed_34 rfl ?_
  obtain ⟨n5, h4, h⟩ := h
  obtain ⟨h6, h⟩ := h
  refine WP.iald h4 h6 dX6_changed_35 ?_
  refine WP.icmp_ge (tgt := 149) dX6_changed_36 (by decide) (fun c7 => ?_) (fun c7 => ?_)
  · have h := h.1 c7
    refine WP.iload_n 2 dX6_changed_149 rfl rfl ?_
    refine WP.iconst (v := (-1)) dX6_changed_150 rfl ?_
    refine WP.icmp_ne (tgt := 162) dX6_changed_151 (by decide) (fun c8 => ?_) (fun c8 => ?_)
    · have h := h.1 c8
      refine WP.iload_n 2 dX6_changed_162 rfl rfl ?_
      exact WP.iret dX6_changed_163 rfl (Nat.le_refl _) (Nat.le_refl _) ⟨_, rfl, h⟩
    · have h := h.2 c8
      refine WP.aload_n 0 dX6_changed_154 rfl rfl ?_
      refine WP.iconst (v := 2) dX6_changed_155 rfl ?_
      refine WP.callV (y := mX6_error) (As := [.int 2]) (st := []) dX6_changed_156 wm_X6_68 mw_X6_error rfl (Nat.le_of_ble_eq_true rfl) (rmok d) h1 (by decide) rfl h (fun v9 Sm10 h12 => ?_)
      obtain ⟨m10, rfl, r11, rfl, h⟩ := h12
      show WP G _ _ _ 0 0 159 [(0, .ref b), (1, .int x1), (3, .int x3), (4, .int x4), (5, .int x5)] [.int r11] (sh, ta, m10)
      refine WP.goto (tgt := 163) dX6_changed_159 (by decide) ?_
      exact WP.iret dX6_changed_163 rfl (Nat.le_refl _) (Nat.le_refl _) ⟨_, rfl, h⟩
  · have h := h.2 c7
    refine WP.iload 4 dX6_changed_39 rfl ?_
    refine WP.iconst (v := 1) dX6_changed_41 rfl ?_
    refine WP.iadd dX6_changed_42 ?_
    refine WP.istore (lv2 := [(6, .int (x5 + 1)), (0, .ref b), (1, .int x1), (3, .int x3), (4, .int x4), (5, .int x5)]) dX6_changed_43 (by decide) rfl ?_
    exact WP.pick [1, 2, 3, 4, 5, 0] rfl h
set_option maxHeartbeats 4000000 in
set_option maxRecDepth 20000 in
theorem rg_X6_changed_45 (hG : fl G = false) (b : Nat) (x1 : Int32) (x3 : Int32) (x4 : Int32) (x5 : Int32) (x6 : Int32) (h : sh[b]? = some (.inl 6) ∧ ∃ i2, ta b 0 = some i2 ∧ ∃ n5, sh[i2]? = some (.inr (0, n5)) ∧ InB 0 n5 ∧ (((rd (m i2) (0 : Int32)) ≤ x6 → WP G (rmD (d + 1) 0 0) mX6_changed (QC G sh ta K) 0 0 28 [(0, .ref b), (1, .int x1), (3, .int x3), (4, .int x4), (5, .int (x5 + 1))] [] (sh, ta, m)) ∧ (¬ (rd (m i2) (0 : Int32)) ≤ x6 → Cal G mX6_its d [.ref b, .int x5, .int 3] sh ta m (fun v8 m9 => ∃ r10, v8 = some (.int r10) ∧ ((r10 < 0 → WP G (rmD (d + 1) 0 0) mX6_changed (QC G sh ta K) 0 0 45 [(0, .ref b), (1, .int x1), (3, .int x3), (4, .int x4), (5, .int x5), (6, .int (x6 + 1))] [] (sh, ta, m9)) ∧ (¬ r10 < 0 → Cal G mX6_its d [.ref b, .int x6, .int 3] sh ta m9 (fun v13 m14 => ∃ r15, v13 = some (.int r15) ∧ ((r15 < 0 → WP G (rmD (d + 1) 0 0) mX6_changed (QC G sh ta K) 0 0 45 [(0, .ref b), (1, .int x1), (3, .int x3), (4, .int x4), (5, .int x5), (6, .int (x6 + 1))] [] (sh, ta, m14)) ∧ (¬ r15 < 0 → Cal G mX6_layDown d [.ref b, .int 1] sh ta m14 (fun v18 m19 => v18 = none ∧ Cal G mX6_changes d [.ref b, .int x5, .int x6] sh ta m19 (fun v22 m23 => v22 = none ∧ Cal G mX6_hauls d [.ref b, .int x1] sh ta m23 (fun v26 m27 => ∃ r28, v26 = some (.int r28) ∧ Cal G mX6_layBack d [.ref b, .int 1] sh ta m27 (fun v30 m31 => v30 = none ∧ ((x4 ≤ r28 → ((x4 ≤ r28 → WP G (rmD (d + 1) 0 0) mX6_changed (QC G sh ta K) 0 0 45 [(0, .ref b), (1, .int x1), (3, .int x3), (4, .int x4), (5, .int x5), (6, .int (x6 + 1))] [] (sh, ta, m31)) ∧ (¬ x4 ≤ r28 → WP G (rmD (d + 1) 0 0) mX6_changed (QC G sh ta K) 0 0 45 [(0, .ref b), (1, .int x1), (3, .int x3), (4, .int r28), (5, .int x5), (6, .int (x6 + 1))] [] (sh, ta, m31)))) ∧ (¬ x4 ≤ r28 → ((x4 ≤ r28 → WP G (rmD (d + 1) 0 0) mX6_changed (QC G sh ta K) 0 0 45 [(0, .ref b), (1, .int x1), (3, .int ((100 * x5) + x6)), (4, .int x4), (5, .int x5), (6, .int (x6 + 1))] [] (sh, ta, m31)) ∧ (¬ x4 ≤ r28 → WP G (rmD (d + 1) 0 0) mX6_changed (QC G sh ta K) 0 0 45 [(0, .ref b), (1, .int x1), (3, .int ((100 * x5) + x6)), (4, .int r28), (5, .int x5), (6, .int (x6 + 1))] [] (sh, ta, m31)))))))))))))))))) : WP G (rmD (d + 1) 0 0) mX6_changed (QC G sh ta K) 0 0 45 [(0, .ref b), (1, .int x1), (3, .int x3), (4, .int x4), (5, .int x5), (6, .int x6)] [] (sh, ta, m) := by
  refine WP.iload 5 dX6_changed_45 rfl ?_
  refine WP.aload_n 0 dX6_changed_47 rfl rfl ?_
  obtain ⟨h1, h⟩ := h
  obtain ⟨i2, h3, h⟩ := h
  refine WP.getR 6 0 wf_X6_7 (by decide) (by decide) rfl h1 h3 dX6_changed_48 ?_
  refine WP.iconst (v := 0) dX6_changed_51 rfl ?_
  obtain ⟨n5, h4, h⟩ := h
  obtain ⟨h6, h⟩ := h
  refine WP.iald h4 h6 dX6_changed_52 ?_
  refine WP.icmp_ge (tgt := 143) dX6_changed_53 (by decide) (fun c7 => ?_) (fun c7 => ?_)
  · have h := h.1 c7
    refine WP.iinc (lv2 := [(5, .int (x5 + 1)), (0, .ref b), (1, .int x1), (3, .int x3), (4, .int x4), (6, .int x6)]) 4 1 dX6_changed_143 rfl rfl (by decide) rfl ?_
    refine WP.goto (tgt := 28) dX6_changed_146 (by decide) ?_
    exact WP.pick [1, 2, 3, 4, 0] rfl h
  · have h := h.2 c7
    refine WP.aload_n 0 dX6_changed_56 rfl rfl ?_
    refine WP.iload 4 dX6_changed_57 rfl ?_
    refine WP.iconst (v := 3) dX6_changed_59 rfl ?_
    refine WP.callV (y := mX6_its) (As := [.int x5, .int 3]) (st := []) dX6_changed_60 wm_X6_62 mw_X6_its rfl (Nat.le_of_ble_eq_true rfl) (rmok d) h1 (by decide) rfl h (fun v8 Sm9 h11 => ?_)
    obtain ⟨m9, rfl, r10, rfl, h⟩ := h11
    show WP G _ _ _ 0 0 63 [(0, .ref b), (1, .int x1), (3, .int x3), (4, .int x4), (5, .int x5), (6, .int x6)] [.int r10] (sh, ta, m9)
    refine WP.if_lt (tgt := 137) dX6_changed_63 (by decide) (fun c12 => ?_) (fun c12 => ?_)
    · have h := h.1 c12
      refine WP.iinc (lv2 := [(6, .int (x6 + 1)), (0, .ref b), (1, .int x1), (3, .int x3), (4, .int x4), (5, .int x5)]) 5 1 dX6_changed_137 rfl rfl (by decide) rfl ?_
      refine WP.goto (tgt := 45) dX6_changed_140 (by decide) ?_
      exact WP.pick [1, 2, 3, 4, 5, 0] rfl h
    · have h := h.2 c12
      refine WP.aload_n 0 dX6_changed_66 rfl rfl ?_
      refine WP.iload 5 dX6_changed_67 rfl ?_
      refine WP.iconst (v := 3) dX6_changed_69 rfl ?_
      refine WP.callV (y := mX6_its) (As := [.int x6, .int 3]) (st := []) dX6_changed_70 wm_X6_62 mw_X6_its rfl (Nat.le_of_ble_eq_true rfl) (rmok d) h1 (by decide) rfl h (fun v13 Sm14 h16 => ?_)
      obtain ⟨m14, rfl, r15, rfl, h⟩ := h16
      show WP G _ _ _ 0 0 73 [(0, .ref b), (1, .int x1), (3, .int x3), (4, .int x4), (5, .int x5), (6, .int x6)] [.int r15] (sh, ta, m14)
      refine WP.if_lt (tgt := 137) dX6_changed_73 (by decide) (fun c17 => ?_) (fun c17 => ?_)
      · have h := h.1 c17
        refine WP.iinc (lv2 := [(6, .int (x6 + 1)), (0, .ref b), (1, .int x1), (3, .int x3), (4, .int x4), (5, .int x5)]) 5 1 dX6_changed_137 rfl rfl (by decide) rfl ?_
        refine WP.goto (tgt := 45) dX6_changed_140 (by decide) ?_
        exact WP.pick [1, 2, 3, 4, 5, 0] rfl h
      · have h := h.2 c17
        refine WP.aload_n 0 dX6_changed_76 rfl rfl ?_
        refine WP.iconst (v := 1) dX6_changed_77 rfl ?_
        refine WP.callV (y := mX6_layDown) (As := [.int 1]) (st := []) dX6_changed_78 wm_X6_196 mw_X6_layDown rfl (Nat.le_of_ble_eq_true rfl) (rmok d) h1 (by decide) rfl h (fun v18 Sm19 h21 => ?_)
        obtain ⟨m19, rfl, rfl, h⟩ := h21
        show WP G _ _ _ 0 0 81 [(0, .ref b), (1, .int x1), (3, .int x3), (4, .int x4), (5, .int x5), (6, .int x6)] [] (sh, ta, m19)
        refine WP.aload_n 0 dX6_changed_81 rfl rfl ?_
        refine WP.iload 4 dX6_changed_82 rfl ?_
        refine WP.iload 5 dX6_changed_84 rfl ?_
        refine WP.callV (y := mX6_changes) (As := [.int x5, .int x6]) (st := []) dX6_changed_86 wm_X6_215 mw_X6_changes rfl (Nat.le_of_ble_eq_true rfl) (rmok d) h1 (by decide) rfl h (fun v22 Sm23 h25 => ?_)
        obtain ⟨m23, rfl, rfl, h⟩ := h25
        show WP G _ _ _ 0 0 89 [(0, .ref b), (1, .int x1), (3, .int x3), (4, .int x4), (5, .int x5), (6, .int x6)] [] (sh, ta, m23)
        refine WP.aload_n 0 dX6_changed_89 rfl rfl ?_
        refine WP.iload_n 1 dX6_changed_90 rfl rfl ?_
        refine WP.callV (y := mX6_hauls) (As := [.int x1]) (st := []) dX6_changed_91 wm_X6_212 mw_X6_hauls rfl (Nat.le_of_ble_eq_true rfl) (rmok d) h1 (by decide) rfl h (fun v26 Sm27 h29 => ?_)
        obtain ⟨m27, rfl, r28, rfl, h⟩ := h29
        show WP G _ _ _ 0 0 94 [(0, .ref b), (1, .int x1), (3, .int x3), (4, .int x4), (5, .int x5), (6, .int x6)] [.int r28] (sh, ta, m27)
        refine WP.istore (lv2 := [(7, .int r28), (0, .ref b), (1, .int x1), (3, .int x3), (4, .int x4), (5, .int x5), (6, .int x6)]) dX6_changed_94 (by decide) rfl ?_
        refine WP.aload_n 1 dX6_changed_96 rfl rfl ?_
        refine WP.iconst (v := 1) dX6_changed_97 rfl ?_
        refine WP.callV (y := mX6_layBack) (As := [.int 1]) (st := []) dX6_changed_98 wm_X6_203 mw_X6_layBack rfl (Nat.le_of_ble_eq_true rfl) (rmok d) h1 (by decide) rfl h (fun v30 Sm31 h33 => ?_)
        obtain ⟨m31, rfl, rfl, h⟩ := h33
        show WP G _ _ _ 0 0 101 [(7, .int r28), (0, .ref b), (1, .int x1), (3, .int x3), (4, .int x4), (5, .int x5), (6, .int x6)] [] (sh, ta, m31)
        refine WP.iload 0 dX6_changed_101 rfl ?_
        refine WP.iload 4 dX6_changed_103 rfl ?_
        refine WP.icmp_ge (tgt := 119) dX6_changed_105 (by decide) (fun c34 => ?_) (fun c34 => ?_)
        · have h := h.1 c34
          refine WP.iload_n 3 dX6_changed_119 rfl rfl ?_
          refine WP.istore_n (lv2 := [(3, .int x3), (7, .int r28), (0, .ref b), (1, .int x1), (4, .int x4), (5, .int x5), (6, .int x6)]) dX6_changed_120 rfl (by decide) rfl ?_
          refine WP.iload 1 dX6_changed_121 rfl ?_
          refine WP.iload 4 dX6_changed_123 rfl ?_
          refine WP.icmp_ge (tgt := 133) dX6_changed_125 (by decide) (fun c35 => ?_) (fun c35 => ?_)
          · have h := h.1 c35
            refine WP.iload 4 dX6_changed_133 rfl ?_
            refine WP.istore (lv2 := [(4, .int x4), (3, .int x3), (7, .int r28), (0, .ref b), (1, .int x1), (5, .int x5), (6, .int x6)]) dX6_changed_135 (by decide) rfl ?_
            refine WP.iinc (lv2 := [(6, .int (x6 + 1)), (4, .int x4), (3, .int x3), (7, .int r28), (0, .ref b), (1, .int x1), (5, .int x5)]) 6 1 dX6_changed_137 rfl rfl (by decide) rfl ?_
            refine WP.goto (tgt := 45) dX6_changed_140 (by decide) ?_
            exact WP.pick [4, 5, 2, 1, 6, 0] rfl h
          · have h := h.2 c35
            refine WP.iload 1 dX6_changed_128 rfl ?_
            refine WP.goto (tgt := 135) dX6_changed_130 (by decide) ?_
            refine WP.istore (lv2 := [(4, .int r28), (3, .int x3), (7, .int r28), (0, .ref b), (1, .int x1), (5, .int x5), (6, .int x6)]) dX6_changed_135 (by decide) rfl ?_
            refine WP.iinc (lv2 := [(6, .int (x6 + 1)), (4, .int r28), (3, .int x3), (7, .int r28), (0, .ref b), (1, .int x1), (5, .int x5)]) 6 1 dX6_changed_137 rfl rfl (by decide) rfl ?_
            refine WP.goto (tgt := 45) dX6_changed_140 (by decide) ?_
            exact WP.pick [4, 5, 2, 1, 6, 0] rfl h
        · have h := h.2 c34
          refine WP.bipush (v := 100) dX6_changed_108 rfl ?_
          refine WP.iload 5 dX6_changed_110 rfl ?_
          refine WP.imul dX6_changed_112 ?_
          refine WP.iload 6 dX6_changed_113 rfl ?_
          refine WP.iadd dX6_changed_115 ?_
          refine WP.goto (tgt := 120) dX6_changed_116 (by decide) ?_
          refine WP.istore_n (lv2 := [(3, .int ((100 * x5) + x6)), (7, .int r28), (0, .ref b), (1, .int x1), (4, .int x4), (5, .int x5), (6, .int x6)]) dX6_changed_120 rfl (by decide) rfl ?_
          refine WP.iload 1 dX6_changed_121 rfl ?_
          refine WP.iload 4 dX6_changed_123 rfl ?_
          refine WP.icmp_ge (tgt := 133) dX6_changed_125 (by decide) (fun c36 => ?_) (fun c36 => ?_)
          · have h := h.1 c36
            refine WP.iload 4 dX6_changed_133 rfl ?_
            refine WP.istore (lv2 := [(4, .int x4), (3, .int ((100 * x5) + x6)), (7, .int r28), (0, .ref b), (1, .int x1), (5, .int x5), (6, .int x6)]) dX6_changed_135 (by decide) rfl ?_
            refine WP.iinc (lv2 := [(6, .int (x6 + 1)), (4, .int x4), (3, .int ((100 * x5) + x6)), (7, .int r28), (0, .ref b), (1, .int x1), (5, .int x5)]) 6 1 dX6_changed_137 rfl rfl (by decide) rfl ?_
            refine WP.goto (tgt := 45) dX6_changed_140 (by decide) ?_
            exact WP.pick [4, 5, 2, 1, 6, 0] rfl h
          · have h := h.2 c36
            refine WP.iload 1 dX6_changed_128 rfl ?_
            refine WP.goto (tgt := 135) dX6_changed_130 (by decide) ?_
            refine WP.istore (lv2 := [(4, .int r28), (3, .int ((100 * x5) + x6)), (7, .int r28), (0, .ref b), (1, .int x1), (5, .int x5), (6, .int x6)]) dX6_changed_135 (by decide) rfl ?_
            refine WP.iinc (lv2 := [(6, .int (x6 + 1)), (4, .int r28), (3, .int ((100 * x5) + x6)), (7, .int r28), (0, .ref b), (1, .int x1), (5, .int x5)]) 6 1 dX6_changed_137 rfl rfl (by decide) rfl ?_
            refine WP.goto (tgt := 45) dX6_changed_140 (by decide) ?_
            exact WP.pick [4, 5, 2, 1, 6, 0] rfl h
set_option maxHeartbeats 4000000 in
set_option maxRecDepth 20000 in
theorem rg_X6_fits_0 (hG : fl G = false) (b : Nat) (x1 : Int32) (x2 : Int32) (h : WP G (rmD (d + 1) 0 0) mX6_fits (QC G sh ta K) 0 0 5 [(0, .ref b), (1, .int x1), (2, .int x2), (3, .int 1), (4, .int 0)] [] (sh, ta, m)) : WP G (rmD (d + 1) 0 0) mX6_fits (QC G sh ta K) 0 0 0 [(0, .ref b), (1, .int x1), (2, .int x2)] [] (sh, ta, m) := by
  refine WP.iconst (v := 1) dX6_fits_0 rfl ?_
  refine WP.istore_n (lv2 := [(3, .int 1), (0, .ref b), (1, .int x1), (2, .int x2)]) dX6_fits_1 rfl (by decide) rfl ?_
  refine WP.iconst (v := 0) dX6_fits_2 rfl ?_
  refine WP.istore (lv2 := [(4, .int 0), (3, .int 1), (0, .ref b), (1, .int x1), (2, .int x2)]) dX6_fits_3 (by decide) rfl ?_
  exact WP.pick [2, 3, 4, 1, 0] rfl h
set_option maxHeartbeats 4000000 in
set_option maxRecDepth 20000 in
theorem rg_X6_fits_5 (hG : fl G = false) (b : Nat) (x1 : Int32) (x2 : Int32) (x3 : Int32) (x4 : Int32) (h : sh[b]? = some (.inl 6) ∧ ∃ i2, ta b 19 = some i2 ∧ ∃ n5, sh[i2]? = some (.inr (0, n5)) ∧ InB x1 n5 ∧ (((rd (m i2) x1) ≤ ((2 * x4) + 1) → isB x3 ∧ K (some (.int x3)) m) ∧ (¬ (rd (m i2) x1) ≤ ((2 * x4) + 1) → ∃ i9, ta b 20 = some i9 ∧ ∃ n12, sh[i9]? = some (.inr (0, n12)) ∧ InB ((24 * x1) + (2 * x4)) n12 ∧ ∃ i14, ta b 0 = some i14 ∧ ∃ n17, sh[i14]? = some (.inr (0, n17)) ∧ InB 4 n17 ∧ Cal G mX6_held d [.int (x2 - (x4 * (rd (m i14) (4 : Int32)))), .int 0, .int 99] sh ta m (fun v19 m20 => ∃ r21, v19 = some (.int r21) ∧ ((r21 < (rd (m i9) ((24 * x1) + (2 * x4))) → (((2 * r21) < (rd (m i9) ((24 * x1) + (2 * x4))) → ((x3 = 0 → WP G (rmD (d + 1) 0 0) mX6_fits (QC G sh ta K) 0 0 5 [(0, .ref b), (1, .int x1), (2, .int x2), (3, .int 0), (4, .int (x4 + 1))] [] (sh, ta, m20)) ∧ (¬ x3 = 0 → InB (((24 * x1) + (2 * x4)) + 1) n12 ∧ ((¬ (rd (m20 i9) (((24 * x1) + (2 * x4)) + 1)) = (0 : Int32) → WP G (rmD (d + 1) 0 0) mX6_fits (QC G sh ta K) 0 0 5 [(0, .ref b), (1, .int x1), (2, .int x2), (3, .int 0), (4, .int (x4 + 1))] [] (sh, ta, m20)) ∧ ((rd (m20 i9) (((24 * x1) + (2 * x4)) + 1)) = (0 : Int32) → WP G (rmD (d + 1) 0 0) mX6_fits (QC G sh ta K) 0 0 5 [(0, .ref b), (1, .int x1), (2, .int x2), (3, .int 1), (4, .int (x4 + 1))] [] (sh, ta, m20)))))) ∧ (¬ (2 * r21) < (rd (m i9) ((24 * x1) + (2 * x4))) → ((x3 = 0 → WP G (rmD (d + 1) 0 0) mX6_fits (QC G sh ta K) 0 0 5 [(0, .ref b), (1, .int x1), (2, .int x2), (3, .int 0), (4, .int (x4 + 1))] [] (sh, ta, m20)) ∧ (¬ x3 = 0 → InB (((24 * x1) + (2 * x4)) + 1) n12 ∧ ((¬ (rd (m20 i9) (((24 * x1) + (2 * x4)) + 1)) = (1 : Int32) → WP G (rmD (d + 1) 0 0) mX6_fits (QC G sh ta K) 0 0 5 [(0, .ref b), (1, .int x1), (2, .int x2), (3, .int 0), (4, .int (x4 + 1))] [] (sh, ta, m20)) ∧ ((rd (m20 i9) (((24 * x1) + (2 * x4)) + 1)) = (1 : Int32) → WP G (rmD (d + 1) 0 0) mX6_fits (QC G sh ta K) 0 0 5 [(0, .ref b), (1, .int x1), (2, .int x2), (3, .int 1), (4, .int (x4 + 1))] [] (sh, ta, m20)))))))) ∧ (¬ r21 < (rd (m i9) ((24 * x1) + (2 * x4))) → ((x3 = 0 → WP G (rmD (d + 1) 0 0) mX6_fits (QC G sh ta K) 0 0 5 [(0, .ref b), (1, .int x1), (2, .int x2), (3, .int 0), (4, .int (x4 + 1))] [] (sh, ta, m20)) ∧ (¬ x3 = 0 → InB (((24 * x1) + (2 * x4)) + 1) n12 ∧ ((¬ (rd (m20 i9) (((24 * x1) + (2 * x4)) + 1)) = (2 : Int32) → WP G (rmD (d + 1) 0 0) mX6_fits (QC G sh ta K) 0 0 5 [(0, .ref b), (1, .int x1), (2, .int x2), (3, .int 0), (4, .int (x4 + 1))] [] (sh, ta, m20)) ∧ ((rd (m20 i9) (((24 * x1) + (2 * x4)) + 1)) = (2 : Int32) → WP G (rmD (d + 1) 0 0) mX6_fits (QC G sh ta K) 0 0 5 [(0, .ref b), (1, .int x1), (2, .int x2), (3, .int 1), (4, .int (x4 + 1))] [] (sh, ta, m20))))))))))) : WP G (rmD (d + 1) 0 0) mX6_fits (QC G sh ta K) 0 0 5 [(0, .ref b), (1, .int x1), (2, .int x2), (3, .int x3), (4, .int x4)] [] (sh, ta, m) := by
  refine WP.iconst (v := 2) dX6_fits_5 rfl ?_
  refine WP.iload 4 dX6_fits_6 rfl ?_
  refine WP.imul dX6_fits_8 ?_
  refine WP.iconst (v := 1) dX6_fits_9 rfl ?_
  refine WP.iadd dX6_fits_10 ?_
  refine WP.aload_n 0 dX6_fits_11 rfl rfl ?_
  obtain ⟨h1, h⟩ := h
  obtain ⟨i2, h3, h⟩ := h
  refine WP.getR 6 19 wf_X6_40 (by decide) (by decide) rfl h1 h3 dX6_fits_12 ?_
  refine WP.iload_n 1 dX6_fits_15 rfl rfl ?_
  obtain ⟨n5, h4, h⟩ := h
  obtain ⟨h6, h⟩ := h
  refine WP.iald h4 h6 dX6_fits_16 ?_
  refine WP.icmp_ge (tgt := 119) dX6_fits_17 (by decide) (fun c7 => ?_) (fun c7 => ?_)
  · have h := h.1 c7
    refine WP.iload_n 3 dX6_fits_119 rfl rfl ?_
    obtain ⟨h8, h⟩ := h
    exact WP.zret dX6_fits_120 rfl (Nat.le_refl _) (Nat.le_refl _) h8.n ⟨_, rfl, h⟩
  · have h := h.2 c7
    refine WP.aload_n 0 dX6_fits_20 rfl rfl ?_
    obtain ⟨i9, h10, h⟩ := h
    refine WP.getR 6 20 wf_X6_43 (by decide) (by decide) rfl h1 h10 dX6_fits_21 ?_
    refine WP.bipush (v := 24) dX6_fits_24 rfl ?_
    refine WP.iload_n 1 dX6_fits_26 rfl rfl ?_
    refine WP.imul dX6_fits_27 ?_
    refine WP.iconst (v := 2) dX6_fits_28 rfl ?_
    refine WP.iload 4 dX6_fits_29 rfl ?_
    refine WP.imul dX6_fits_31 ?_
    refine WP.iadd dX6_fits_32 ?_
    obtain ⟨n12, h11, h⟩ := h
    obtain ⟨h13, h⟩ := h
    refine WP.iald h11 h13 dX6_fits_33 ?_
    refine WP.istore (lv2 := [(5, .int (rd (m i9) ((24 * x1) + (2 * x4)))), (0, .ref b), (1, .int x1), (2, .int x2), (3, .int x3), (4, .int x4)]) dX6_fits_34 (by decide) rfl ?_
    refine WP.iload_n 3 dX6_fits_36 rfl rfl ?_
    refine WP.iload 5 dX6_fits_37 rfl ?_
    refine WP.aload_n 1 dX6_fits_39 rfl rfl ?_
    obtain ⟨i14, h15, h⟩ := h
    refine WP.getR 6 0 wf_X6_7 (by decide) (by decide) rfl h1 h15 dX6_fits_40 ?_
    refine WP.iconst (v := 4) dX6_fits_43 rfl ?_
    obtain ⟨n17, h16, h⟩ := h
    obtain ⟨h18, h⟩ := h
    refine WP.iald h16 h18 dX6_fits_44 ?_
    refine WP.imul dX6_fits_45 ?_
    refine WP.isub dX6_fits_46 ?_
    refine WP.iconst (v := 0) dX6_fits_47 rfl ?_
    refine WP.bipush (v := 99) dX6_fits_48 rfl ?_
    refine WP.callS (y := mX6_held) (As := [.int (x2 - (x4 * (rd (m i14) (4 : Int32)))), .int 0, .int 99]) (st := []) dX6_fits_50 wm_X6_139 mw_X6_held rfl (Nat.le_of_ble_eq_true rfl) (rmok d) rfl h (fun v19 Sm20 h22 => ?_)
    obtain ⟨m20, rfl, r21, rfl, h⟩ := h22
    show WP G _ _ _ 0 0 53 [(5, .int (rd (m i9) ((24 * x1) + (2 * x4)))), (0, .ref b), (1, .int x1), (2, .int x2), (3, .int x3), (4, .int x4)] [.int r21] (sh, ta, m20)
    refine WP.istore (lv2 := [(6, .int r21), (5, .int (rd (m i9) ((24 * x1) + (2 * x4)))), (0, .ref b), (1, .int x1), (2, .int x2), (3, .int x3), (4, .int x4)]) dX6_fits_53 (by decide) rfl ?_
    refine WP.iload 0 dX6_fits_55 rfl ?_
    refine WP.iload 1 dX6_fits_57 rfl ?_
    refine WP.icmp_lt (tgt := 66) dX6_fits_59 (by decide) (fun c23 => ?_) (fun c23 => ?_)
    · have h := h.1 c23
      refine WP.iconst (v := 2) dX6_fits_66 rfl ?_
      refine WP.iload 0 dX6_fits_67 rfl ?_
      refine WP.imul dX6_fits_69 ?_
      refine WP.iload 1 dX6_fits_70 rfl ?_
      refine WP.icmp_lt (tgt := 79) dX6_fits_72 (by decide) (fun c24 => ?_) (fun c24 => ?_)
      · have h := h.1 c24
        refine WP.iconst (v := 0) dX6_fits_79 rfl ?_
        refine WP.istore (lv2 := [(7, .int 0), (6, .int r21), (5, .int (rd (m i9) ((24 * x1) + (2 * x4)))), (0, .ref b), (1, .int x1), (2, .int x2), (3, .int x3), (4, .int x4)]) dX6_fits_80 (by decide) rfl ?_
        refine WP.iload_n 6 dX6_fits_82 rfl rfl ?_
        refine WP.if_eq (tgt := 111) dX6_fits_83 (by decide) (fun c25 => ?_) (fun c25 => ?_)
        · have h := h.1 c25
          refine WP.iconst (v := 0) dX6_fits_111 rfl ?_
          refine WP.istore_n (lv2 := [(3, .int 0), (7, .int 0), (6, .int r21), (5, .int (rd (m i9) ((24 * x1) + (2 * x4)))), (0, .ref b), (1, .int x1), (2, .int x2), (4, .int x4)]) dX6_fits_112 rfl (by decide) rfl ?_
          refine WP.iinc (lv2 := [(4, .int (x4 + 1)), (3, .int 0), (7, .int 0), (6, .int r21), (5, .int (rd (m i9) ((24 * x1) + (2 * x4)))), (0, .ref b), (1, .int x1), (2, .int x2)]) 7 1 dX6_fits_113 rfl rfl (by decide) rfl ?_
          refine WP.goto (tgt := 5) dX6_fits_116 (by decide) ?_
          exact WP.pick [5, 6, 7, 1, 0] rfl h
        · have h := h.2 c25
          refine WP.aload_n 3 dX6_fits_86 rfl rfl ?_
          refine WP.getR 6 20 wf_X6_43 (by decide) (by decide) rfl h1 h10 dX6_fits_87 ?_
          refine WP.bipush (v := 24) dX6_fits_90 rfl ?_
          refine WP.iload_n 4 dX6_fits_92 rfl rfl ?_
          refine WP.imul dX6_fits_93 ?_
          refine WP.iconst (v := 2) dX6_fits_94 rfl ?_
          refine WP.iload 7 dX6_fits_95 rfl ?_
          refine WP.imul dX6_fits_97 ?_
          refine WP.iadd dX6_fits_98 ?_
          refine WP.iconst (v := 1) dX6_fits_99 rfl ?_
          refine WP.iadd dX6_fits_100 ?_
          obtain ⟨h26, h⟩ := h
          refine WP.iald h11 h26 dX6_fits_101 ?_
          refine WP.iload 0 dX6_fits_102 rfl ?_
          refine WP.icmp_ne (tgt := 111) dX6_fits_104 (by decide) (fun c27 => ?_) (fun c27 => ?_)
          · have h := h.1 c27
            refine WP.iconst (v := 0) dX6_fits_111 rfl ?_
            refine WP.istore_n (lv2 := [(3, .int 0), (7, .int 0), (6, .int r21), (5, .int (rd (m i9) ((24 * x1) + (2 * x4)))), (0, .ref b), (1, .int x1), (2, .int x2), (4, .int x4)]) dX6_fits_112 rfl (by decide) rfl ?_
            refine WP.iinc (lv2 := [(4, .int (x4 + 1)), (3, .int 0), (7, .int 0), (6, .int r21), (5, .int (rd (m i9) ((24 * x1) + (2 * x4)))), (0, .ref b), (1, .int x1), (2, .int x2)]) 7 1 dX6_fits_113 rfl rfl (by decide) rfl ?_
            refine WP.goto (tgt := 5) dX6_fits_116 (by decide) ?_
            exact WP.pick [5, 6, 7, 1, 0] rfl h
          · have h := h.2 c27
            refine WP.iconst (v := 1) dX6_fits_107 rfl ?_
            refine WP.goto (tgt := 112) dX6_fits_108 (by decide) ?_
            refine WP.istore_n (lv2 := [(3, .int 1), (7, .int 0), (6, .int r21), (5, .int (rd (m i9) ((24 * x1) + (2 * x4)))), (0, .ref b), (1, .int x1), (2, .int x2), (4, .int x4)]) dX6_fits_112 rfl (by decide) rfl ?_
            refine WP.iinc (lv2 := [(4, .int (x4 + 1)), (3, .int 1), (7, .int 0), (6, .int r21), (5, .int (rd (m i9) ((24 * x1) + (2 * x4)))), (0, .ref b), (1, .int x1), (2, .int x2)]) 7 1 dX6_fits_113 rfl rfl (by decide) rfl ?_
            refine WP.goto (tgt := 5) dX6_fits_116 (by decide) ?_
            exact WP.pick [5, 6, 7, 1, 0] rfl h
      · have h := h.2 c24
        refine WP.iconst (v := 1) dX6_fits_75 rfl ?_
        refine WP.goto (tgt := 80) dX6_fits_76 (by decide) ?_
        refine WP.istore (lv2 := [(7, .int 1), (6, .int r21), (5, .int (rd (m i9) ((24 * x1) + (2 * x4)))), (0, .ref b), (1, .int x1), (2, .int x2), (3, .int x3), (4, .int x4)]) dX6_fits_80 (by decide) rfl ?_
        refine WP.iload_n 6 dX6_fits_82 rfl rfl ?_
        refine WP.if_eq (tgt := 111) dX6_fits_83 (by decide) (fun c28 => ?_) (fun c28 => ?_)
        · have h := h.1 c28
          refine WP.iconst (v := 0) dX6_fits_111 rfl ?_
          refine WP.istore_n (lv2 := [(3, .int 0), (7, .int 1), (6, .int r21), (5, .int (rd (m i9) ((24 * x1) + (2 * x4)))), (0, .ref b), (1, .int x1), (2, .int x2), (4, .int x4)]) dX6_fits_112 rfl (by decide) rfl ?_
          refine WP.iinc (lv2 := [(4, .int (x4 + 1)), (3, .int 0), (7, .int 1), (6, .int r21), (5, .int (rd (m i9) ((24 * x1) + (2 * x4)))), (0, .ref b), (1, .int x1), (2, .int x2)]) 7 1 dX6_fits_113 rfl rfl (by decide) rfl ?_
          refine WP.goto (tgt := 5) dX6_fits_116 (by decide) ?_
          exact WP.pick [5, 6, 7, 1, 0] rfl h
        · have h := h.2 c28
          refine WP.aload_n 3 dX6_fits_86 rfl rfl ?_
          refine WP.getR 6 20 wf_X6_43 (by decide) (by decide) rfl h1 h10 dX6_fits_87 ?_
          refine WP.bipush (v := 24) dX6_fits_90 rfl ?_
          refine WP.iload_n 4 dX6_fits_92 rfl rfl ?_
          refine WP.imul dX6_fits_93 ?_
          refine WP.iconst (v := 2) dX6_fits_94 rfl ?_
          refine WP.iload 7 dX6_fits_95 rfl ?_
          refine WP.imul dX6_fits_97 ?_
          refine WP.iadd dX6_fits_98 ?_
          refine WP.iconst (v := 1) dX6_fits_99 rfl ?_
          refine WP.iadd dX6_fits_100 ?_
          obtain ⟨h29, h⟩ := h
          refine WP.iald h11 h29 dX6_fits_101 ?_
          refine WP.iload 0 dX6_fits_102 rfl ?_
          refine WP.icmp_ne (tgt := 111) dX6_fits_104 (by decide) (fun c30 => ?_) (fun c30 => ?_)
          · have h := h.1 c30
            refine WP.iconst (v := 0) dX6_fits_111 rfl ?_
            refine WP.istore_n (lv2 := [(3, .int 0), (7, .int 1), (6, .int r21), (5, .int (rd (m i9) ((24 * x1) + (2 * x4)))), (0, .ref b), (1, .int x1), (2, .int x2), (4, .int x4)]) dX6_fits_112 rfl (by decide) rfl ?_
            refine WP.iinc (lv2 := [(4, .int (x4 + 1)), (3, .int 0), (7, .int 1), (6, .int r21), (5, .int (rd (m i9) ((24 * x1) + (2 * x4)))), (0, .ref b), (1, .int x1), (2, .int x2)]) 7 1 dX6_fits_113 rfl rfl (by decide) rfl ?_
            refine WP.goto (tgt := 5) dX6_fits_116 (by decide) ?_
            exact WP.pick [5, 6, 7, 1, 0] rfl h
          · have h := h.2 c30
            refine WP.iconst (v := 1) dX6_fits_107 rfl ?_
            refine WP.goto (tgt := 112) dX6_fits_108 (by decide) ?_
            refine WP.istore_n (lv2 := [(3, .int 1), (7, .int 1), (6, .int r21), (5, .int (rd (m i9) ((24 * x1) + (2 * x4)))), (0, .ref b), (1, .int x1), (2, .int x2), (4, .int x4)]) dX6_fits_112 rfl (by decide) rfl ?_
            refine WP.iinc (lv2 := [(4, .int (x4 + 1)), (3, .int 1), (7, .int 1), (6, .int r21), (5, .int (rd (m i9) ((24 * x1) + (2 * x4)))), (0, .ref b), (1, .int x1), (2, .int x2)]) 7 1 dX6_fits_113 rfl rfl (by decide) rfl ?_
            refine WP.goto (tgt := 5) dX6_fits_116 (by decide) ?_
            exact WP.pick [5, 6, 7, 1, 0] rfl h
    · have h := h.2 c23
      refine WP.iconst (v := 2) dX6_fits_62 rfl ?_
      refine WP.goto (tgt := 80) dX6_fits_63 (by decide) ?_
      refine WP.istore (lv2 := [(7, .int 2), (6, .int r21), (5, .int (rd (m i9) ((24 * x1) + (2 * x4)))), (0, .ref b), (1, .int x1), (2, .int x2), (3, .int x3), (4, .int x4)]) dX6_fits_80 (by decide) rfl ?_
      refine WP.iload_n 6 dX6_fits_82 rfl rfl ?_
      refine WP.if_eq (tgt := 111) dX6_fits_83 (by decide) (fun c31 => ?_) (fun c31 => ?_)
      · have h := h.1 c31
        refine WP.iconst (v := 0) dX6_fits_111 rfl ?_
        refine WP.istore_n (lv2 := [(3, .int 0), (7, .int 2), (6, .int r21), (5, .int (rd (m i9) ((24 * x1) + (2 * x4)))), (0, .ref b), (1, .int x1), (2, .int x2), (4, .int x4)]) dX6_fits_112 rfl (by decide) rfl ?_
        refine WP.iinc (lv2 := [(4, .int (x4 + 1)), (3, .int 0), (7, .int 2), (6, .int r21), (5, .int (rd (m i9) ((24 * x1) + (2 * x4)))), (0, .ref b), (1, .int x1), (2, .int x2)]) 7 1 dX6_fits_113 rfl rfl (by decide) rfl ?_
        refine WP.goto (tgt := 5) dX6_fits_116 (by decide) ?_
        exact WP.pick [5, 6, 7, 1, 0] rfl h
      · have h := h.2 c31
        refine WP.aload_n 3 dX6_fits_86 rfl rfl ?_
        refine WP.getR 6 20 wf_X6_43 (by decide) (by decide) rfl h1 h10 dX6_fits_87 ?_
        refine WP.bipush (v := 24) dX6_fits_90 rfl ?_
        refine WP.iload_n 4 dX6_fits_92 rfl rfl ?_
        refine WP.imul dX6_fits_93 ?_
        refine WP.iconst (v := 2) dX6_fits_94 rfl ?_
        refine WP.iload 7 dX6_fits_95 rfl ?_
        refine WP.imul dX6_fits_97 ?_
        refine WP.iadd dX6_fits_98 ?_
        refine WP.iconst (v := 1) dX6_fits_99 rfl ?_
        refine WP.iadd dX6_fits_100 ?_
        obtain ⟨h32, h⟩ := h
        refine WP.iald h11 h32 dX6_fits_101 ?_
        refine WP.iload 0 dX6_fits_102 rfl ?_
        refine WP.icmp_ne (tgt := 111) dX6_fits_104 (by decide) (fun c33 => ?_) (fun c33 => ?_)
        · have h := h.1 c33
          refine WP.iconst (v := 0) dX6_fits_111 rfl ?_
          refine WP.istore_n (lv2 := [(3, .int 0), (7, .int 2), (6, .int r21), (5, .int (rd (m i9) ((24 * x1) + (2 * x4)))), (0, .ref b), (1, .int x1), (2, .int x2), (4, .int x4)]) dX6_fits_112 rfl (by decide) rfl ?_
          refine WP.iinc (lv2 := [(4, .int (x4 + 1)), (3, .int 0), (7, .int 2), (6, .int r21), (5, .int (rd (m i9) ((24 * x1) + (2 * x4)))), (0, .ref b), (1, .int x1), (2, .int x2)]) 7 1 dX6_fits_113 rfl rfl (by decide) rfl ?_
          refine WP.goto (tgt := 5) dX6_fits_116 (by decide) ?_
          exact WP.pick [5, 6, 7, 1, 0] rfl h
        · have h := h.2 c33
          refine WP.iconst (v := 1) dX6_fits_107 rfl ?_
          refine WP.goto (tgt := 112) dX6_fits_108 (by decide) ?_
          refine WP.istore_n (lv2 := [(3, .int 1), (7, .int 2), (6, .int r21), (5, .int (rd (m i9) ((24 * x1) + (2 * x4)))), (0, .ref b), (1, .int x1), (2, .int x2), (4, .int x4)]) dX6_fits_112 rfl (by decide) rfl ?_
          refine WP.iinc (lv2 := [(4, .int (x4 + 1)), (3, .int 1), (7, .int 2), (6, .int r21), (5, .int (rd (m i9) ((24 * x1) + (2 * x4)))), (0, .ref b), (1, .int x1), (2, .int x2)]) 7 1 dX6_fits_113 rfl rfl (by decide) rfl ?_
          refine WP.goto (tgt := 5) dX6_fits_116 (by decide) ?_
          exact WP.pick [5, 6, 7, 1, 0] rfl h
set_option maxHeartbeats 4000000 in
set_option maxRecDepth 20000 in
theorem rg_X6_springs_0 (hG : fl G = false) (b : Nat) (x1 : Int32) (x2 : Int32) (h : Cal G mX6_in d [.int x2, .int 0, .int 1] sh ta m (fun v1 m2 => ∃ r3, v1 = some (.int r3) ∧ ((r3 = 0 → sh[b]? = some (.inl 6) ∧ Cal G mX6_error d [.ref b, .int 1] sh ta m2 (fun v7 m8 => ∃ r9, v7 = some (.int r9) ∧ K (some (.int r9)) m8)) ∧ (¬ r3 = 0 → sh[b]? = some (.inl 6) ∧ Cal G mX6_lacks d [.ref b, .int x1] sh ta m2 (fun v12 m13 => ∃ r14, v12 = some (.int r14) ∧ ((r14 ≤ 0 → WP G (rmD (d + 1) 0 0) mX6_springs (QC G sh ta K) 0 0 39 [(0, .ref b), (1, .int x1), (2, .int x2), (4, .int 0), (5, .int ((-1))), (6, .int 99)] [] (sh, ta, m13)) ∧ (¬ r14 ≤ 0 → Cal G mX6_error d [.ref b, .int r14] sh ta m13 (fun v18 m19 => ∃ r20, v18 = some (.int r20) ∧ K (some (.int r20)) m19)))))))) : WP G (rmD (d + 1) 0 0) mX6_springs (QC G sh ta K) 0 0 0 [(0, .ref b), (1, .int x1), (2, .int x2)] [] (sh, ta, m) := by
  refine WP.iload_n 2 dX6_springs_0 rfl rfl ?_
  refine WP.iconst (v := 0) dX6_springs_1 rfl ?_
  refine WP.iconst (v := 1) dX6_springs_2 rfl ?_
  refine WP.callS (y := mX6_in) (As := [.int x2, .int 0, .int 1]) (st := []) dX6_springs_3 wm_X6_50 mw_X6_in rfl (Nat.le_of_ble_eq_true rfl) (rmok d) rfl h (fun v1 Sm2 h4 => ?_)
  obtain ⟨m2, rfl, r3, rfl, h⟩ := h4
  show WP G _ _ _ 0 0 6 [(0, .ref b), (1, .int x1), (2, .int x2)] [.int r3] (sh, ta, m2)
  refine WP.if_eq (tgt := 17) dX6_springs_6 (by decide) (fun c5 => ?_) (fun c5 => ?_)
  · have h := h.1 c5
    refine WP.iconst (v := 1) dX6_springs_17 rfl ?_
    refine WP.istore_n (lv2 := [(3, .int 1), (0, .ref b), (1, .int x1), (2, .int x2)]) dX6_springs_18 rfl (by decide) rfl ?_
    refine WP.iload_n 0 dX6_springs_19 rfl rfl ?_
    refine WP.if_le (tgt := 29) dX6_springs_20 (by decide) (fun c6 => absurd c6 (by decide)) (fun _ => ?_)
    refine WP.aload_n 1 dX6_springs_23 rfl rfl ?_
    refine WP.iload_n 0 dX6_springs_24 rfl rfl ?_
    obtain ⟨h11, h⟩ := h
    refine WP.callV (y := mX6_error) (As := [.int 1]) (st := []) dX6_springs_25 wm_X6_68 mw_X6_error rfl (Nat.le_of_ble_eq_true rfl) (rmok d) h11 (by decide) rfl h (fun v7 Sm8 h10 => ?_)
    obtain ⟨m8, rfl, r9, rfl, h⟩ := h10
    show WP G _ _ _ 0 0 28 [(3, .int 1), (0, .ref b), (1, .int x1), (2, .int x2)] [.int r9] (sh, ta, m8)
    exact WP.iret dX6_springs_28 rfl (Nat.le_refl _) (Nat.le_refl _) ⟨_, rfl, h⟩
  · have h := h.2 c5
    refine WP.aload_n 0 dX6_springs_9 rfl rfl ?_
    refine WP.iload_n 1 dX6_springs_10 rfl rfl ?_
    obtain ⟨h16, h⟩ := h
    refine WP.callV (y := mX6_lacks) (As := [.int x1]) (st := []) dX6_springs_11 wm_X6_186 mw_X6_lacks rfl (Nat.le_of_ble_eq_true rfl) (rmok d) h16 (by decide) rfl h (fun v12 Sm13 h15 => ?_)
    obtain ⟨m13, rfl, r14, rfl, h⟩ := h15
    show WP G _ _ _ 0 0 14 [(0, .ref b), (1, .int x1), (2, .int x2)] [.int r14] (sh, ta, m13)
    refine WP.goto (tgt := 18) dX6_springs_14 (by decide) ?_
    refine WP.istore_n (lv2 := [(3, .int r14), (0, .ref b), (1, .int x1), (2, .int x2)]) dX6_springs_18 rfl (by decide) rfl ?_
    refine WP.iload_n 0 dX6_springs_19 rfl rfl ?_
    refine WP.if_le (tgt := 29) dX6_springs_20 (by decide) (fun c17 => ?_) (fun c17 => ?_)
    · have h := h.1 c17
      refine WP.iconst (v := 0) dX6_springs_29 rfl ?_
      refine WP.istore (lv2 := [(4, .int 0), (3, .int r14), (0, .ref b), (1, .int x1), (2, .int x2)]) dX6_springs_30 (by decide) rfl ?_
      refine WP.iconst (v := (-1)) dX6_springs_32 rfl ?_
      refine WP.istore (lv2 := [(5, .int ((-1))), (4, .int 0), (3, .int r14), (0, .ref b), (1, .int x1), (2, .int x2)]) dX6_springs_33 (by decide) rfl ?_
      refine WP.bipush (v := 99) dX6_springs_35 rfl ?_
      refine WP.istore (lv2 := [(6, .int 99), (5, .int ((-1))), (4, .int 0), (3, .int r14), (0, .ref b), (1, .int x1), (2, .int x2)]) dX6_springs_37 (by decide) rfl ?_
      exact WP.pick [4, 5, 6, 2, 1, 0] rfl h
    · have h := h.2 c17
      refine WP.aload_n 1 dX6_springs_23 rfl rfl ?_
      refine WP.iload_n 0 dX6_springs_24 rfl rfl ?_
      refine WP.callV (y := mX6_error) (As := [.int r14]) (st := []) dX6_springs_25 wm_X6_68 mw_X6_error rfl (Nat.le_of_ble_eq_true rfl) (rmok d) h16 (by decide) rfl h (fun v18 Sm19 h21 => ?_)
      obtain ⟨m19, rfl, r20, rfl, h⟩ := h21
      show WP G _ _ _ 0 0 28 [(3, .int r14), (0, .ref b), (1, .int x1), (2, .int x2)] [.int r20] (sh, ta, m19)
      exact WP.iret dX6_springs_28 rfl (Nat.le_refl _) (Nat.le_refl _) ⟨_, rfl, h⟩
set_option maxHeartbeats 4000000 in
set_option maxRecDepth 20000 in
theorem rg_X6_springs_39 (hG : fl G = false) (b : Nat) (x1 : Int32) (x2 : Int32) (x4 : Int32) (x5 : Int32) (x6 : Int32) (h : ((x6 < 0 → ((¬ x2 = 0 → ((¬ x5 = ((-1) : Int32) → K (some (.int x5)) m) ∧ (x5 = ((-1) : Int32) → sh[b]? = some (.inl 6) ∧ Cal G mX6_error d [.ref b, .int 2] sh ta m (fun v4 m5 => ∃ r6, v4 = some (.int r6) ∧ K (some (.int r6)) m5)))) ∧ (x2 = 0 → K (some (.int x4)) m))) ∧ (¬ x6 < 0 → sh[b]? = some (.inl 6) ∧ Cal G mX6_fits d [.ref b, .int x1, .int x6] sh ta m (fun v9 m10 => ∃ r11, v9 = some (.int r11) ∧ ((r11 = 0 → ((r11 = 0 → WP G (rmD (d + 1) 0 0) mX6_springs (QC G sh ta K) 0 0 39 [(0, .ref b), (1, .int x1), (2, .int x2), (4, .int (x4 + 0)), (5, .int x5), (6, .int (x6 + (-1)))] [] (sh, ta, m10)) ∧ (¬ r11 = 0 → WP G (rmD (d + 1) 0 0) mX6_springs (QC G sh ta K) 0 0 39 [(0, .ref b), (1, .int x1), (2, .int x2), (4, .int (x4 + 0)), (5, .int x6), (6, .int (x6 + (-1)))] [] (sh, ta, m10)))) ∧ (¬ r11 = 0 → ((r11 = 0 → WP G (rmD (d + 1) 0 0) mX6_springs (QC G sh ta K) 0 0 39 [(0, .ref b), (1, .int x1), (2, .int x2), (4, .int (x4 + 1)), (5, .int x5), (6, .int (x6 + (-1)))] [] (sh, ta, m10)) ∧ (¬ r11 = 0 → WP G (rmD (d + 1) 0 0) mX6_springs (QC G sh ta K) 0 0 39 [(0, .ref b), (1, .int x1), (2, .int x2), (4, .int (x4 + 1)), (5, .int x6), (6, .int (x6 + (-1)))] [] (sh, ta, m10))))))))) : WP G (rmD (d + 1) 0 0) mX6_springs (QC G sh ta K) 0 0 39 [(0, .ref b), (1, .int x1), (2, .int x2), (4, .int x4), (5, .int x5), (6, .int x6)] [] (sh, ta, m) := by
  refine WP.iload 5 dX6_springs_39 rfl ?_
  refine WP.if_lt (tgt := 88) dX6_springs_41 (by decide) (fun c1 => ?_) (fun c1 => ?_)
  · have h := h.1 c1
    refine WP.iload_n 2 dX6_springs_88 rfl rfl ?_
    refine WP.if_ne (tgt := 97) dX6_springs_89 (by decide) (fun c2 => ?_) (fun c2 => ?_)
    · have h := h.1 c2
      refine WP.iload 4 dX6_springs_97 rfl ?_
      refine WP.iconst (v := (-1)) dX6_springs_99 rfl ?_
      refine WP.icmp_ne (tgt := 111) dX6_springs_100 (by decide) (fun c3 => ?_) (fun c3 => ?_)
      · have h := h.1 c3
        refine WP.iload 4 dX6_springs_111 rfl ?_
        exact WP.iret dX6_springs_113 rfl (Nat.le_refl _) (Nat.le_refl _) ⟨_, rfl, h⟩
      · have h := h.2 c3
        refine WP.aload_n 0 dX6_springs_103 rfl rfl ?_
        refine WP.iconst (v := 2) dX6_springs_104 rfl ?_
        obtain ⟨h8, h⟩ := h
        refine WP.callV (y := mX6_error) (As := [.int 2]) (st := []) dX6_springs_105 wm_X6_68 mw_X6_error rfl (Nat.le_of_ble_eq_true rfl) (rmok d) h8 (by decide) rfl h (fun v4 Sm5 h7 => ?_)
        obtain ⟨m5, rfl, r6, rfl, h⟩ := h7
        show WP G _ _ _ 0 0 108 [(0, .ref b), (1, .int x1), (2, .int x2), (4, .int x4), (5, .int x5), (6, .int x6)] [.int r6] (sh, ta, m5)
        refine WP.goto (tgt := 113) dX6_springs_108 (by decide) ?_
        exact WP.iret dX6_springs_113 rfl (Nat.le_refl _) (Nat.le_refl _) ⟨_, rfl, h⟩
    · have h := h.2 c2
      refine WP.iload 3 dX6_springs_92 rfl ?_
      refine WP.goto (tgt := 113) dX6_springs_94 (by decide) ?_
      exact WP.iret dX6_springs_113 rfl (Nat.le_refl _) (Nat.le_refl _) ⟨_, rfl, h⟩
  · have h := h.2 c1
    refine WP.aload_n 0 dX6_springs_44 rfl rfl ?_
    refine WP.iload_n 1 dX6_springs_45 rfl rfl ?_
    refine WP.iload 5 dX6_springs_46 rfl ?_
    obtain ⟨h13, h⟩ := h
    refine WP.callV (y := mX6_fits) (As := [.int x1, .int x6]) (st := []) dX6_springs_48 wm_X6_218 mw_X6_fits rfl (Nat.le_of_ble_eq_true rfl) (rmok d) h13 (by decide) rfl h (fun v9 Sm10 h12 => ?_)
    obtain ⟨m10, rfl, r11, rfl, h⟩ := h12
    show WP G _ _ _ 0 0 51 [(0, .ref b), (1, .int x1), (2, .int x2), (4, .int x4), (5, .int x5), (6, .int x6)] [.int r11] (sh, ta, m10)
    refine WP.istore (lv2 := [(7, .int r11), (0, .ref b), (1, .int x1), (2, .int x2), (4, .int x4), (5, .int x5), (6, .int x6)]) dX6_springs_51 (by decide) rfl ?_
    refine WP.iload 4 dX6_springs_53 rfl ?_
    refine WP.iload 0 dX6_springs_55 rfl ?_
    refine WP.if_eq (tgt := 64) dX6_springs_57 (by decide) (fun c14 => ?_) (fun c14 => ?_)
    · have h := h.1 c14
      refine WP.iconst (v := 0) dX6_springs_64 rfl ?_
      refine WP.iadd dX6_springs_65 ?_
      refine WP.istore (lv2 := [(4, .int (x4 + 0)), (7, .int r11), (0, .ref b), (1, .int x1), (2, .int x2), (5, .int x5), (6, .int x6)]) dX6_springs_66 (by decide) rfl ?_
      refine WP.iload 1 dX6_springs_68 rfl ?_
      refine WP.if_eq (tgt := 78) dX6_springs_70 (by decide) (fun c15 => ?_) (fun c15 => ?_)
      · have h := h.1 c15
        refine WP.iload 5 dX6_springs_78 rfl ?_
        refine WP.istore (lv2 := [(5, .int x5), (4, .int (x4 + 0)), (7, .int r11), (0, .ref b), (1, .int x1), (2, .int x2), (6, .int x6)]) dX6_springs_80 (by decide) rfl ?_
        refine WP.iinc (lv2 := [(6, .int (x6 + (-1))), (5, .int x5), (4, .int (x4 + 0)), (7, .int r11), (0, .ref b), (1, .int x1), (2, .int x2)]) 6 (-1) dX6_springs_82 rfl rfl (by decide) rfl ?_
        refine WP.goto (tgt := 39) dX6_springs_85 (by decide) ?_
        exact WP.pick [4, 5, 6, 2, 1, 0] rfl h
      · have h := h.2 c15
        refine WP.iload 6 dX6_springs_73 rfl ?_
        refine WP.goto (tgt := 80) dX6_springs_75 (by decide) ?_
        refine WP.istore (lv2 := [(5, .int x6), (4, .int (x4 + 0)), (7, .int r11), (0, .ref b), (1, .int x1), (2, .int x2), (6, .int x6)]) dX6_springs_80 (by decide) rfl ?_
        refine WP.iinc (lv2 := [(6, .int (x6 + (-1))), (5, .int x6), (4, .int (x4 + 0)), (7, .int r11), (0, .ref b), (1, .int x1), (2, .int x2)]) 6 (-1) dX6_springs_82 rfl rfl (by decide) rfl ?_
        refine WP.goto (tgt := 39) dX6_springs_85 (by decide) ?_
        exact WP.pick [4, 5, 6, 2, 1, 0] rfl h
    · have h := h.2 c14
      refine WP.iconst (v := 1) dX6_springs_60 rfl ?_
      refine WP.goto (tgt := 65) dX6_springs_61 (by decide) ?_
      refine WP.iadd dX6_springs_65 ?_
      refine WP.istore (lv2 := [(4, .int (x4 + 1)), (7, .int r11), (0, .ref b), (1, .int x1), (2, .int x2), (5, .int x5), (6, .int x6)]) dX6_springs_66 (by decide) rfl ?_
      refine WP.iload 1 dX6_springs_68 rfl ?_
      refine WP.if_eq (tgt := 78) dX6_springs_70 (by decide) (fun c16 => ?_) (fun c16 => ?_)
      · have h := h.1 c16
        refine WP.iload 5 dX6_springs_78 rfl ?_
        refine WP.istore (lv2 := [(5, .int x5), (4, .int (x4 + 1)), (7, .int r11), (0, .ref b), (1, .int x1), (2, .int x2), (6, .int x6)]) dX6_springs_80 (by decide) rfl ?_
        refine WP.iinc (lv2 := [(6, .int (x6 + (-1))), (5, .int x5), (4, .int (x4 + 1)), (7, .int r11), (0, .ref b), (1, .int x1), (2, .int x2)]) 6 (-1) dX6_springs_82 rfl rfl (by decide) rfl ?_
        refine WP.goto (tgt := 39) dX6_springs_85 (by decide) ?_
        exact WP.pick [4, 5, 6, 2, 1, 0] rfl h
      · have h := h.2 c16
        refine WP.iload 6 dX6_springs_73 rfl ?_
        refine WP.goto (tgt := 80) dX6_springs_75 (by decide) ?_
        refine WP.istore (lv2 := [(5, .int x6), (4, .int (x4 + 1)), (7, .int r11), (0, .ref b), (1, .int x1), (2, .int x2), (6, .int x6)]) dX6_springs_80 (by decide) rfl ?_
        refine WP.iinc (lv2 := [(6, .int (x6 + (-1))), (5, .int x6), (4, .int (x4 + 1)), (7, .int r11), (0, .ref b), (1, .int x1), (2, .int x2)]) 6 (-1) dX6_springs_82 rfl rfl (by decide) rfl ?_
        refine WP.goto (tgt := 39) dX6_springs_85 (by decide) ?_
        exact WP.pick [4, 5, 6, 2, 1, 0] rfl h
set_option maxHeartbeats 4000000 in
set_option maxRecDepth 20000 in
theorem rg_X6_divisor_0 (hG : fl G = false) (l0 : Int64) (l2 : Int64) (h : WP G (rmD (d + 1) 0 0) mX6_divisor (QC G sh ta K) 0 0 6 [(4, .long l0), (6, .long l2)] [] (sh, ta, m)) : WP G (rmD (d + 1) 0 0) mX6_divisor (QC G sh ta K) 0 0 0 [(0, .long l0), (2, .long l2)] [] (sh, ta, m) := by
  refine WP.lload_n 0 dX6_divisor_0 rfl rfl ?_
  refine WP.lstore (lv2 := [(4, .long l0), (0, .long l0), (2, .long l2)]) dX6_divisor_1 (by decide) rfl ?_
  refine WP.lload_n 2 dX6_divisor_3 rfl rfl ?_
  refine WP.lstore (lv2 := [(6, .long l2), (4, .long l0), (0, .long l0), (2, .long l2)]) dX6_divisor_4 (by decide) rfl ?_
  exact WP.pick [1, 0] rfl h
set_option maxHeartbeats 4000000 in
set_option maxRecDepth 20000 in
theorem rg_X6_divisor_6 (hG : fl G = false) (l4 : Int64) (l6 : Int64) (h : (((lg_cmp l6 0) = 0 → K (some (.long l4)) m) ∧ (¬ (lg_cmp l6 0) = 0 → ¬ (l6 : Int64) = 0 ∧ WP G (rmD (d + 1) 0 0) mX6_divisor (QC G sh ta K) 0 0 6 [(4, .long l6), (6, .long (l4 - l4 / l6 * l6))] [] (sh, ta, m)))) : WP G (rmD (d + 1) 0 0) mX6_divisor (QC G sh ta K) 0 0 6 [(4, .long l4), (6, .long l6)] [] (sh, ta, m) := by
  refine WP.lload 1 dX6_divisor_6 rfl ?_
  refine WP.lconst (v := 0) dX6_divisor_8 rfl ?_
  refine WP.lcmp dX6_divisor_9 ?_
  refine WP.if_eq (tgt := 31) dX6_divisor_10 (by decide) (fun c1 => ?_) (fun c1 => ?_)
  · have h := h.1 c1
    refine WP.lload 0 dX6_divisor_31 rfl ?_
    exact WP.lret dX6_divisor_33 rfl (Nat.le_refl _) (Nat.le_refl _) ⟨_, rfl, h⟩
  · have h := h.2 c1
    refine WP.lload 0 dX6_divisor_13 rfl ?_
    refine WP.lload 1 dX6_divisor_15 rfl ?_
    obtain ⟨h2, h⟩ := h
    refine WP.lrem dX6_divisor_17 h2 ?_
    refine WP.lstore (lv2 := [(8, .long (l4 - l4 / l6 * l6)), (4, .long l4), (6, .long l6)]) dX6_divisor_18 (by decide) rfl ?_
    refine WP.lload 2 dX6_divisor_20 rfl ?_
    refine WP.lstore (lv2 := [(4, .long l6), (8, .long (l4 - l4 / l6 * l6)), (6, .long l6)]) dX6_divisor_22 (by decide) rfl ?_
    refine WP.lload 1 dX6_divisor_24 rfl ?_
    refine WP.lstore (lv2 := [(6, .long (l4 - l4 / l6 * l6)), (4, .long l6), (8, .long (l4 - l4 / l6 * l6))]) dX6_divisor_26 (by decide) rfl ?_
    refine WP.goto (tgt := 6) dX6_divisor_28 (by decide) ?_
    exact WP.pick [1, 0] rfl h
set_option maxHeartbeats 4000000 in
set_option maxRecDepth 20000 in
theorem rg_X6_odds_0 (hG : fl G = false) (b : Nat) (x1 : Int32) (x2 : Int32) (h : Cal G mX6_in d [.int x2, .int 0, .int 1] sh ta m (fun v1 m2 => ∃ r3, v1 = some (.int r3) ∧ ((r3 = 0 → sh[b]? = some (.inl 6) ∧ Cal G mX6_error d [.ref b, .int 1] sh ta m2 (fun v7 m8 => ∃ r9, v7 = some (.int r9) ∧ K (some (.long ((r9 : Int32).toInt64))) m8)) ∧ (¬ r3 = 0 → sh[b]? = some (.inl 6) ∧ Cal G mX6_lacks d [.ref b, .int x1] sh ta m2 (fun v12 m13 => ∃ r14, v12 = some (.int r14) ∧ ((r14 ≤ 0 → ∃ i18, ta b 19 = some i18 ∧ ∃ n21, sh[i18]? = some (.inr (0, n21)) ∧ InB x1 n21 ∧ Cal G mX6_in d [.int (rd (m13 i18) x1), .int 1, .int 4] sh ta m13 (fun v23 m24 => ∃ r25, v23 = some (.int r25) ∧ ((r25 = 0 → Cal G mX6_error d [.ref b, .int 2] sh ta m24 (fun v28 m29 => ∃ r30, v28 = some (.int r30) ∧ K (some (.long ((r30 : Int32).toInt64))) m29)) ∧ (¬ r25 = 0 → Cal G mX6_rowOf d [.ref b, .int x1] sh ta m24 (fun v32 m33 => ∃ r34, v32 = some (.int r34) ∧ (((rd (m13 i18) x1) ≤ r34 → WP G (rmD (d + 1) 0 0) mX6_odds (QC G sh ta K) 0 0 74 [(0, .ref b), (1, .int x1), (2, .int x2), (4, .int (rd (m13 i18) x1)), (5, .long 1), (7, .long 1), (9, .int 0)] [] (sh, ta, m33)) ∧ (¬ (rd (m13 i18) x1) ≤ r34 → Cal G mX6_error d [.ref b, .int 2] sh ta m33 (fun v37 m38 => ∃ r39, v37 = some (.int r39) ∧ K (some (.long ((r39 : Int32).toInt64))) m38)))))))) ∧ (¬ r14 ≤ 0 → Cal G mX6_error d [.ref b, .int r14] sh ta m13 (fun v41 m42 => ∃ r43, v41 = some (.int r43) ∧ K (some (.long ((r43 : Int32).toInt64))) m42)))))))) : WP G (rmD (d + 1) 0 0) mX6_odds (QC G sh ta K) 0 0 0 [(0, .ref b), (1, .int x1), (2, .int x2)] [] (sh, ta, m) := by
  refine WP.iload_n 2 dX6_odds_0 rfl rfl ?_
  refine WP.iconst (v := 0) dX6_odds_1 rfl ?_
  refine WP.iconst (v := 1) dX6_odds_2 rfl ?_
  refine WP.callS (y := mX6_in) (As := [.int x2, .int 0, .int 1]) (st := []) dX6_odds_3 wm_X6_50 mw_X6_in rfl (Nat.le_of_ble_eq_true rfl) (rmok d) rfl h (fun v1 Sm2 h4 => ?_)
  obtain ⟨m2, rfl, r3, rfl, h⟩ := h4
  show WP G _ _ _ 0 0 6 [(0, .ref b), (1, .int x1), (2, .int x2)] [.int r3] (sh, ta, m2)
  refine WP.if_eq (tgt := 17) dX6_odds_6 (by decide) (fun c5 => ?_) (fun c5 => ?_)
  · have h := h.1 c5
    refine WP.iconst (v := 1) dX6_odds_17 rfl ?_
    refine WP.istore_n (lv2 := [(3, .int 1), (0, .ref b), (1, .int x1), (2, .int x2)]) dX6_odds_18 rfl (by decide) rfl ?_
    refine WP.iload_n 0 dX6_odds_19 rfl rfl ?_
    refine WP.if_le (tgt := 30) dX6_odds_20 (by decide) (fun c6 => absurd c6 (by decide)) (fun _ => ?_)
    refine WP.aload_n 1 dX6_odds_23 rfl rfl ?_
    refine WP.iload_n 0 dX6_odds_24 rfl rfl ?_
    obtain ⟨h11, h⟩ := h
    refine WP.callV (y := mX6_error) (As := [.int 1]) (st := []) dX6_odds_25 wm_X6_68 mw_X6_error rfl (Nat.le_of_ble_eq_true rfl) (rmok d) h11 (by decide) rfl h (fun v7 Sm8 h10 => ?_)
    obtain ⟨m8, rfl, r9, rfl, h⟩ := h10
    show WP G _ _ _ 0 0 28 [(3, .int 1), (0, .ref b), (1, .int x1), (2, .int x2)] [.int r9] (sh, ta, m8)
    refine WP.i2l dX6_odds_28 ?_
    exact WP.lret dX6_odds_29 rfl (Nat.le_refl _) (Nat.le_refl _) ⟨_, rfl, h⟩
  · have h := h.2 c5
    refine WP.aload_n 0 dX6_odds_9 rfl rfl ?_
    refine WP.iload_n 1 dX6_odds_10 rfl rfl ?_
    obtain ⟨h16, h⟩ := h
    refine WP.callV (y := mX6_lacks) (As := [.int x1]) (st := []) dX6_odds_11 wm_X6_186 mw_X6_lacks rfl (Nat.le_of_ble_eq_true rfl) (rmok d) h16 (by decide) rfl h (fun v12 Sm13 h15 => ?_)
    obtain ⟨m13, rfl, r14, rfl, h⟩ := h15
    show WP G _ _ _ 0 0 14 [(0, .ref b), (1, .int x1), (2, .int x2)] [.int r14] (sh, ta, m13)
    refine WP.goto (tgt := 18) dX6_odds_14 (by decide) ?_
    refine WP.istore_n (lv2 := [(3, .int r14), (0, .ref b), (1, .int x1), (2, .int x2)]) dX6_odds_18 rfl (by decide) rfl ?_
    refine WP.iload_n 0 dX6_odds_19 rfl rfl ?_
    refine WP.if_le (tgt := 30) dX6_odds_20 (by decide) (fun c17 => ?_) (fun c17 => ?_)
    · have h := h.1 c17
      refine WP.aload_n 1 dX6_odds_30 rfl rfl ?_
      obtain ⟨i18, h19, h⟩ := h
      refine WP.getR 6 19 wf_X6_40 (by decide) (by decide) rfl h16 h19 dX6_odds_31 ?_
      refine WP.iload_n 2 dX6_odds_34 rfl rfl ?_
      obtain ⟨n21, h20, h⟩ := h
      obtain ⟨h22, h⟩ := h
      refine WP.iald h20 h22 dX6_odds_35 ?_
      refine WP.istore (lv2 := [(4, .int (rd (m13 i18) x1)), (3, .int r14), (0, .ref b), (1, .int x1), (2, .int x2)]) dX6_odds_36 (by decide) rfl ?_
      refine WP.iload 0 dX6_odds_38 rfl ?_
      refine WP.iconst (v := 1) dX6_odds_40 rfl ?_
      refine WP.iconst (v := 4) dX6_odds_41 rfl ?_
      refine WP.callS (y := mX6_in) (As := [.int (rd (m13 i18) x1), .int 1, .int 4]) (st := []) dX6_odds_42 wm_X6_50 mw_X6_in rfl (Nat.le_of_ble_eq_true rfl) (rmok d) rfl h (fun v23 Sm24 h26 => ?_)
      obtain ⟨m24, rfl, r25, rfl, h⟩ := h26
      show WP G _ _ _ 0 0 45 [(4, .int (rd (m13 i18) x1)), (3, .int r14), (0, .ref b), (1, .int x1), (2, .int x2)] [.int r25] (sh, ta, m24)
      refine WP.if_eq (tgt := 58) dX6_odds_45 (by decide) (fun c27 => ?_) (fun c27 => ?_)
      · have h := h.1 c27
        refine WP.aload_n 2 dX6_odds_58 rfl rfl ?_
        refine WP.iconst (v := 2) dX6_odds_59 rfl ?_
        refine WP.callV (y := mX6_error) (As := [.int 2]) (st := []) dX6_odds_60 wm_X6_68 mw_X6_error rfl (Nat.le_of_ble_eq_true rfl) (rmok d) h16 (by decide) rfl h (fun v28 Sm29 h31 => ?_)
        obtain ⟨m29, rfl, r30, rfl, h⟩ := h31
        show WP G _ _ _ 0 0 63 [(4, .int (rd (m13 i18) x1)), (3, .int r14), (0, .ref b), (1, .int x1), (2, .int x2)] [.int r30] (sh, ta, m29)
        refine WP.i2l dX6_odds_63 ?_
        exact WP.lret dX6_odds_64 rfl (Nat.le_refl _) (Nat.le_refl _) ⟨_, rfl, h⟩
      · have h := h.2 c27
        refine WP.aload_n 2 dX6_odds_48 rfl rfl ?_
        refine WP.iload_n 3 dX6_odds_49 rfl rfl ?_
        refine WP.callV (y := mX6_rowOf) (As := [.int x1]) (st := []) dX6_odds_50 wm_X6_189 mw_X6_rowOf rfl (Nat.le_of_ble_eq_true rfl) (rmok d) h16 (by decide) rfl h (fun v32 Sm33 h35 => ?_)
        obtain ⟨m33, rfl, r34, rfl, h⟩ := h35
        show WP G _ _ _ 0 0 53 [(4, .int (rd (m13 i18) x1)), (3, .int r14), (0, .ref b), (1, .int x1), (2, .int x2)] [.int r34] (sh, ta, m33)
        refine WP.iload 0 dX6_odds_53 rfl ?_
        refine WP.icmp_ge (tgt := 65) dX6_odds_55 (by decide) (fun c36 => ?_) (fun c36 => ?_)
        · have h := h.1 c36
          refine WP.lconst (v := 1) dX6_odds_65 rfl ?_
          refine WP.lstore (lv2 := [(5, .long 1), (4, .int (rd (m13 i18) x1)), (3, .int r14), (0, .ref b), (1, .int x1), (2, .int x2)]) dX6_odds_66 (by decide) rfl ?_
          refine WP.lconst (v := 1) dX6_odds_68 rfl ?_
          refine WP.lstore (lv2 := [(7, .long 1), (5, .long 1), (4, .int (rd (m13 i18) x1)), (3, .int r14), (0, .ref b), (1, .int x1), (2, .int x2)]) dX6_odds_69 (by decide) rfl ?_
          refine WP.iconst (v := 0) dX6_odds_71 rfl ?_
          refine WP.istore (lv2 := [(9, .int 0), (7, .long 1), (5, .long 1), (4, .int (rd (m13 i18) x1)), (3, .int r14), (0, .ref b), (1, .int x1), (2, .int x2)]) dX6_odds_72 (by decide) rfl ?_
          exact WP.pick [5, 6, 7, 3, 2, 1, 0] rfl h
        · have h := h.2 c36
          refine WP.aload_n 2 dX6_odds_58 rfl rfl ?_
          refine WP.iconst (v := 2) dX6_odds_59 rfl ?_
          refine WP.callV (y := mX6_error) (As := [.int 2]) (st := []) dX6_odds_60 wm_X6_68 mw_X6_error rfl (Nat.le_of_ble_eq_true rfl) (rmok d) h16 (by decide) rfl h (fun v37 Sm38 h40 => ?_)
          obtain ⟨m38, rfl, r39, rfl, h⟩ := h40
          show WP G _ _ _ 0 0 63 [(4, .int (rd (m13 i18) x1)), (3, .int r14), (0, .ref b), (1, .int x1), (2, .int x2)] [.int r39] (sh, ta, m38)
          refine WP.i2l dX6_odds_63 ?_
          exact WP.lret dX6_odds_64 rfl (Nat.le_refl _) (Nat.le_refl _) ⟨_, rfl, h⟩
    · have h := h.2 c17
      refine WP.aload_n 1 dX6_odds_23 rfl rfl ?_
      refine WP.iload_n 0 dX6_odds_24 rfl rfl ?_
      refine WP.callV (y := mX6_error) (As := [.int r14]) (st := []) dX6_odds_25 wm_X6_68 mw_X6_error rfl (Nat.le_of_ble_eq_true rfl) (rmok d) h16 (by decide) rfl h (fun v41 Sm42 h44 => ?_)
      obtain ⟨m42, rfl, r43, rfl, h⟩ := h44
      show WP G _ _ _ 0 0 28 [(3, .int r14), (0, .ref b), (1, .int x1), (2, .int x2)] [.int r43] (sh, ta, m42)
      refine WP.i2l dX6_odds_28 ?_
      exact WP.lret dX6_odds_29 rfl (Nat.le_refl _) (Nat.le_refl _) ⟨_, rfl, h⟩
set_option maxHeartbeats 4000000 in
set_option maxRecDepth 20000 in
theorem rg_X6_odds_74 (hG : fl G = false) (b : Nat) (x1 : Int32) (x2 : Int32) (x4 : Int32) (l5 : Int64) (l7 : Int64) (x9 : Int32) (h : ((x4 ≤ x9 → Cal G mX6_divisor d [.long l5, .long l7] sh ta m (fun v2 m3 => ∃ r4, v2 = some (.long r4) ∧ ((¬ x2 = 0 → ¬ (r4 : Int64) = 0 ∧ K (some (.long (l7 / r4))) m3) ∧ (x2 = 0 → ¬ (r4 : Int64) = 0 ∧ K (some (.long (l5 / r4))) m3)))) ∧ (¬ x4 ≤ x9 → sh[b]? = some (.inl 6) ∧ ∃ i10, ta b 20 = some i10 ∧ ∃ n13, sh[i10]? = some (.inr (0, n13)) ∧ InB ((24 * x1) + x9) n13 ∧ Cal G mX6_size d [.ref b, .int (rd (m i10) ((24 * x1) + x9))] sh ta m (fun v15 m16 => ∃ r17, v15 = some (.int r17) ∧ WP G (rmD (d + 1) 0 0) mX6_odds (QC G sh ta K) 0 0 108 [(0, .ref b), (1, .int x1), (2, .int x2), (4, .int x4), (5, .long l5), (7, .long l7), (9, .int x9), (10, .int (rd (m i10) ((24 * x1) + x9))), (11, .int (r17 - 1)), (12, .int 0)] [] (sh, ta, m16))))) : WP G (rmD (d + 1) 0 0) mX6_odds (QC G sh ta K) 0 0 74 [(0, .ref b), (1, .int x1), (2, .int x2), (4, .int x4), (5, .long l5), (7, .long l7), (9, .int x9)] [] (sh, ta, m) := by
  refine WP.iload 6 dX6_odds_74 rfl ?_
  refine WP.iload 3 dX6_odds_76 rfl ?_
  refine WP.icmp_ge (tgt := 205) dX6_odds_78 (by decide) (fun c1 => ?_) (fun c1 => ?_)
  · have h := h.1 c1
    refine WP.lload 4 dX6_odds_205 rfl ?_
    refine WP.lload 5 dX6_odds_207 rfl ?_
    refine WP.callS (y := mX6_divisor) (As := [.long l5, .long l7]) (st := []) dX6_odds_209 wm_X6_223 mw_X6_divisor rfl (Nat.le_of_ble_eq_true rfl) (rmok d) rfl h (fun v2 Sm3 h5 => ?_)
    obtain ⟨m3, rfl, r4, rfl, h⟩ := h5
    show WP G _ _ _ 0 0 212 [(0, .ref b), (1, .int x1), (2, .int x2), (4, .int x4), (5, .long l5), (7, .long l7), (9, .int x9)] [.long r4] (sh, ta, m3)
    refine WP.lstore (lv2 := [(9, .long r4), (0, .ref b), (1, .int x1), (2, .int x2), (4, .int x4), (5, .long l5), (7, .long l7)]) dX6_odds_212 (by decide) rfl ?_
    refine WP.iload_n 3 dX6_odds_214 rfl rfl ?_
    refine WP.if_ne (tgt := 226) dX6_odds_215 (by decide) (fun c6 => ?_) (fun c6 => ?_)
    · have h := h.1 c6
      refine WP.lload 6 dX6_odds_226 rfl ?_
      refine WP.lload 0 dX6_odds_228 rfl ?_
      obtain ⟨h7, h⟩ := h
      refine WP.ldiv dX6_odds_230 h7 ?_
      exact WP.lret dX6_odds_231 rfl (Nat.le_refl _) (Nat.le_refl _) ⟨_, rfl, h⟩
    · have h := h.2 c6
      refine WP.lload 5 dX6_odds_218 rfl ?_
      refine WP.lload 0 dX6_odds_220 rfl ?_
      obtain ⟨h8, h⟩ := h
      refine WP.ldiv dX6_odds_222 h8 ?_
      refine WP.goto (tgt := 231) dX6_odds_223 (by decide) ?_
      exact WP.lret dX6_odds_231 rfl (Nat.le_refl _) (Nat.le_refl _) ⟨_, rfl, h⟩
  · have h := h.2 c1
    refine WP.aload_n 0 dX6_odds_81 rfl rfl ?_
    obtain ⟨h9, h⟩ := h
    obtain ⟨i10, h11, h⟩ := h
    refine WP.getR 6 20 wf_X6_43 (by decide) (by decide) rfl h9 h11 dX6_odds_82 ?_
    refine WP.bipush (v := 24) dX6_odds_85 rfl ?_
    refine WP.iload_n 1 dX6_odds_87 rfl rfl ?_
    refine WP.imul dX6_odds_88 ?_
    refine WP.iload 6 dX6_odds_89 rfl ?_
    refine WP.iadd dX6_odds_91 ?_
    obtain ⟨n13, h12, h⟩ := h
    obtain ⟨h14, h⟩ := h
    refine WP.iald h12 h14 dX6_odds_92 ?_
    refine WP.istore (lv2 := [(10, .int (rd (m i10) ((24 * x1) + x9))), (0, .ref b), (1, .int x1), (2, .int x2), (4, .int x4), (5, .long l5), (7, .long l7), (9, .int x9)]) dX6_odds_93 (by decide) rfl ?_
    refine WP.aload_n 1 dX6_odds_95 rfl rfl ?_
    refine WP.iload 0 dX6_odds_96 rfl ?_
    refine WP.callV (y := mX6_size) (As := [.int (rd (m i10) ((24 * x1) + x9))]) (st := []) dX6_odds_98 wm_X6_54 mw_X6_size rfl (Nat.le_of_ble_eq_true rfl) (rmok d) h9 (by decide) rfl h (fun v15 Sm16 h18 => ?_)
    obtain ⟨m16, rfl, r17, rfl, h⟩ := h18
    show WP G _ _ _ 0 0 101 [(10, .int (rd (m i10) ((24 * x1) + x9))), (0, .ref b), (1, .int x1), (2, .int x2), (4, .int x4), (5, .long l5), (7, .long l7), (9, .int x9)] [.int r17] (sh, ta, m16)
    refine WP.iconst (v := 1) dX6_odds_101 rfl ?_
    refine WP.isub dX6_odds_102 ?_
    refine WP.istore (lv2 := [(11, .int (r17 - 1)), (10, .int (rd (m i10) ((24 * x1) + x9))), (0, .ref b), (1, .int x1), (2, .int x2), (4, .int x4), (5, .long l5), (7, .long l7), (9, .int x9)]) dX6_odds_103 (by decide) rfl ?_
    refine WP.iconst (v := 0) dX6_odds_105 rfl ?_
    refine WP.istore (lv2 := [(12, .int 0), (11, .int (r17 - 1)), (10, .int (rd (m i10) ((24 * x1) + x9))), (0, .ref b), (1, .int x1), (2, .int x2), (4, .int x4), (5, .long l5), (7, .long l7), (9, .int x9)]) dX6_odds_106 (by decide) rfl ?_
    exact WP.pick [3, 4, 5, 6, 7, 8, 9, 2, 1, 0] rfl h
set_option maxHeartbeats 4000000 in
set_option maxRecDepth 20000 in
theorem rg_X6_odds_108 (hG : fl G = false) (b : Nat) (x1 : Int32) (x2 : Int32) (x4 : Int32) (l5 : Int64) (l7 : Int64) (x9 : Int32) (x10 : Int32) (x11 : Int32) (x12 : Int32) (h : ((x9 ≤ x12 → ((0 ≤ x11 → sh[b]? = some (.inl 6) ∧ Cal G mX6_strengthBehind d [.ref b, .int x9] sh ta m (fun v3 m4 => ∃ r5, v3 = some (.int r5) ∧ Cal G mX6_at1 d [.ref b, .int x10, .int x11] sh ta m4 (fun v8 m9 => ∃ r10, v8 = some (.int r10) ∧ Cal G mX6_needs d [.ref b, .int r10] sh ta m9 (fun v12 m13 => ∃ r14, v12 = some (.int r14) ∧ ¬ (r14 : Int32) = 0 ∧ Cal G mX6_held d [.int ((r5 * 16) / r14), .int 0, .int 16] sh ta m13 (fun v17 m18 => ∃ r19, v17 = some (.int r19) ∧ WP G (rmD (d + 1) 0 0) mX6_odds (QC G sh ta K) 0 0 74 [(0, .ref b), (1, .int x1), (2, .int x2), (4, .int x4), (5, .long (l5 * ((r19 : Int32).toInt64))), (7, .long (l7 * 16)), (9, .int (x9 + 1))] [] (sh, ta, m18)))))) ∧ (¬ 0 ≤ x11 → WP G (rmD (d + 1) 0 0) mX6_odds (QC G sh ta K) 0 0 74 [(0, .ref b), (1, .int x1), (2, .int x2), (4, .int x4), (5, .long (l5 * 0)), (7, .long (l7 * 16)), (9, .int (x9 + 1))] [] (sh, ta, m)))) ∧ (¬ x9 ≤ x12 → sh[b]? = some (.inl 6) ∧ ∃ i22, ta b 20 = some i22 ∧ ∃ n25, sh[i22]? = some (.inr (0, n25)) ∧ InB ((24 * x1) + x12) n25 ∧ ((¬ (rd (m i22) ((24 * x1) + x12)) = x10 → WP G (rmD (d + 1) 0 0) mX6_odds (QC G sh ta K) 0 0 108 [(0, .ref b), (1, .int x1), (2, .int x2), (4, .int x4), (5, .long l5), (7, .long l7), (9, .int x9), (10, .int x10), (11, .int (x11 - 0)), (12, .int (x12 + 1))] [] (sh, ta, m)) ∧ ((rd (m i22) ((24 * x1) + x12)) = x10 → WP G (rmD (d + 1) 0 0) mX6_odds (QC G sh ta K) 0 0 108 [(0, .ref b), (1, .int x1), (2, .int x2), (4, .int x4), (5, .long l5), (7, .long l7), (9, .int x9), (10, .int x10), (11, .int (x11 - 1)), (12, .int (x12 + 1))] [] (sh, ta, m)))))) : WP G (rmD (d + 1) 0 0) mX6_odds (QC G sh ta K) 0 0 108 [(0, .ref b), (1, .int x1), (2, .int x2), (4, .int x4), (5, .long l5), (7, .long l7), (9, .int x9), (10, .int x10), (11, .int x11), (12, .int x12)] [] (sh, ta, m) := by
  refine WP.iload 9 dX6_odds_108 rfl ?_
  refine WP.iload 6 dX6_odds_110 rfl ?_
  refine WP.icmp_ge (tgt := 148) dX6_odds_112 (by decide) (fun c1 => ?_) (fun c1 => ?_)
  · have h := h.1 c1
    refine WP.lload 4 dX6_odds_148 rfl ?_
    refine WP.iload 8 dX6_odds_150 rfl ?_
    refine WP.if_ge (tgt := 159) dX6_odds_152 (by decide) (fun c2 => ?_) (fun c2 => ?_)
    · have h := h.1 c2
      refine WP.aload_n 0 dX6_odds_159 rfl rfl ?_
      refine WP.iload 6 dX6_odds_160 rfl ?_
      obtain ⟨h7, h⟩ := h
      refine WP.callV (y := mX6_strengthBehind) (As := [.int x9]) (st := [.long l5]) dX6_odds_162 wm_X6_170 mw_X6_strengthBehind rfl (Nat.le_of_ble_eq_true rfl) (rmok d) h7 (by decide) rfl h (fun v3 Sm4 h6 => ?_)
      obtain ⟨m4, rfl, r5, rfl, h⟩ := h6
      show WP G _ _ _ 0 0 165 [(0, .ref b), (1, .int x1), (2, .int x2), (4, .int x4), (5, .long l5), (7, .long l7), (9, .int x9), (10, .int x10), (11, .int x11), (12, .int x12)] [.int r5, .long l5] (sh, ta, m4)
      refine WP.bipush (v := 16) dX6_odds_165 rfl ?_
      refine WP.imul dX6_odds_167 ?_
      refine WP.aload_n 0 dX6_odds_168 rfl rfl ?_
      refine WP.aload_n 0 dX6_odds_169 rfl rfl ?_
      refine WP.iload 7 dX6_odds_170 rfl ?_
      refine WP.iload 8 dX6_odds_172 rfl ?_
      refine WP.callV (y := mX6_at1) (As := [.int x10, .int x11]) (st := [.ref b, .int (r5 * 16), .long l5]) dX6_odds_174 wm_X6_58 mw_X6_at1 rfl (Nat.le_of_ble_eq_true rfl) (rmok d) h7 (by decide) rfl h (fun v8 Sm9 h11 => ?_)
      obtain ⟨m9, rfl, r10, rfl, h⟩ := h11
      show WP G _ _ _ 0 0 177 [(0, .ref b), (1, .int x1), (2, .int x2), (4, .int x4), (5, .long l5), (7, .long l7), (9, .int x9), (10, .int x10), (11, .int x11), (12, .int x12)] [.int r10, .ref b, .int (r5 * 16), .long l5] (sh, ta, m9)
      refine WP.callV (y := mX6_needs) (As := [.int r10]) (st := [.int (r5 * 16), .long l5]) dX6_odds_177 wm_X6_151 mw_X6_needs rfl (Nat.le_of_ble_eq_true rfl) (rmok d) h7 (by decide) rfl h (fun v12 Sm13 h15 => ?_)
      obtain ⟨m13, rfl, r14, rfl, h⟩ := h15
      show WP G _ _ _ 0 0 180 [(0, .ref b), (1, .int x1), (2, .int x2), (4, .int x4), (5, .long l5), (7, .long l7), (9, .int x9), (10, .int x10), (11, .int x11), (12, .int x12)] [.int r14, .int (r5 * 16), .long l5] (sh, ta, m13)
      obtain ⟨h16, h⟩ := h
      refine WP.idiv dX6_odds_180 h16 ?_
      refine WP.iconst (v := 0) dX6_odds_181 rfl ?_
      refine WP.bipush (v := 16) dX6_odds_182 rfl ?_
      refine WP.callS (y := mX6_held) (As := [.int ((r5 * 16) / r14), .int 0, .int 16]) (st := [.long l5]) dX6_odds_184 wm_X6_139 mw_X6_held rfl (Nat.le_of_ble_eq_true rfl) (rmok d) rfl h (fun v17 Sm18 h20 => ?_)
      obtain ⟨m18, rfl, r19, rfl, h⟩ := h20
      show WP G _ _ _ 0 0 187 [(0, .ref b), (1, .int x1), (2, .int x2), (4, .int x4), (5, .long l5), (7, .long l7), (9, .int x9), (10, .int x10), (11, .int x11), (12, .int x12)] [.int r19, .long l5] (sh, ta, m18)
      refine WP.i2l dX6_odds_187 ?_
      refine WP.lmul dX6_odds_188 ?_
      refine WP.lstore (lv2 := [(5, .long (l5 * ((r19 : Int32).toInt64))), (0, .ref b), (1, .int x1), (2, .int x2), (4, .int x4), (7, .long l7), (9, .int x9), (10, .int x10), (11, .int x11), (12, .int x12)]) dX6_odds_189 (by decide) rfl ?_
      refine WP.lload 5 dX6_odds_191 rfl ?_
      refine WP.ldc2 wx_X6_221 dX6_odds_193 ?_
      refine WP.lmul dX6_odds_196 ?_
      refine WP.lstore (lv2 := [(7, .long (l7 * 16)), (5, .long (l5 * ((r19 : Int32).toInt64))), (0, .ref b), (1, .int x1), (2, .int x2), (4, .int x4), (9, .int x9), (10, .int x10), (11, .int x11), (12, .int x12)]) dX6_odds_197 (by decide) rfl ?_
      refine WP.iinc (lv2 := [(9, .int (x9 + 1)), (7, .long (l7 * 16)), (5, .long (l5 * ((r19 : Int32).toInt64))), (0, .ref b), (1, .int x1), (2, .int x2), (4, .int x4), (10, .int x10), (11, .int x11), (12, .int x12)]) 6 1 dX6_odds_199 rfl rfl (by decide) rfl ?_
      refine WP.goto (tgt := 74) dX6_odds_202 (by decide) ?_
      exact WP.pick [3, 4, 5, 6, 2, 1, 0] rfl h
    · have h := h.2 c2
      refine WP.lconst (v := 0) dX6_odds_155 rfl ?_
      refine WP.goto (tgt := 188) dX6_odds_156 (by decide) ?_
      refine WP.lmul dX6_odds_188 ?_
      refine WP.lstore (lv2 := [(5, .long (l5 * 0)), (0, .ref b), (1, .int x1), (2, .int x2), (4, .int x4), (7, .long l7), (9, .int x9), (10, .int x10), (11, .int x11), (12, .int x12)]) dX6_odds_189 (by decide) rfl ?_
      refine WP.lload 5 dX6_odds_191 rfl ?_
      refine WP.ldc2 wx_X6_221 dX6_odds_193 ?_
      refine WP.lmul dX6_odds_196 ?_
      refine WP.lstore (lv2 := [(7, .long (l7 * 16)), (5, .long (l5 * 0)), (0, .ref b), (1, .int x1), (2, .int x2), (4, .int x4), (9, .int x9), (10, .int x10), (11, .int x11), (12, .int x12)]) dX6_odds_197 (by decide) rfl ?_
      refine WP.iinc (lv2 := [(9, .int (x9 + 1)), (7, .long (l7 * 16)), (5, .long (l5 * 0)), (0, .ref b), (1, .int x1), (2, .int x2), (4, .int x4), (10, .int x10), (11, .int x11), (12, .int x12)]) 6 1 dX6_odds_199 rfl rfl (by decide) rfl ?_
      refine WP.goto (tgt := 74) dX6_odds_202 (by decide) ?_
      exact WP.pick [3, 4, 5, 6, 2, 1, 0] rfl h
  · have h := h.2 c1
    refine WP.iload 8 dX6_odds_115 rfl ?_
    refine WP.aload_n 0 dX6_odds_117 rfl rfl ?_
    obtain ⟨h21, h⟩ := h
    obtain ⟨i22, h23, h⟩ := h
    refine WP.getR 6 20 wf_X6_43 (by decide) (by decide) rfl h21 h23 dX6_odds_118 ?_
    refine WP.bipush (v := 24) dX6_odds_121 rfl ?_
    refine WP.iload_n 1 dX6_odds_123 rfl rfl ?_
    refine WP.imul dX6_odds_124 ?_
    refine WP.iload 9 dX6_odds_125 rfl ?_
    refine WP.iadd dX6_odds_127 ?_
    obtain ⟨n25, h24, h⟩ := h
    obtain ⟨h26, h⟩ := h
    refine WP.iald h24 h26 dX6_odds_128 ?_
    refine WP.iload 7 dX6_odds_129 rfl ?_
    refine WP.icmp_ne (tgt := 138) dX6_odds_131 (by decide) (fun c27 => ?_) (fun c27 => ?_)
    · have h := h.1 c27
      refine WP.iconst (v := 0) dX6_odds_138 rfl ?_
      refine WP.isub dX6_odds_139 ?_
      refine WP.istore (lv2 := [(11, .int (x11 - 0)), (0, .ref b), (1, .int x1), (2, .int x2), (4, .int x4), (5, .long l5), (7, .long l7), (9, .int x9), (10, .int x10), (12, .int x12)]) dX6_odds_140 (by decide) rfl ?_
      refine WP.iinc (lv2 := [(12, .int (x12 + 1)), (11, .int (x11 - 0)), (0, .ref b), (1, .int x1), (2, .int x2), (4, .int x4), (5, .long l5), (7, .long l7), (9, .int x9), (10, .int x10)]) 9 1 dX6_odds_142 rfl rfl (by decide) rfl ?_
      refine WP.goto (tgt := 108) dX6_odds_145 (by decide) ?_
      exact WP.pick [2, 3, 4, 5, 6, 7, 8, 9, 1, 0] rfl h
    · have h := h.2 c27
      refine WP.iconst (v := 1) dX6_odds_134 rfl ?_
      refine WP.goto (tgt := 139) dX6_odds_135 (by decide) ?_
      refine WP.isub dX6_odds_139 ?_
      refine WP.istore (lv2 := [(11, .int (x11 - 1)), (0, .ref b), (1, .int x1), (2, .int x2), (4, .int x4), (5, .long l5), (7, .long l7), (9, .int x9), (10, .int x10), (12, .int x12)]) dX6_odds_140 (by decide) rfl ?_
      refine WP.iinc (lv2 := [(12, .int (x12 + 1)), (11, .int (x11 - 1)), (0, .ref b), (1, .int x1), (2, .int x2), (4, .int x4), (5, .long l5), (7, .long l7), (9, .int x9), (10, .int x10)]) 9 1 dX6_odds_142 rfl rfl (by decide) rfl ?_
      refine WP.goto (tgt := 108) dX6_odds_145 (by decide) ?_
      exact WP.pick [2, 3, 4, 5, 6, 7, 8, 9, 1, 0] rfl h
set_option maxHeartbeats 4000000 in
set_option maxRecDepth 20000 in
theorem rg_X6_seen_0 (hG : fl G = false) (b : Nat) (x1 : Int32) (x2 : Int32) (h : Cal G mX6_in d [.int x1, .int 0, .int 3] sh ta m (fun v1 m2 => ∃ r3, v1 = some (.int r3) ∧ ((r3 = 0 → sh[b]? = some (.inl 6) ∧ Cal G mX6_error d [.ref b, .int 1] sh ta m2 (fun v6 m7 => ∃ r8, v6 = some (.int r8) ∧ K (some (.int r8)) m7)) ∧ (¬ r3 = 0 → Cal G mX6_in d [.int x2, .int 0, .int 4] sh ta m2 (fun v11 m12 => ∃ r13, v11 = some (.int r13) ∧ ((¬ r13 = 0 → WP G (rmD (d + 1) 0 0) mX6_seen (QC G sh ta K) 0 0 26 [(0, .ref b), (2, .int x2), (3, .int x1)] [] (sh, ta, m12)) ∧ (r13 = 0 → sh[b]? = some (.inl 6) ∧ Cal G mX6_error d [.ref b, .int 1] sh ta m12 (fun v16 m17 => ∃ r18, v16 = some (.int r18) ∧ K (some (.int r18)) m17)))))))) : WP G (rmD (d + 1) 0 0) mX6_seen (QC G sh ta K) 0 0 0 [(0, .ref b), (1, .int x1), (2, .int x2)] [] (sh, ta, m) := by
  refine WP.iload_n 1 dX6_seen_0 rfl rfl ?_
  refine WP.iconst (v := 0) dX6_seen_1 rfl ?_
  refine WP.iconst (v := 3) dX6_seen_2 rfl ?_
  refine WP.callS (y := mX6_in) (As := [.int x1, .int 0, .int 3]) (st := []) dX6_seen_3 wm_X6_50 mw_X6_in rfl (Nat.le_of_ble_eq_true rfl) (rmok d) rfl h (fun v1 Sm2 h4 => ?_)
  obtain ⟨m2, rfl, r3, rfl, h⟩ := h4
  show WP G _ _ _ 0 0 6 [(0, .ref b), (1, .int x1), (2, .int x2)] [.int r3] (sh, ta, m2)
  refine WP.if_eq (tgt := 18) dX6_seen_6 (by decide) (fun c5 => ?_) (fun c5 => ?_)
  · have h := h.1 c5
    refine WP.aload_n 0 dX6_seen_18 rfl rfl ?_
    refine WP.iconst (v := 1) dX6_seen_19 rfl ?_
    obtain ⟨h10, h⟩ := h
    refine WP.callV (y := mX6_error) (As := [.int 1]) (st := []) dX6_seen_20 wm_X6_68 mw_X6_error rfl (Nat.le_of_ble_eq_true rfl) (rmok d) h10 (by decide) rfl h (fun v6 Sm7 h9 => ?_)
    obtain ⟨m7, rfl, r8, rfl, h⟩ := h9
    show WP G _ _ _ 0 0 23 [(0, .ref b), (1, .int x1), (2, .int x2)] [.int r8] (sh, ta, m7)
    exact WP.iret dX6_seen_23 rfl (Nat.le_refl _) (Nat.le_refl _) ⟨_, rfl, h⟩
  · have h := h.2 c5
    refine WP.iload_n 2 dX6_seen_9 rfl rfl ?_
    refine WP.iconst (v := 0) dX6_seen_10 rfl ?_
    refine WP.iconst (v := 4) dX6_seen_11 rfl ?_
    refine WP.callS (y := mX6_in) (As := [.int x2, .int 0, .int 4]) (st := []) dX6_seen_12 wm_X6_50 mw_X6_in rfl (Nat.le_of_ble_eq_true rfl) (rmok d) rfl h (fun v11 Sm12 h14 => ?_)
    obtain ⟨m12, rfl, r13, rfl, h⟩ := h14
    show WP G _ _ _ 0 0 15 [(0, .ref b), (1, .int x1), (2, .int x2)] [.int r13] (sh, ta, m12)
    refine WP.if_ne (tgt := 24) dX6_seen_15 (by decide) (fun c15 => ?_) (fun c15 => ?_)
    · have h := h.1 c15
      refine WP.iload_n 1 dX6_seen_24 rfl rfl ?_
      refine WP.istore_n (lv2 := [(3, .int x1), (0, .ref b), (1, .int x1), (2, .int x2)]) dX6_seen_25 rfl (by decide) rfl ?_
      exact WP.pick [1, 3, 0] rfl h
    · have h := h.2 c15
      refine WP.aload_n 0 dX6_seen_18 rfl rfl ?_
      refine WP.iconst (v := 1) dX6_seen_19 rfl ?_
      obtain ⟨h20, h⟩ := h
      refine WP.callV (y := mX6_error) (As := [.int 1]) (st := []) dX6_seen_20 wm_X6_68 mw_X6_error rfl (Nat.le_of_ble_eq_true rfl) (rmok d) h20 (by decide) rfl h (fun v16 Sm17 h19 => ?_)
      obtain ⟨m17, rfl, r18, rfl, h⟩ := h19
      show WP G _ _ _ 0 0 23 [(0, .ref b), (1, .int x1), (2, .int x2)] [.int r18] (sh, ta, m17)
      exact WP.iret dX6_seen_23 rfl (Nat.le_refl _) (Nat.le_refl _) ⟨_, rfl, h⟩
set_option maxHeartbeats 4000000 in
set_option maxRecDepth 20000 in
theorem rg_X6_seen_26 (hG : fl G = false) (b : Nat) (x2 : Int32) (x3 : Int32) (h : (((16 : Int32) ≤ x3 → sh[b]? = some (.inl 6) ∧ Cal G mX6_error d [.ref b, .int 2] sh ta m (fun v2 m3 => ∃ r4, v2 = some (.int r4) ∧ K (some (.int r4)) m3)) ∧ (¬ (16 : Int32) ≤ x3 → sh[b]? = some (.inl 6) ∧ Cal G mX6_size d [.ref b, .int x3] sh ta m (fun v7 m8 => ∃ r9, v7 = some (.int r9) ∧ ((r9 ≤ x2 → WP G (rmD (d + 1) 0 0) mX6_seen (QC G sh ta K) 0 0 26 [(0, .ref b), (2, .int x2), (3, .int (x3 + 4))] [] (sh, ta, m8)) ∧ (¬ r9 ≤ x2 → Cal G mX6_at1 d [.ref b, .int x3, .int x2] sh ta m8 (fun v13 m14 => ∃ r15, v13 = some (.int r15) ∧ K (some (.int r15)) m14))))))) : WP G (rmD (d + 1) 0 0) mX6_seen (QC G sh ta K) 0 0 26 [(0, .ref b), (2, .int x2), (3, .int x3)] [] (sh, ta, m) := by
  refine WP.iload_n 2 dX6_seen_26 rfl rfl ?_
  refine WP.bipush (v := 16) dX6_seen_27 rfl ?_
  refine WP.icmp_ge (tgt := 54) dX6_seen_29 (by decide) (fun c1 => ?_) (fun c1 => ?_)
  · have h := h.1 c1
    refine WP.aload_n 0 dX6_seen_54 rfl rfl ?_
    refine WP.iconst (v := 2) dX6_seen_55 rfl ?_
    obtain ⟨h6, h⟩ := h
    refine WP.callV (y := mX6_error) (As := [.int 2]) (st := []) dX6_seen_56 wm_X6_68 mw_X6_error rfl (Nat.le_of_ble_eq_true rfl) (rmok d) h6 (by decide) rfl h (fun v2 Sm3 h5 => ?_)
    obtain ⟨m3, rfl, r4, rfl, h⟩ := h5
    show WP G _ _ _ 0 0 59 [(0, .ref b), (2, .int x2), (3, .int x3)] [.int r4] (sh, ta, m3)
    exact WP.iret dX6_seen_59 rfl (Nat.le_refl _) (Nat.le_refl _) ⟨_, rfl, h⟩
  · have h := h.2 c1
    refine WP.aload_n 0 dX6_seen_32 rfl rfl ?_
    refine WP.iload_n 2 dX6_seen_33 rfl rfl ?_
    obtain ⟨h11, h⟩ := h
    refine WP.callV (y := mX6_size) (As := [.int x3]) (st := []) dX6_seen_34 wm_X6_54 mw_X6_size rfl (Nat.le_of_ble_eq_true rfl) (rmok d) h11 (by decide) rfl h (fun v7 Sm8 h10 => ?_)
    obtain ⟨m8, rfl, r9, rfl, h⟩ := h10
    show WP G _ _ _ 0 0 37 [(0, .ref b), (2, .int x2), (3, .int x3)] [.int r9] (sh, ta, m8)
    refine WP.iload_n 1 dX6_seen_37 rfl rfl ?_
    refine WP.icmp_le (tgt := 48) dX6_seen_38 (by decide) (fun c12 => ?_) (fun c12 => ?_)
    · have h := h.1 c12
      refine WP.iinc (lv2 := [(3, .int (x3 + 4)), (0, .ref b), (2, .int x2)]) 2 4 dX6_seen_48 rfl rfl (by decide) rfl ?_
      refine WP.goto (tgt := 26) dX6_seen_51 (by decide) ?_
      exact WP.pick [1, 2, 0] rfl h
    · have h := h.2 c12
      refine WP.aload_n 0 dX6_seen_41 rfl rfl ?_
      refine WP.iload_n 2 dX6_seen_42 rfl rfl ?_
      refine WP.iload_n 1 dX6_seen_43 rfl rfl ?_
      refine WP.callV (y := mX6_at1) (As := [.int x3, .int x2]) (st := []) dX6_seen_44 wm_X6_58 mw_X6_at1 rfl (Nat.le_of_ble_eq_true rfl) (rmok d) h11 (by decide) rfl h (fun v13 Sm14 h16 => ?_)
      obtain ⟨m14, rfl, r15, rfl, h⟩ := h16
      show WP G _ _ _ 0 0 47 [(0, .ref b), (2, .int x2), (3, .int x3)] [.int r15] (sh, ta, m14)
      exact WP.iret dX6_seen_47 rfl (Nat.le_refl _) (Nat.le_refl _) ⟨_, rfl, h⟩
set_option maxHeartbeats 4000000 in
set_option maxRecDepth 20000 in
theorem rg_X6_fill_0 (hG : fl G = false) (b : Nat) (x1 : Int32) (h : Cal G mX6_in d [.int x1, .int 0, .int 5] sh ta m (fun v1 m2 => ∃ r3, v1 = some (.int r3) ∧ ((¬ r3 = 0 → WP G (rmD (d + 1) 0 0) mX6_fill (QC G sh ta K) 0 0 19 [(0, .ref b), (1, .int x1), (2, .int 0), (3, .int 1)] [] (sh, ta, m2)) ∧ (r3 = 0 → sh[b]? = some (.inl 6) ∧ Cal G mX6_error d [.ref b, .int 1] sh ta m2 (fun v6 m7 => ∃ r8, v6 = some (.int r8) ∧ K (some (.int r8)) m7))))) : WP G (rmD (d + 1) 0 0) mX6_fill (QC G sh ta K) 0 0 0 [(0, .ref b), (1, .int x1)] [] (sh, ta, m) := by
  refine WP.iload_n 1 dX6_fill_0 rfl rfl ?_
  refine WP.iconst (v := 0) dX6_fill_1 rfl ?_
  refine WP.iconst (v := 5) dX6_fill_2 rfl ?_
  refine WP.callS (y := mX6_in) (As := [.int x1, .int 0, .int 5]) (st := []) dX6_fill_3 wm_X6_50 mw_X6_in rfl (Nat.le_of_ble_eq_true rfl) (rmok d) rfl h (fun v1 Sm2 h4 => ?_)
  obtain ⟨m2, rfl, r3, rfl, h⟩ := h4
  show WP G _ _ _ 0 0 6 [(0, .ref b), (1, .int x1)] [.int r3] (sh, ta, m2)
  refine WP.if_ne (tgt := 15) dX6_fill_6 (by decide) (fun c5 => ?_) (fun c5 => ?_)
  · have h := h.1 c5
    refine WP.iconst (v := 0) dX6_fill_15 rfl ?_
    refine WP.istore_n (lv2 := [(2, .int 0), (0, .ref b), (1, .int x1)]) dX6_fill_16 rfl (by decide) rfl ?_
    refine WP.iconst (v := 1) dX6_fill_17 rfl ?_
    refine WP.istore_n (lv2 := [(3, .int 1), (2, .int 0), (0, .ref b), (1, .int x1)]) dX6_fill_18 rfl (by decide) rfl ?_
    exact WP.pick [2, 3, 1, 0] rfl h
  · have h := h.2 c5
    refine WP.aload_n 0 dX6_fill_9 rfl rfl ?_
    refine WP.iconst (v := 1) dX6_fill_10 rfl ?_
    obtain ⟨h10, h⟩ := h
    refine WP.callV (y := mX6_error) (As := [.int 1]) (st := []) dX6_fill_11 wm_X6_68 mw_X6_error rfl (Nat.le_of_ble_eq_true rfl) (rmok d) h10 (by decide) rfl h (fun v6 Sm7 h9 => ?_)
    obtain ⟨m7, rfl, r8, rfl, h⟩ := h9
    show WP G _ _ _ 0 0 14 [(0, .ref b), (1, .int x1)] [.int r8] (sh, ta, m7)
    exact WP.iret dX6_fill_14 rfl (Nat.le_refl _) (Nat.le_refl _) ⟨_, rfl, h⟩
set_option maxHeartbeats 4000000 in
set_option maxRecDepth 20000 in
theorem rg_X6_fill_19 (hG : fl G = false) (b : Nat) (x1 : Int32) (x2 : Int32) (x3 : Int32) (h : (((16 : Int32) ≤ x3 → K (some (.int x2)) m) ∧ (¬ (16 : Int32) ≤ x3 → sh[b]? = some (.inl 6) ∧ Cal G mX6_size d [.ref b, .int x3] sh ta m (fun v2 m3 => ∃ r4, v2 = some (.int r4) ∧ ((x1 ≤ r4 → WP G (rmD (d + 1) 0 0) mX6_fill (QC G sh ta K) 0 0 19 [(0, .ref b), (1, .int x1), (2, .int (x2 + 0)), (3, .int (x3 + 1))] [] (sh, ta, m3)) ∧ (¬ x1 ≤ r4 → Cal G mX6_size d [.ref b, .int x3] sh ta m3 (fun v8 m9 => ∃ r10, v8 = some (.int r10) ∧ WP G (rmD (d + 1) 0 0) mX6_fill (QC G sh ta K) 0 0 19 [(0, .ref b), (1, .int x1), (2, .int (x2 + (x1 - r10))), (3, .int (x3 + 1))] [] (sh, ta, m9)))))))) : WP G (rmD (d + 1) 0 0) mX6_fill (QC G sh ta K) 0 0 19 [(0, .ref b), (1, .int x1), (2, .int x2), (3, .int x3)] [] (sh, ta, m) := by
  refine WP.iload_n 3 dX6_fill_19 rfl rfl ?_
  refine WP.bipush (v := 16) dX6_fill_20 rfl ?_
  refine WP.icmp_ge (tgt := 54) dX6_fill_22 (by decide) (fun c1 => ?_) (fun c1 => ?_)
  · have h := h.1 c1
    refine WP.iload_n 2 dX6_fill_54 rfl rfl ?_
    exact WP.iret dX6_fill_55 rfl (Nat.le_refl _) (Nat.le_refl _) ⟨_, rfl, h⟩
  · have h := h.2 c1
    refine WP.iload_n 2 dX6_fill_25 rfl rfl ?_
    refine WP.aload_n 0 dX6_fill_26 rfl rfl ?_
    refine WP.iload_n 3 dX6_fill_27 rfl rfl ?_
    obtain ⟨h6, h⟩ := h
    refine WP.callV (y := mX6_size) (As := [.int x3]) (st := [.int x2]) dX6_fill_28 wm_X6_54 mw_X6_size rfl (Nat.le_of_ble_eq_true rfl) (rmok d) h6 (by decide) rfl h (fun v2 Sm3 h5 => ?_)
    obtain ⟨m3, rfl, r4, rfl, h⟩ := h5
    show WP G _ _ _ 0 0 31 [(0, .ref b), (1, .int x1), (2, .int x2), (3, .int x3)] [.int r4, .int x2] (sh, ta, m3)
    refine WP.iload_n 1 dX6_fill_31 rfl rfl ?_
    refine WP.icmp_ge (tgt := 45) dX6_fill_32 (by decide) (fun c7 => ?_) (fun c7 => ?_)
    · have h := h.1 c7
      refine WP.iconst (v := 0) dX6_fill_45 rfl ?_
      refine WP.iadd dX6_fill_46 ?_
      refine WP.istore_n (lv2 := [(2, .int (x2 + 0)), (0, .ref b), (1, .int x1), (3, .int x3)]) dX6_fill_47 rfl (by decide) rfl ?_
      refine WP.iinc (lv2 := [(3, .int (x3 + 1)), (2, .int (x2 + 0)), (0, .ref b), (1, .int x1)]) 3 1 dX6_fill_48 rfl rfl (by decide) rfl ?_
      refine WP.goto (tgt := 19) dX6_fill_51 (by decide) ?_
      exact WP.pick [2, 3, 1, 0] rfl h
    · have h := h.2 c7
      refine WP.iload_n 1 dX6_fill_35 rfl rfl ?_
      refine WP.aload_n 0 dX6_fill_36 rfl rfl ?_
      refine WP.iload_n 3 dX6_fill_37 rfl rfl ?_
      refine WP.callV (y := mX6_size) (As := [.int x3]) (st := [.int x1, .int x2]) dX6_fill_38 wm_X6_54 mw_X6_size rfl (Nat.le_of_ble_eq_true rfl) (rmok d) h6 (by decide) rfl h (fun v8 Sm9 h11 => ?_)
      obtain ⟨m9, rfl, r10, rfl, h⟩ := h11
      show WP G _ _ _ 0 0 41 [(0, .ref b), (1, .int x1), (2, .int x2), (3, .int x3)] [.int r10, .int x1, .int x2] (sh, ta, m9)
      refine WP.isub dX6_fill_41 ?_
      refine WP.goto (tgt := 46) dX6_fill_42 (by decide) ?_
      refine WP.iadd dX6_fill_46 ?_
      refine WP.istore_n (lv2 := [(2, .int (x2 + (x1 - r10))), (0, .ref b), (1, .int x1), (3, .int x3)]) dX6_fill_47 rfl (by decide) rfl ?_
      refine WP.iinc (lv2 := [(3, .int (x3 + 1)), (2, .int (x2 + (x1 - r10))), (0, .ref b), (1, .int x1)]) 3 1 dX6_fill_48 rfl rfl (by decide) rfl ?_
      refine WP.goto (tgt := 19) dX6_fill_51 (by decide) ?_
      exact WP.pick [2, 3, 1, 0] rfl h
set_option maxHeartbeats 4000000 in
set_option maxRecDepth 20000 in
theorem rg_X6_begins_0 (hG : fl G = false) (b : Nat) (x1 : Int32) (h : sh[b]? = some (.inl 6) ∧ (((30 : Int32) ≤ (m b 15) → K none m) ∧ (¬ (30 : Int32) ≤ (m b 15) → ∃ i3, ta b 14 = some i3 ∧ ∃ n6, sh[i3]? = some (.inr (0, n6)) ∧ InB (m b 15) n6 ∧ ∀ m8, m8 = upa m i3 (m b 15) x1 → ∀ m9, m9 = up2 m8 b 15 ((m8 b 15) + 1) → K none m9))) : WP G (rmD (d + 1) 0 0) mX6_begins (QC G sh ta K) 0 0 0 [(0, .ref b), (1, .int x1)] [] (sh, ta, m) := by
  refine WP.aload_n 0 dX6_begins_0 rfl rfl ?_
  obtain ⟨h1, h⟩ := h
  refine WP.getI 6 15 wf_X6_227 (by decide) (by decide) rfl h1 dX6_begins_1 ?_
  refine WP.bipush (v := 30) dX6_begins_4 rfl ?_
  refine WP.icmp_ge (tgt := 29) dX6_begins_6 (by decide) (fun c2 => ?_) (fun c2 => ?_)
  · have h := h.1 c2
    exact WP.vret dX6_begins_29 rfl (Nat.le_refl _) (Nat.le_refl _) ⟨_, rfl, h⟩
  · have h := h.2 c2
    refine WP.aload_n 0 dX6_begins_9 rfl rfl ?_
    obtain ⟨i3, h4, h⟩ := h
    refine WP.getR 6 14 wf_X6_34 (by decide) (by decide) rfl h1 h4 dX6_begins_10 ?_
    refine WP.aload_n 0 dX6_begins_13 rfl rfl ?_
    refine WP.getI 6 15 wf_X6_227 (by decide) (by decide) rfl h1 dX6_begins_14 ?_
    refine WP.iload_n 1 dX6_begins_17 rfl rfl ?_
    obtain ⟨n6, h5, h⟩ := h
    obtain ⟨h7, h⟩ := h
    have h := h _ rfl
    refine WP.iast h5 h7 dX6_begins_18 ?_
    generalize upa m i3 (m b 15) x1 = m8 at h ⊢
    refine WP.aload_n 0 dX6_begins_19 rfl rfl ?_
    refine WP.dup dX6_begins_20 rfl ?_
    refine WP.getI 6 15 wf_X6_227 (by decide) (by decide) rfl h1 dX6_begins_21 ?_
    refine WP.iconst (v := 1) dX6_begins_24 rfl ?_
    refine WP.iadd dX6_begins_25 ?_
    have h := h _ rfl
    refine WP.putI 6 15 wf_X6_227 (by decide) (by decide) rfl h1 rfl rfl rfl dX6_begins_26 ?_
    generalize up2 m8 b 15 ((m8 b 15) + 1) = m9 at h ⊢
    exact WP.vret dX6_begins_29 rfl (Nat.le_refl _) (Nat.le_refl _) ⟨_, rfl, h⟩
set_option maxHeartbeats 4000000 in
set_option maxRecDepth 20000 in
theorem rg_X6_above_0 (hG : fl G = false) (x0 : Int32) (h : ((¬ x0 = (4 : Int32) → ((¬ x0 = (5 : Int32) → K (some (.int 0)) m) ∧ (x0 = (5 : Int32) → K (some (.int 2)) m))) ∧ (x0 = (4 : Int32) → K (some (.int 1)) m))) : WP G (rmD (d + 1) 0 0) mX6_above (QC G sh ta K) 0 0 0 [(0, .int x0)] [] (sh, ta, m) := by
  refine WP.iload_n 0 dX6_above_0 rfl rfl ?_
  refine WP.iconst (v := 4) dX6_above_1 rfl ?_
  refine WP.icmp_ne (tgt := 9) dX6_above_2 (by decide) (fun c1 => ?_) (fun c1 => ?_)
  · have h := h.1 c1
    refine WP.iload_n 0 dX6_above_9 rfl rfl ?_
    refine WP.iconst (v := 5) dX6_above_10 rfl ?_
    refine WP.icmp_ne (tgt := 18) dX6_above_11 (by decide) (fun c2 => ?_) (fun c2 => ?_)
    · have h := h.1 c2
      refine WP.iconst (v := 0) dX6_above_18 rfl ?_
      exact WP.iret dX6_above_19 rfl (Nat.le_refl _) (Nat.le_refl _) ⟨_, rfl, h⟩
    · have h := h.2 c2
      refine WP.iconst (v := 2) dX6_above_14 rfl ?_
      refine WP.goto (tgt := 19) dX6_above_15 (by decide) ?_
      exact WP.iret dX6_above_19 rfl (Nat.le_refl _) (Nat.le_refl _) ⟨_, rfl, h⟩
  · have h := h.2 c1
    refine WP.iconst (v := 1) dX6_above_5 rfl ?_
    refine WP.goto (tgt := 19) dX6_above_6 (by decide) ?_
    exact WP.iret dX6_above_19 rfl (Nat.le_refl _) (Nat.le_refl _) ⟨_, rfl, h⟩
set_option maxHeartbeats 4000000 in
set_option maxRecDepth 20000 in
theorem rg_X6_kindNow_0 (hG : fl G = false) (b : Nat) (h : sh[b]? = some (.inl 6) ∧ Cal G mX6_its d [.ref b, .int (m b 16), .int 0] sh ta m (fun v2 m3 => ∃ r4, v2 = some (.int r4) ∧ K (some (.int r4)) m3)) : WP G (rmD (d + 1) 0 0) mX6_kindNow (QC G sh ta K) 0 0 0 [(0, .ref b)] [] (sh, ta, m) := by
  refine WP.aload_n 0 dX6_kindNow_0 rfl rfl ?_
  refine WP.aload_n 0 dX6_kindNow_1 rfl rfl ?_
  obtain ⟨h1, h⟩ := h
  refine WP.getI 6 16 wf_X6_230 (by decide) (by decide) rfl h1 dX6_kindNow_2 ?_
  refine WP.iconst (v := 0) dX6_kindNow_5 rfl ?_
  refine WP.callV (y := mX6_its) (As := [.int (m b 16), .int 0]) (st := []) dX6_kindNow_6 wm_X6_62 mw_X6_its rfl (Nat.le_of_ble_eq_true rfl) (rmok d) h1 (by decide) rfl h (fun v2 Sm3 h5 => ?_)
  obtain ⟨m3, rfl, r4, rfl, h⟩ := h5
  show WP G _ _ _ 0 0 9 [(0, .ref b)] [.int r4] (sh, ta, m3)
  exact WP.iret dX6_kindNow_9 rfl (Nat.le_refl _) (Nat.le_refl _) ⟨_, rfl, h⟩
set_option maxHeartbeats 4000000 in
set_option maxRecDepth 20000 in
theorem rg_X6_mNow_0 (hG : fl G = false) (b : Nat) (h : sh[b]? = some (.inl 6) ∧ Cal G mX6_its d [.ref b, .int (m b 16), .int 1] sh ta m (fun v2 m3 => ∃ r4, v2 = some (.int r4) ∧ K (some (.int r4)) m3)) : WP G (rmD (d + 1) 0 0) mX6_mNow (QC G sh ta K) 0 0 0 [(0, .ref b)] [] (sh, ta, m) := by
  refine WP.aload_n 0 dX6_mNow_0 rfl rfl ?_
  refine WP.aload_n 0 dX6_mNow_1 rfl rfl ?_
  obtain ⟨h1, h⟩ := h
  refine WP.getI 6 16 wf_X6_230 (by decide) (by decide) rfl h1 dX6_mNow_2 ?_
  refine WP.iconst (v := 1) dX6_mNow_5 rfl ?_
  refine WP.callV (y := mX6_its) (As := [.int (m b 16), .int 1]) (st := []) dX6_mNow_6 wm_X6_62 mw_X6_its rfl (Nat.le_of_ble_eq_true rfl) (rmok d) h1 (by decide) rfl h (fun v2 Sm3 h5 => ?_)
  obtain ⟨m3, rfl, r4, rfl, h⟩ := h5
  show WP G _ _ _ 0 0 9 [(0, .ref b)] [.int r4] (sh, ta, m3)
  exact WP.iret dX6_mNow_9 rfl (Nat.le_refl _) (Nat.le_refl _) ⟨_, rfl, h⟩
set_option maxHeartbeats 4000000 in
set_option maxRecDepth 20000 in
theorem rg_X6_liesAs_0 (hG : fl G = false) (b : Nat) (x1 : Int32) (x2 : Int32) (h : (((x1.toInt < 0 ∨ 6 < x1.toInt) → Cal G mX6_above d [.int x1] sh ta m (fun v2 m3 => ∃ r4, v2 = some (.int r4) ∧ sh[b]? = some (.inl 6) ∧ Cal G mX6_liesAs d [.ref b, .int r4, .int x2] sh ta m3 (fun v6 m7 => ∃ r8, v6 = some (.int r8) ∧ K (some (.int r8)) m7))) ∧ (x1 = 0 → sh[b]? = some (.inl 6) ∧ Cal G mX6_begins d [.ref b, .int 10] sh ta m (fun v11 m12 => v11 = none ∧ K (some (.int (x2 + (m12 b 16)))) m12)) ∧ (x1 = 1 → sh[b]? = some (.inl 6) ∧ Cal G mX6_begins d [.ref b, .int 20] sh ta m (fun v16 m17 => v16 = none ∧ Cal G mX6_above d [.int 1] sh ta m17 (fun v21 m22 => ∃ r23, v21 = some (.int r23) ∧ Cal G mX6_liesAs d [.ref b, .int r23, .int x2] sh ta m22 (fun v25 m26 => ∃ r27, v25 = some (.int r27) ∧ K (some (.int (r27 - 3))) m26)))) ∧ (x1 = 2 → Cal G mX6_above d [.int x1] sh ta m (fun v29 m30 => ∃ r31, v29 = some (.int r31) ∧ sh[b]? = some (.inl 6) ∧ Cal G mX6_liesAs d [.ref b, .int r31, .int x2] sh ta m30 (fun v33 m34 => ∃ r35, v33 = some (.int r35) ∧ K (some (.int r35)) m34))) ∧ (x1 = 3 → Cal G mX6_above d [.int x1] sh ta m (fun v38 m39 => ∃ r40, v38 = some (.int r40) ∧ sh[b]? = some (.inl 6) ∧ Cal G mX6_liesAs d [.ref b, .int r40, .int x2] sh ta m39 (fun v42 m43 => ∃ r44, v42 = some (.int r44) ∧ K (some (.int r44)) m43))) ∧ (x1 = 4 → sh[b]? = some (.inl 6) ∧ Cal G mX6_begins d [.ref b, .int 50] sh ta m (fun v47 m48 => v47 = none ∧ Cal G mX6_above d [.int 4] sh ta m48 (fun v52 m53 => ∃ r54, v52 = some (.int r54) ∧ Cal G mX6_liesAs d [.ref b, .int r54, .int x2] sh ta m53 (fun v56 m57 => ∃ r58, v56 = some (.int r58) ∧ K (some (.int (r58 * 3))) m57)))) ∧ (x1 = 5 → Cal G mX6_above d [.int x1] sh ta m (fun v60 m61 => ∃ r62, v60 = some (.int r62) ∧ sh[b]? = some (.inl 6) ∧ Cal G mX6_liesAs d [.ref b, .int r62, .int x2] sh ta m61 (fun v64 m65 => ∃ r66, v64 = some (.int r66) ∧ K (some (.int r66)) m65))) ∧ (x1 = 6 → sh[b]? = some (.inl 6) ∧ Cal G mX6_begins d [.ref b, .int 70] sh ta m (fun v69 m70 => v69 = none ∧ K (some (.int 4)) m70)))) : WP G (rmD (d + 1) 0 0) mX6_liesAs (QC G sh ta K) 0 0 0 [(0, .ref b), (1, .int x1), (2, .int x2)] [] (sh, ta, m) := by
  refine WP.iload_n 1 dX6_liesAs_0 rfl rfl ?_
  by_cases c1 : (x1 : Int32).toInt < 0 ∨ 6 < (x1 : Int32).toInt
  · have h := h.1 c1
    refine WP.tswO (td := 101) dX6_liesAs_1 c1 (by decide) ?_
    refine WP.aload_n 0 dX6_liesAs_101 rfl rfl ?_
    refine WP.iload_n 1 dX6_liesAs_102 rfl rfl ?_
    refine WP.callS (y := mX6_above) (As := [.int x1]) (st := [.ref b]) dX6_liesAs_103 wm_X6_236 mw_X6_above rfl (Nat.le_of_ble_eq_true rfl) (rmok d) rfl h (fun v2 Sm3 h5 => ?_)
    obtain ⟨m3, rfl, r4, rfl, h⟩ := h5
    show WP G _ _ _ 0 0 106 [(0, .ref b), (1, .int x1), (2, .int x2)] [.int r4, .ref b] (sh, ta, m3)
    refine WP.iload_n 2 dX6_liesAs_106 rfl rfl ?_
    obtain ⟨h10, h⟩ := h
    refine WP.callV (y := mX6_liesAs) (As := [.int r4, .int x2]) (st := []) dX6_liesAs_107 wm_X6_239 mw_X6_liesAs rfl (Nat.le_of_ble_eq_true rfl) (rmok d) h10 (by decide) rfl h (fun v6 Sm7 h9 => ?_)
    obtain ⟨m7, rfl, r8, rfl, h⟩ := h9
    show WP G _ _ _ 0 0 110 [(0, .ref b), (1, .int x1), (2, .int x2)] [.int r8] (sh, ta, m7)
    exact WP.iret dX6_liesAs_110 rfl (Nat.le_refl _) (Nat.le_refl _) ⟨_, rfl, h⟩
  rcases (show (x1 : Int32).toInt = 0 ∨ (x1 : Int32).toInt = 1 ∨ (x1 : Int32).toInt = 2 ∨ (x1 : Int32).toInt = 3 ∨ (x1 : Int32).toInt = 4 ∨ (x1 : Int32).toInt = 5 ∨ (x1 : Int32).toInt = 6 by omega) with c1 | c1 | c1 | c1 | c1 | c1 | c1
  · have h := h.2.1 (i32_of c1 rfl)
    refine WP.tswI (td := 44) 0 dX6_liesAs_1 c1 (by decide) rfl (by decide) ?_
    refine WP.aload_n 0 dX6_liesAs_44 rfl rfl ?_
    refine WP.bipush (v := 10) dX6_liesAs_45 rfl ?_
    obtain ⟨h15, h⟩ := h
    refine WP.callV (y := mX6_begins) (As := [.int 10]) (st := []) dX6_liesAs_47 wm_X6_233 mw_X6_begins rfl (Nat.le_of_ble_eq_true rfl) (rmok d) h15 (by decide) rfl h (fun v11 Sm12 h14 => ?_)
    obtain ⟨m12, rfl, rfl, h⟩ := h14
    show WP G _ _ _ 0 0 50 [(0, .ref b), (1, .int x1), (2, .int x2)] [] (sh, ta, m12)
    refine WP.iload_n 2 dX6_liesAs_50 rfl rfl ?_
    refine WP.aload_n 0 dX6_liesAs_51 rfl rfl ?_
    refine WP.getI 6 16 wf_X6_230 (by decide) (by decide) rfl h15 dX6_liesAs_52 ?_
    refine WP.iadd dX6_liesAs_55 ?_
    exact WP.iret dX6_liesAs_56 rfl (Nat.le_refl _) (Nat.le_refl _) ⟨_, rfl, h⟩
  · have h := h.2.2.1 (i32_of c1 rfl)
    refine WP.tswI (td := 57) 1 dX6_liesAs_1 c1 (by decide) rfl (by decide) ?_
    refine WP.aload_n 0 dX6_liesAs_57 rfl rfl ?_
    refine WP.bipush (v := 20) dX6_liesAs_58 rfl ?_
    obtain ⟨h20, h⟩ := h
    refine WP.callV (y := mX6_begins) (As := [.int 20]) (st := []) dX6_liesAs_60 wm_X6_233 mw_X6_begins rfl (Nat.le_of_ble_eq_true rfl) (rmok d) h20 (by decide) rfl h (fun v16 Sm17 h19 => ?_)
    obtain ⟨m17, rfl, rfl, h⟩ := h19
    show WP G _ _ _ 0 0 63 [(0, .ref b), (1, .int x1), (2, .int x2)] [] (sh, ta, m17)
    refine WP.aload_n 0 dX6_liesAs_63 rfl rfl ?_
    refine WP.iconst (v := 1) dX6_liesAs_64 rfl ?_
    refine WP.callS (y := mX6_above) (As := [.int 1]) (st := [.ref b]) dX6_liesAs_65 wm_X6_236 mw_X6_above rfl (Nat.le_of_ble_eq_true rfl) (rmok d) rfl h (fun v21 Sm22 h24 => ?_)
    obtain ⟨m22, rfl, r23, rfl, h⟩ := h24
    show WP G _ _ _ 0 0 68 [(0, .ref b), (1, .int x1), (2, .int x2)] [.int r23, .ref b] (sh, ta, m22)
    refine WP.iload_n 2 dX6_liesAs_68 rfl rfl ?_
    refine WP.callV (y := mX6_liesAs) (As := [.int r23, .int x2]) (st := []) dX6_liesAs_69 wm_X6_239 mw_X6_liesAs rfl (Nat.le_of_ble_eq_true rfl) (rmok d) h20 (by decide) rfl h (fun v25 Sm26 h28 => ?_)
    obtain ⟨m26, rfl, r27, rfl, h⟩ := h28
    show WP G _ _ _ 0 0 72 [(0, .ref b), (1, .int x1), (2, .int x2)] [.int r27] (sh, ta, m26)
    refine WP.iconst (v := 3) dX6_liesAs_72 rfl ?_
    refine WP.isub dX6_liesAs_73 ?_
    exact WP.iret dX6_liesAs_74 rfl (Nat.le_refl _) (Nat.le_refl _) ⟨_, rfl, h⟩
  · have h := h.2.2.2.1 (i32_of c1 rfl)
    refine WP.tswI (td := 101) 2 dX6_liesAs_1 c1 (by decide) rfl (by decide) ?_
    refine WP.aload_n 0 dX6_liesAs_101 rfl rfl ?_
    refine WP.iload_n 1 dX6_liesAs_102 rfl rfl ?_
    refine WP.callS (y := mX6_above) (As := [.int x1]) (st := [.ref b]) dX6_liesAs_103 wm_X6_236 mw_X6_above rfl (Nat.le_of_ble_eq_true rfl) (rmok d) rfl h (fun v29 Sm30 h32 => ?_)
    obtain ⟨m30, rfl, r31, rfl, h⟩ := h32
    show WP G _ _ _ 0 0 106 [(0, .ref b), (1, .int x1), (2, .int x2)] [.int r31, .ref b] (sh, ta, m30)
    refine WP.iload_n 2 dX6_liesAs_106 rfl rfl ?_
    obtain ⟨h37, h⟩ := h
    refine WP.callV (y := mX6_liesAs) (As := [.int r31, .int x2]) (st := []) dX6_liesAs_107 wm_X6_239 mw_X6_liesAs rfl (Nat.le_of_ble_eq_true rfl) (rmok d) h37 (by decide) rfl h (fun v33 Sm34 h36 => ?_)
    obtain ⟨m34, rfl, r35, rfl, h⟩ := h36
    show WP G _ _ _ 0 0 110 [(0, .ref b), (1, .int x1), (2, .int x2)] [.int r35] (sh, ta, m34)
    exact WP.iret dX6_liesAs_110 rfl (Nat.le_refl _) (Nat.le_refl _) ⟨_, rfl, h⟩
  · have h := h.2.2.2.2.1 (i32_of c1 rfl)
    refine WP.tswI (td := 101) 3 dX6_liesAs_1 c1 (by decide) rfl (by decide) ?_
    refine WP.aload_n 0 dX6_liesAs_101 rfl rfl ?_
    refine WP.iload_n 1 dX6_liesAs_102 rfl rfl ?_
    refine WP.callS (y := mX6_above) (As := [.int x1]) (st := [.ref b]) dX6_liesAs_103 wm_X6_236 mw_X6_above rfl (Nat.le_of_ble_eq_true rfl) (rmok d) rfl h (fun v38 Sm39 h41 => ?_)
    obtain ⟨m39, rfl, r40, rfl, h⟩ := h41
    show WP G _ _ _ 0 0 106 [(0, .ref b), (1, .int x1), (2, .int x2)] [.int r40, .ref b] (sh, ta, m39)
    refine WP.iload_n 2 dX6_liesAs_106 rfl rfl ?_
    obtain ⟨h46, h⟩ := h
    refine WP.callV (y := mX6_liesAs) (As := [.int r40, .int x2]) (st := []) dX6_liesAs_107 wm_X6_239 mw_X6_liesAs rfl (Nat.le_of_ble_eq_true rfl) (rmok d) h46 (by decide) rfl h (fun v42 Sm43 h45 => ?_)
    obtain ⟨m43, rfl, r44, rfl, h⟩ := h45
    show WP G _ _ _ 0 0 110 [(0, .ref b), (1, .int x1), (2, .int x2)] [.int r44] (sh, ta, m43)
    exact WP.iret dX6_liesAs_110 rfl (Nat.le_refl _) (Nat.le_refl _) ⟨_, rfl, h⟩
  · have h := h.2.2.2.2.2.1 (i32_of c1 rfl)
    refine WP.tswI (td := 75) 4 dX6_liesAs_1 c1 (by decide) rfl (by decide) ?_
    refine WP.aload_n 0 dX6_liesAs_75 rfl rfl ?_
    refine WP.bipush (v := 50) dX6_liesAs_76 rfl ?_
    obtain ⟨h51, h⟩ := h
    refine WP.callV (y := mX6_begins) (As := [.int 50]) (st := []) dX6_liesAs_78 wm_X6_233 mw_X6_begins rfl (Nat.le_of_ble_eq_true rfl) (rmok d) h51 (by decide) rfl h (fun v47 Sm48 h50 => ?_)
    obtain ⟨m48, rfl, rfl, h⟩ := h50
    show WP G _ _ _ 0 0 81 [(0, .ref b), (1, .int x1), (2, .int x2)] [] (sh, ta, m48)
    refine WP.aload_n 0 dX6_liesAs_81 rfl rfl ?_
    refine WP.iconst (v := 4) dX6_liesAs_82 rfl ?_
    refine WP.callS (y := mX6_above) (As := [.int 4]) (st := [.ref b]) dX6_liesAs_83 wm_X6_236 mw_X6_above rfl (Nat.le_of_ble_eq_true rfl) (rmok d) rfl h (fun v52 Sm53 h55 => ?_)
    obtain ⟨m53, rfl, r54, rfl, h⟩ := h55
    show WP G _ _ _ 0 0 86 [(0, .ref b), (1, .int x1), (2, .int x2)] [.int r54, .ref b] (sh, ta, m53)
    refine WP.iload_n 2 dX6_liesAs_86 rfl rfl ?_
    refine WP.callV (y := mX6_liesAs) (As := [.int r54, .int x2]) (st := []) dX6_liesAs_87 wm_X6_239 mw_X6_liesAs rfl (Nat.le_of_ble_eq_true rfl) (rmok d) h51 (by decide) rfl h (fun v56 Sm57 h59 => ?_)
    obtain ⟨m57, rfl, r58, rfl, h⟩ := h59
    show WP G _ _ _ 0 0 90 [(0, .ref b), (1, .int x1), (2, .int x2)] [.int r58] (sh, ta, m57)
    refine WP.iconst (v := 3) dX6_liesAs_90 rfl ?_
    refine WP.imul dX6_liesAs_91 ?_
    exact WP.iret dX6_liesAs_92 rfl (Nat.le_refl _) (Nat.le_refl _) ⟨_, rfl, h⟩
  · have h := h.2.2.2.2.2.2.1 (i32_of c1 rfl)
    refine WP.tswI (td := 101) 5 dX6_liesAs_1 c1 (by decide) rfl (by decide) ?_
    refine WP.aload_n 0 dX6_liesAs_101 rfl rfl ?_
    refine WP.iload_n 1 dX6_liesAs_102 rfl rfl ?_
    refine WP.callS (y := mX6_above) (As := [.int x1]) (st := [.ref b]) dX6_liesAs_103 wm_X6_236 mw_X6_above rfl (Nat.le_of_ble_eq_true rfl) (rmok d) rfl h (fun v60 Sm61 h63 => ?_)
    obtain ⟨m61, rfl, r62, rfl, h⟩ := h63
    show WP G _ _ _ 0 0 106 [(0, .ref b), (1, .int x1), (2, .int x2)] [.int r62, .ref b] (sh, ta, m61)
    refine WP.iload_n 2 dX6_liesAs_106 rfl rfl ?_
    obtain ⟨h68, h⟩ := h
    refine WP.callV (y := mX6_liesAs) (As := [.int r62, .int x2]) (st := []) dX6_liesAs_107 wm_X6_239 mw_X6_liesAs rfl (Nat.le_of_ble_eq_true rfl) (rmok d) h68 (by decide) rfl h (fun v64 Sm65 h67 => ?_)
    obtain ⟨m65, rfl, r66, rfl, h⟩ := h67
    show WP G _ _ _ 0 0 110 [(0, .ref b), (1, .int x1), (2, .int x2)] [.int r66] (sh, ta, m65)
    exact WP.iret dX6_liesAs_110 rfl (Nat.le_refl _) (Nat.le_refl _) ⟨_, rfl, h⟩
  · have h := h.2.2.2.2.2.2.2 (i32_of c1 rfl)
    refine WP.tswI (td := 93) 6 dX6_liesAs_1 c1 (by decide) rfl (by decide) ?_
    refine WP.aload_n 0 dX6_liesAs_93 rfl rfl ?_
    refine WP.bipush (v := 70) dX6_liesAs_94 rfl ?_
    obtain ⟨h73, h⟩ := h
    refine WP.callV (y := mX6_begins) (As := [.int 70]) (st := []) dX6_liesAs_96 wm_X6_233 mw_X6_begins rfl (Nat.le_of_ble_eq_true rfl) (rmok d) h73 (by decide) rfl h (fun v69 Sm70 h72 => ?_)
    obtain ⟨m70, rfl, rfl, h⟩ := h72
    show WP G _ _ _ 0 0 99 [(0, .ref b), (1, .int x1), (2, .int x2)] [] (sh, ta, m70)
    refine WP.iconst (v := 4) dX6_liesAs_99 rfl ?_
    exact WP.iret dX6_liesAs_100 rfl (Nat.le_refl _) (Nat.le_refl _) ⟨_, rfl, h⟩
set_option maxHeartbeats 4000000 in
set_option maxRecDepth 20000 in
theorem rg_X6_rollsAs_0 (hG : fl G = false) (b : Nat) (x1 : Int32) (x2 : Int32) (h : (((x1.toInt < 0 ∨ 6 < x1.toInt) → Cal G mX6_above d [.int x1] sh ta m (fun v2 m3 => ∃ r4, v2 = some (.int r4) ∧ sh[b]? = some (.inl 6) ∧ Cal G mX6_rollsAs d [.ref b, .int r4, .int x2] sh ta m3 (fun v6 m7 => ∃ r8, v6 = some (.int r8) ∧ K (some (.int r8)) m7))) ∧ (x1 = 0 → sh[b]? = some (.inl 6) ∧ Cal G mX6_begins d [.ref b, .int 11] sh ta m (fun v11 m12 => v11 = none ∧ Cal G mX6_kindNow d [.ref b] sh ta m12 (fun v16 m17 => ∃ r18, v16 = some (.int r18) ∧ Cal G mX6_liesAs d [.ref b, .int r18, .int x2] sh ta m17 (fun v20 m21 => ∃ r22, v20 = some (.int r22) ∧ K (some (.int (r22 * 2))) m21)))) ∧ (x1 = 1 → Cal G mX6_above d [.int x1] sh ta m (fun v24 m25 => ∃ r26, v24 = some (.int r26) ∧ sh[b]? = some (.inl 6) ∧ Cal G mX6_rollsAs d [.ref b, .int r26, .int x2] sh ta m25 (fun v28 m29 => ∃ r30, v28 = some (.int r30) ∧ K (some (.int r30)) m29))) ∧ (x1 = 2 → sh[b]? = some (.inl 6) ∧ Cal G mX6_begins d [.ref b, .int 30] sh ta m (fun v33 m34 => v33 = none ∧ Cal G mX6_above d [.int 2] sh ta m34 (fun v38 m39 => ∃ r40, v38 = some (.int r40) ∧ Cal G mX6_rollsAs d [.ref b, .int r40, .int x2] sh ta m39 (fun v42 m43 => ∃ r44, v42 = some (.int r44) ∧ K (some (.int (0 - r44))) m43)))) ∧ (x1 = 3 → Cal G mX6_above d [.int x1] sh ta m (fun v46 m47 => ∃ r48, v46 = some (.int r48) ∧ sh[b]? = some (.inl 6) ∧ Cal G mX6_rollsAs d [.ref b, .int r48, .int x2] sh ta m47 (fun v50 m51 => ∃ r52, v50 = some (.int r52) ∧ K (some (.int r52)) m51))) ∧ (x1 = 4 → Cal G mX6_above d [.int x1] sh ta m (fun v55 m56 => ∃ r57, v55 = some (.int r57) ∧ sh[b]? = some (.inl 6) ∧ Cal G mX6_rollsAs d [.ref b, .int r57, .int x2] sh ta m56 (fun v59 m60 => ∃ r61, v59 = some (.int r61) ∧ K (some (.int r61)) m60))) ∧ (x1 = 5 → sh[b]? = some (.inl 6) ∧ Cal G mX6_begins d [.ref b, .int 60] sh ta m (fun v64 m65 => v64 = none ∧ Cal G mX6_above d [.int 5] sh ta m65 (fun v69 m70 => ∃ r71, v69 = some (.int r71) ∧ Cal G mX6_rollsAs d [.ref b, .int r71, .int (x2 + 1)] sh ta m70 (fun v73 m74 => ∃ r75, v73 = some (.int r75) ∧ K (some (.int r75)) m74)))) ∧ (x1 = 6 → sh[b]? = some (.inl 6) ∧ Cal G mX6_begins d [.ref b, .int 71] sh ta m (fun v77 m78 => v77 = none ∧ Cal G mX6_above d [.int 6] sh ta m78 (fun v82 m83 => ∃ r84, v82 = some (.int r84) ∧ Cal G mX6_rollsAs d [.ref b, .int r84, .int x2] sh ta m83 (fun v86 m87 => ∃ r88, v86 = some (.int r88) ∧ Cal G mX6_mNow d [.ref b] sh ta m87 (fun v90 m91 => ∃ r92, v90 = some (.int r92) ∧ K (some (.int (r88 + r92))) m91))))))) : WP G (rmD (d + 1) 0 0) mX6_rollsAs (QC G sh ta K) 0 0 0 [(0, .ref b), (1, .int x1), (2, .int x2)] [] (sh, ta, m) := by
  refine WP.iload_n 1 dX6_rollsAs_0 rfl rfl ?_
  by_cases c1 : (x1 : Int32).toInt < 0 ∨ 6 < (x1 : Int32).toInt
  · have h := h.1 c1
    refine WP.tswO (td := 120) dX6_rollsAs_1 c1 (by decide) ?_
    refine WP.aload_n 0 dX6_rollsAs_120 rfl rfl ?_
    refine WP.iload_n 1 dX6_rollsAs_121 rfl rfl ?_
    refine WP.callS (y := mX6_above) (As := [.int x1]) (st := [.ref b]) dX6_rollsAs_122 wm_X6_236 mw_X6_above rfl (Nat.le_of_ble_eq_true rfl) (rmok d) rfl h (fun v2 Sm3 h5 => ?_)
    obtain ⟨m3, rfl, r4, rfl, h⟩ := h5
    show WP G _ _ _ 0 0 125 [(0, .ref b), (1, .int x1), (2, .int x2)] [.int r4, .ref b] (sh, ta, m3)
    refine WP.iload_n 2 dX6_rollsAs_125 rfl rfl ?_
    obtain ⟨h10, h⟩ := h
    refine WP.callV (y := mX6_rollsAs) (As := [.int r4, .int x2]) (st := []) dX6_rollsAs_126 wm_X6_245 mw_X6_rollsAs rfl (Nat.le_of_ble_eq_true rfl) (rmok d) h10 (by decide) rfl h (fun v6 Sm7 h9 => ?_)
    obtain ⟨m7, rfl, r8, rfl, h⟩ := h9
    show WP G _ _ _ 0 0 129 [(0, .ref b), (1, .int x1), (2, .int x2)] [.int r8] (sh, ta, m7)
    exact WP.iret dX6_rollsAs_129 rfl (Nat.le_refl _) (Nat.le_refl _) ⟨_, rfl, h⟩
  rcases (show (x1 : Int32).toInt = 0 ∨ (x1 : Int32).toInt = 1 ∨ (x1 : Int32).toInt = 2 ∨ (x1 : Int32).toInt = 3 ∨ (x1 : Int32).toInt = 4 ∨ (x1 : Int32).toInt = 5 ∨ (x1 : Int32).toInt = 6 by omega) with c1 | c1 | c1 | c1 | c1 | c1 | c1
  · have h := h.2.1 (i32_of c1 rfl)
    refine WP.tswI (td := 44) 0 dX6_rollsAs_1 c1 (by decide) rfl (by decide) ?_
    refine WP.aload_n 0 dX6_rollsAs_44 rfl rfl ?_
    refine WP.bipush (v := 11) dX6_rollsAs_45 rfl ?_
    obtain ⟨h15, h⟩ := h
    refine WP.callV (y := mX6_begins) (As := [.int 11]) (st := []) dX6_rollsAs_47 wm_X6_233 mw_X6_begins rfl (Nat.le_of_ble_eq_true rfl) (rmok d) h15 (by decide) rfl h (fun v11 Sm12 h14 => ?_)
    obtain ⟨m12, rfl, rfl, h⟩ := h14
    show WP G _ _ _ 0 0 50 [(0, .ref b), (1, .int x1), (2, .int x2)] [] (sh, ta, m12)
    refine WP.aload_n 0 dX6_rollsAs_50 rfl rfl ?_
    refine WP.aload_n 0 dX6_rollsAs_51 rfl rfl ?_
    refine WP.callV (y := mX6_kindNow) (As := []) (st := [.ref b]) dX6_rollsAs_52 wm_X6_242 mw_X6_kindNow rfl (Nat.le_of_ble_eq_true rfl) (rmok d) h15 (by decide) rfl h (fun v16 Sm17 h19 => ?_)
    obtain ⟨m17, rfl, r18, rfl, h⟩ := h19
    show WP G _ _ _ 0 0 55 [(0, .ref b), (1, .int x1), (2, .int x2)] [.int r18, .ref b] (sh, ta, m17)
    refine WP.iload_n 2 dX6_rollsAs_55 rfl rfl ?_
    refine WP.callV (y := mX6_liesAs) (As := [.int r18, .int x2]) (st := []) dX6_rollsAs_56 wm_X6_239 mw_X6_liesAs rfl (Nat.le_of_ble_eq_true rfl) (rmok d) h15 (by decide) rfl h (fun v20 Sm21 h23 => ?_)
    obtain ⟨m21, rfl, r22, rfl, h⟩ := h23
    show WP G _ _ _ 0 0 59 [(0, .ref b), (1, .int x1), (2, .int x2)] [.int r22] (sh, ta, m21)
    refine WP.iconst (v := 2) dX6_rollsAs_59 rfl ?_
    refine WP.imul dX6_rollsAs_60 ?_
    exact WP.iret dX6_rollsAs_61 rfl (Nat.le_refl _) (Nat.le_refl _) ⟨_, rfl, h⟩
  · have h := h.2.2.1 (i32_of c1 rfl)
    refine WP.tswI (td := 120) 1 dX6_rollsAs_1 c1 (by decide) rfl (by decide) ?_
    refine WP.aload_n 0 dX6_rollsAs_120 rfl rfl ?_
    refine WP.iload_n 1 dX6_rollsAs_121 rfl rfl ?_
    refine WP.callS (y := mX6_above) (As := [.int x1]) (st := [.ref b]) dX6_rollsAs_122 wm_X6_236 mw_X6_above rfl (Nat.le_of_ble_eq_true rfl) (rmok d) rfl h (fun v24 Sm25 h27 => ?_)
    obtain ⟨m25, rfl, r26, rfl, h⟩ := h27
    show WP G _ _ _ 0 0 125 [(0, .ref b), (1, .int x1), (2, .int x2)] [.int r26, .ref b] (sh, ta, m25)
    refine WP.iload_n 2 dX6_rollsAs_125 rfl rfl ?_
    obtain ⟨h32, h⟩ := h
    refine WP.callV (y := mX6_rollsAs) (As := [.int r26, .int x2]) (st := []) dX6_rollsAs_126 wm_X6_245 mw_X6_rollsAs rfl (Nat.le_of_ble_eq_true rfl) (rmok d) h32 (by decide) rfl h (fun v28 Sm29 h31 => ?_)
    obtain ⟨m29, rfl, r30, rfl, h⟩ := h31
    show WP G _ _ _ 0 0 129 [(0, .ref b), (1, .int x1), (2, .int x2)] [.int r30] (sh, ta, m29)
    exact WP.iret dX6_rollsAs_129 rfl (Nat.le_refl _) (Nat.le_refl _) ⟨_, rfl, h⟩
  · have h := h.2.2.2.1 (i32_of c1 rfl)
    refine WP.tswI (td := 62) 2 dX6_rollsAs_1 c1 (by decide) rfl (by decide) ?_
    refine WP.aload_n 0 dX6_rollsAs_62 rfl rfl ?_
    refine WP.bipush (v := 30) dX6_rollsAs_63 rfl ?_
    obtain ⟨h37, h⟩ := h
    refine WP.callV (y := mX6_begins) (As := [.int 30]) (st := []) dX6_rollsAs_65 wm_X6_233 mw_X6_begins rfl (Nat.le_of_ble_eq_true rfl) (rmok d) h37 (by decide) rfl h (fun v33 Sm34 h36 => ?_)
    obtain ⟨m34, rfl, rfl, h⟩ := h36
    show WP G _ _ _ 0 0 68 [(0, .ref b), (1, .int x1), (2, .int x2)] [] (sh, ta, m34)
    refine WP.iconst (v := 0) dX6_rollsAs_68 rfl ?_
    refine WP.aload_n 0 dX6_rollsAs_69 rfl rfl ?_
    refine WP.iconst (v := 2) dX6_rollsAs_70 rfl ?_
    refine WP.callS (y := mX6_above) (As := [.int 2]) (st := [.ref b, .int 0]) dX6_rollsAs_71 wm_X6_236 mw_X6_above rfl (Nat.le_of_ble_eq_true rfl) (rmok d) rfl h (fun v38 Sm39 h41 => ?_)
    obtain ⟨m39, rfl, r40, rfl, h⟩ := h41
    show WP G _ _ _ 0 0 74 [(0, .ref b), (1, .int x1), (2, .int x2)] [.int r40, .ref b, .int 0] (sh, ta, m39)
    refine WP.iload_n 2 dX6_rollsAs_74 rfl rfl ?_
    refine WP.callV (y := mX6_rollsAs) (As := [.int r40, .int x2]) (st := [.int 0]) dX6_rollsAs_75 wm_X6_245 mw_X6_rollsAs rfl (Nat.le_of_ble_eq_true rfl) (rmok d) h37 (by decide) rfl h (fun v42 Sm43 h45 => ?_)
    obtain ⟨m43, rfl, r44, rfl, h⟩ := h45
    show WP G _ _ _ 0 0 78 [(0, .ref b), (1, .int x1), (2, .int x2)] [.int r44, .int 0] (sh, ta, m43)
    refine WP.isub dX6_rollsAs_78 ?_
    exact WP.iret dX6_rollsAs_79 rfl (Nat.le_refl _) (Nat.le_refl _) ⟨_, rfl, h⟩
  · have h := h.2.2.2.2.1 (i32_of c1 rfl)
    refine WP.tswI (td := 120) 3 dX6_rollsAs_1 c1 (by decide) rfl (by decide) ?_
    refine WP.aload_n 0 dX6_rollsAs_120 rfl rfl ?_
    refine WP.iload_n 1 dX6_rollsAs_121 rfl rfl ?_
    refine WP.callS (y := mX6_above) (As := [.int x1]) (st := [.ref b]) dX6_rollsAs_122 wm_X6_236 mw_X6_above rfl (Nat.le_of_ble_eq_true rfl) (rmok d) rfl h (fun v46 Sm47 h49 => ?_)
    obtain ⟨m47, rfl, r48, rfl, h⟩ := h49
    show WP G _ _ _ 0 0 125 [(0, .ref b), (1, .int x1), (2, .int x2)] [.int r48, .ref b] (sh, ta, m47)
    refine WP.iload_n 2 dX6_rollsAs_125 rfl rfl ?_
    obtain ⟨h54, h⟩ := h
    refine WP.callV (y := mX6_rollsAs) (As := [.int r48, .int x2]) (st := []) dX6_rollsAs_126 wm_X6_245 mw_X6_rollsAs rfl (Nat.le_of_ble_eq_true rfl) (rmok d) h54 (by decide) rfl h (fun v50 Sm51 h53 => ?_)
    obtain ⟨m51, rfl, r52, rfl, h⟩ := h53
    show WP G _ _ _ 0 0 129 [(0, .ref b), (1, .int x1), (2, .int x2)] [.int r52] (sh, ta, m51)
    exact WP.iret dX6_rollsAs_129 rfl (Nat.le_refl _) (Nat.le_refl _) ⟨_, rfl, h⟩
  · have h := h.2.2.2.2.2.1 (i32_of c1 rfl)
    refine WP.tswI (td := 120) 4 dX6_rollsAs_1 c1 (by decide) rfl (by decide) ?_
    refine WP.aload_n 0 dX6_rollsAs_120 rfl rfl ?_
    refine WP.iload_n 1 dX6_rollsAs_121 rfl rfl ?_
    refine WP.callS (y := mX6_above) (As := [.int x1]) (st := [.ref b]) dX6_rollsAs_122 wm_X6_236 mw_X6_above rfl (Nat.le_of_ble_eq_true rfl) (rmok d) rfl h (fun v55 Sm56 h58 => ?_)
    obtain ⟨m56, rfl, r57, rfl, h⟩ := h58
    show WP G _ _ _ 0 0 125 [(0, .ref b), (1, .int x1), (2, .int x2)] [.int r57, .ref b] (sh, ta, m56)
    refine WP.iload_n 2 dX6_rollsAs_125 rfl rfl ?_
    obtain ⟨h63, h⟩ := h
    refine WP.callV (y := mX6_rollsAs) (As := [.int r57, .int x2]) (st := []) dX6_rollsAs_126 wm_X6_245 mw_X6_rollsAs rfl (Nat.le_of_ble_eq_true rfl) (rmok d) h63 (by decide) rfl h (fun v59 Sm60 h62 => ?_)
    obtain ⟨m60, rfl, r61, rfl, h⟩ := h62
    show WP G _ _ _ 0 0 129 [(0, .ref b), (1, .int x1), (2, .int x2)] [.int r61] (sh, ta, m60)
    exact WP.iret dX6_rollsAs_129 rfl (Nat.le_refl _) (Nat.le_refl _) ⟨_, rfl, h⟩
  · have h := h.2.2.2.2.2.2.1 (i32_of c1 rfl)
    refine WP.tswI (td := 80) 5 dX6_rollsAs_1 c1 (by decide) rfl (by decide) ?_
    refine WP.aload_n 0 dX6_rollsAs_80 rfl rfl ?_
    refine WP.bipush (v := 60) dX6_rollsAs_81 rfl ?_
    obtain ⟨h68, h⟩ := h
    refine WP.callV (y := mX6_begins) (As := [.int 60]) (st := []) dX6_rollsAs_83 wm_X6_233 mw_X6_begins rfl (Nat.le_of_ble_eq_true rfl) (rmok d) h68 (by decide) rfl h (fun v64 Sm65 h67 => ?_)
    obtain ⟨m65, rfl, rfl, h⟩ := h67
    show WP G _ _ _ 0 0 86 [(0, .ref b), (1, .int x1), (2, .int x2)] [] (sh, ta, m65)
    refine WP.aload_n 0 dX6_rollsAs_86 rfl rfl ?_
    refine WP.iconst (v := 5) dX6_rollsAs_87 rfl ?_
    refine WP.callS (y := mX6_above) (As := [.int 5]) (st := [.ref b]) dX6_rollsAs_88 wm_X6_236 mw_X6_above rfl (Nat.le_of_ble_eq_true rfl) (rmok d) rfl h (fun v69 Sm70 h72 => ?_)
    obtain ⟨m70, rfl, r71, rfl, h⟩ := h72
    show WP G _ _ _ 0 0 91 [(0, .ref b), (1, .int x1), (2, .int x2)] [.int r71, .ref b] (sh, ta, m70)
    refine WP.iload_n 2 dX6_rollsAs_91 rfl rfl ?_
    refine WP.iconst (v := 1) dX6_rollsAs_92 rfl ?_
    refine WP.iadd dX6_rollsAs_93 ?_
    refine WP.callV (y := mX6_rollsAs) (As := [.int r71, .int (x2 + 1)]) (st := []) dX6_rollsAs_94 wm_X6_245 mw_X6_rollsAs rfl (Nat.le_of_ble_eq_true rfl) (rmok d) h68 (by decide) rfl h (fun v73 Sm74 h76 => ?_)
    obtain ⟨m74, rfl, r75, rfl, h⟩ := h76
    show WP G _ _ _ 0 0 97 [(0, .ref b), (1, .int x1), (2, .int x2)] [.int r75] (sh, ta, m74)
    exact WP.iret dX6_rollsAs_97 rfl (Nat.le_refl _) (Nat.le_refl _) ⟨_, rfl, h⟩
  · have h := h.2.2.2.2.2.2.2 (i32_of c1 rfl)
    refine WP.tswI (td := 98) 6 dX6_rollsAs_1 c1 (by decide) rfl (by decide) ?_
    refine WP.aload_n 0 dX6_rollsAs_98 rfl rfl ?_
    refine WP.bipush (v := 71) dX6_rollsAs_99 rfl ?_
    obtain ⟨h81, h⟩ := h
    refine WP.callV (y := mX6_begins) (As := [.int 71]) (st := []) dX6_rollsAs_101 wm_X6_233 mw_X6_begins rfl (Nat.le_of_ble_eq_true rfl) (rmok d) h81 (by decide) rfl h (fun v77 Sm78 h80 => ?_)
    obtain ⟨m78, rfl, rfl, h⟩ := h80
    show WP G _ _ _ 0 0 104 [(0, .ref b), (1, .int x1), (2, .int x2)] [] (sh, ta, m78)
    refine WP.aload_n 0 dX6_rollsAs_104 rfl rfl ?_
    refine WP.bipush (v := 6) dX6_rollsAs_105 rfl ?_
    refine WP.callS (y := mX6_above) (As := [.int 6]) (st := [.ref b]) dX6_rollsAs_107 wm_X6_236 mw_X6_above rfl (Nat.le_of_ble_eq_true rfl) (rmok d) rfl h (fun v82 Sm83 h85 => ?_)
    obtain ⟨m83, rfl, r84, rfl, h⟩ := h85
    show WP G _ _ _ 0 0 110 [(0, .ref b), (1, .int x1), (2, .int x2)] [.int r84, .ref b] (sh, ta, m83)
    refine WP.iload_n 2 dX6_rollsAs_110 rfl rfl ?_
    refine WP.callV (y := mX6_rollsAs) (As := [.int r84, .int x2]) (st := []) dX6_rollsAs_111 wm_X6_245 mw_X6_rollsAs rfl (Nat.le_of_ble_eq_true rfl) (rmok d) h81 (by decide) rfl h (fun v86 Sm87 h89 => ?_)
    obtain ⟨m87, rfl, r88, rfl, h⟩ := h89
    show WP G _ _ _ 0 0 114 [(0, .ref b), (1, .int x1), (2, .int x2)] [.int r88] (sh, ta, m87)
    refine WP.aload_n 0 dX6_rollsAs_114 rfl rfl ?_
    refine WP.callV (y := mX6_mNow) (As := []) (st := [.int r88]) dX6_rollsAs_115 wm_X6_248 mw_X6_mNow rfl (Nat.le_of_ble_eq_true rfl) (rmok d) h81 (by decide) rfl h (fun v90 Sm91 h93 => ?_)
    obtain ⟨m91, rfl, r92, rfl, h⟩ := h93
    show WP G _ _ _ 0 0 118 [(0, .ref b), (1, .int x1), (2, .int x2)] [.int r92, .int r88] (sh, ta, m91)
    refine WP.iadd dX6_rollsAs_118 ?_
    exact WP.iret dX6_rollsAs_119 rfl (Nat.le_refl _) (Nat.le_refl _) ⟨_, rfl, h⟩
set_option maxHeartbeats 4000000 in
set_option maxRecDepth 20000 in
theorem rg_X6_fallsAs_0 (hG : fl G = false) (b : Nat) (x1 : Int32) (x2 : Int32) (h : (((x1.toInt < 0 ∨ 4 < x1.toInt) → Cal G mX6_above d [.int x1] sh ta m (fun v2 m3 => ∃ r4, v2 = some (.int r4) ∧ sh[b]? = some (.inl 6) ∧ Cal G mX6_fallsAs d [.ref b, .int r4, .int x2] sh ta m3 (fun v6 m7 => ∃ r8, v6 = some (.int r8) ∧ K (some (.int r8)) m7))) ∧ (x1 = 0 → sh[b]? = some (.inl 6) ∧ Cal G mX6_begins d [.ref b, .int 12] sh ta m (fun v11 m12 => v11 = none ∧ Cal G mX6_kindNow d [.ref b] sh ta m12 (fun v16 m17 => ∃ r18, v16 = some (.int r18) ∧ Cal G mX6_rollsAs d [.ref b, .int r18, .int x2] sh ta m17 (fun v20 m21 => ∃ r22, v20 = some (.int r22) ∧ Cal G mX6_mNow d [.ref b] sh ta m21 (fun v24 m25 => ∃ r26, v24 = some (.int r26) ∧ K (some (.int (r22 - r26))) m25))))) ∧ (x1 = 1 → Cal G mX6_above d [.int x1] sh ta m (fun v28 m29 => ∃ r30, v28 = some (.int r30) ∧ sh[b]? = some (.inl 6) ∧ Cal G mX6_fallsAs d [.ref b, .int r30, .int x2] sh ta m29 (fun v32 m33 => ∃ r34, v32 = some (.int r34) ∧ K (some (.int r34)) m33))) ∧ (x1 = 2 → Cal G mX6_above d [.int x1] sh ta m (fun v37 m38 => ∃ r39, v37 = some (.int r39) ∧ sh[b]? = some (.inl 6) ∧ Cal G mX6_fallsAs d [.ref b, .int r39, .int x2] sh ta m38 (fun v41 m42 => ∃ r43, v41 = some (.int r43) ∧ K (some (.int r43)) m42))) ∧ (x1 = 3 → sh[b]? = some (.inl 6) ∧ Cal G mX6_begins d [.ref b, .int 40] sh ta m (fun v46 m47 => v46 = none ∧ Cal G mX6_above d [.int 3] sh ta m47 (fun v51 m52 => ∃ r53, v51 = some (.int r53) ∧ ¬ (2 : Int32) = 0 ∧ Cal G mX6_fallsAs d [.ref b, .int r53, .int (x2 / 2)] sh ta m52 (fun v56 m57 => ∃ r58, v56 = some (.int r58) ∧ K (some (.int r58)) m57)))) ∧ (x1 = 4 → sh[b]? = some (.inl 6) ∧ Cal G mX6_begins d [.ref b, .int 51] sh ta m (fun v60 m61 => v60 = none ∧ Cal G mX6_above d [.int 4] sh ta m61 (fun v65 m66 => ∃ r67, v65 = some (.int r67) ∧ Cal G mX6_fallsAs d [.ref b, .int r67, .int x2] sh ta m66 (fun v69 m70 => ∃ r71, v69 = some (.int r71) ∧ K (some (.int (r71 ^^^ (m70 b 16)))) m70)))))) : WP G (rmD (d + 1) 0 0) mX6_fallsAs (QC G sh ta K) 0 0 0 [(0, .ref b), (1, .int x1), (2, .int x2)] [] (sh, ta, m) := by
  refine WP.iload_n 1 dX6_fallsAs_0 rfl rfl ?_
  by_cases c1 : (x1 : Int32).toInt < 0 ∨ 4 < (x1 : Int32).toInt
  · have h := h.1 c1
    refine WP.tswO (td := 96) dX6_fallsAs_1 c1 (by decide) ?_
    refine WP.aload_n 0 dX6_fallsAs_96 rfl rfl ?_
    refine WP.iload_n 1 dX6_fallsAs_97 rfl rfl ?_
    refine WP.callS (y := mX6_above) (As := [.int x1]) (st := [.ref b]) dX6_fallsAs_98 wm_X6_236 mw_X6_above rfl (Nat.le_of_ble_eq_true rfl) (rmok d) rfl h (fun v2 Sm3 h5 => ?_)
    obtain ⟨m3, rfl, r4, rfl, h⟩ := h5
    show WP G _ _ _ 0 0 101 [(0, .ref b), (1, .int x1), (2, .int x2)] [.int r4, .ref b] (sh, ta, m3)
    refine WP.iload_n 2 dX6_fallsAs_101 rfl rfl ?_
    obtain ⟨h10, h⟩ := h
    refine WP.callV (y := mX6_fallsAs) (As := [.int r4, .int x2]) (st := []) dX6_fallsAs_102 wm_X6_251 mw_X6_fallsAs rfl (Nat.le_of_ble_eq_true rfl) (rmok d) h10 (by decide) rfl h (fun v6 Sm7 h9 => ?_)
    obtain ⟨m7, rfl, r8, rfl, h⟩ := h9
    show WP G _ _ _ 0 0 105 [(0, .ref b), (1, .int x1), (2, .int x2)] [.int r8] (sh, ta, m7)
    exact WP.iret dX6_fallsAs_105 rfl (Nat.le_refl _) (Nat.le_refl _) ⟨_, rfl, h⟩
  rcases (show (x1 : Int32).toInt = 0 ∨ (x1 : Int32).toInt = 1 ∨ (x1 : Int32).toInt = 2 ∨ (x1 : Int32).toInt = 3 ∨ (x1 : Int32).toInt = 4 by omega) with c1 | c1 | c1 | c1 | c1
  · have h := h.2.1 (i32_of c1 rfl)
    refine WP.tswI (td := 36) 0 dX6_fallsAs_1 c1 (by decide) rfl (by decide) ?_
    refine WP.aload_n 0 dX6_fallsAs_36 rfl rfl ?_
    refine WP.bipush (v := 12) dX6_fallsAs_37 rfl ?_
    obtain ⟨h15, h⟩ := h
    refine WP.callV (y := mX6_begins) (As := [.int 12]) (st := []) dX6_fallsAs_39 wm_X6_233 mw_X6_begins rfl (Nat.le_of_ble_eq_true rfl) (rmok d) h15 (by decide) rfl h (fun v11 Sm12 h14 => ?_)
    obtain ⟨m12, rfl, rfl, h⟩ := h14
    show WP G _ _ _ 0 0 42 [(0, .ref b), (1, .int x1), (2, .int x2)] [] (sh, ta, m12)
    refine WP.aload_n 0 dX6_fallsAs_42 rfl rfl ?_
    refine WP.aload_n 0 dX6_fallsAs_43 rfl rfl ?_
    refine WP.callV (y := mX6_kindNow) (As := []) (st := [.ref b]) dX6_fallsAs_44 wm_X6_242 mw_X6_kindNow rfl (Nat.le_of_ble_eq_true rfl) (rmok d) h15 (by decide) rfl h (fun v16 Sm17 h19 => ?_)
    obtain ⟨m17, rfl, r18, rfl, h⟩ := h19
    show WP G _ _ _ 0 0 47 [(0, .ref b), (1, .int x1), (2, .int x2)] [.int r18, .ref b] (sh, ta, m17)
    refine WP.iload_n 2 dX6_fallsAs_47 rfl rfl ?_
    refine WP.callV (y := mX6_rollsAs) (As := [.int r18, .int x2]) (st := []) dX6_fallsAs_48 wm_X6_245 mw_X6_rollsAs rfl (Nat.le_of_ble_eq_true rfl) (rmok d) h15 (by decide) rfl h (fun v20 Sm21 h23 => ?_)
    obtain ⟨m21, rfl, r22, rfl, h⟩ := h23
    show WP G _ _ _ 0 0 51 [(0, .ref b), (1, .int x1), (2, .int x2)] [.int r22] (sh, ta, m21)
    refine WP.aload_n 0 dX6_fallsAs_51 rfl rfl ?_
    refine WP.callV (y := mX6_mNow) (As := []) (st := [.int r22]) dX6_fallsAs_52 wm_X6_248 mw_X6_mNow rfl (Nat.le_of_ble_eq_true rfl) (rmok d) h15 (by decide) rfl h (fun v24 Sm25 h27 => ?_)
    obtain ⟨m25, rfl, r26, rfl, h⟩ := h27
    show WP G _ _ _ 0 0 55 [(0, .ref b), (1, .int x1), (2, .int x2)] [.int r26, .int r22] (sh, ta, m25)
    refine WP.isub dX6_fallsAs_55 ?_
    exact WP.iret dX6_fallsAs_56 rfl (Nat.le_refl _) (Nat.le_refl _) ⟨_, rfl, h⟩
  · have h := h.2.2.1 (i32_of c1 rfl)
    refine WP.tswI (td := 96) 1 dX6_fallsAs_1 c1 (by decide) rfl (by decide) ?_
    refine WP.aload_n 0 dX6_fallsAs_96 rfl rfl ?_
    refine WP.iload_n 1 dX6_fallsAs_97 rfl rfl ?_
    refine WP.callS (y := mX6_above) (As := [.int x1]) (st := [.ref b]) dX6_fallsAs_98 wm_X6_236 mw_X6_above rfl (Nat.le_of_ble_eq_true rfl) (rmok d) rfl h (fun v28 Sm29 h31 => ?_)
    obtain ⟨m29, rfl, r30, rfl, h⟩ := h31
    show WP G _ _ _ 0 0 101 [(0, .ref b), (1, .int x1), (2, .int x2)] [.int r30, .ref b] (sh, ta, m29)
    refine WP.iload_n 2 dX6_fallsAs_101 rfl rfl ?_
    obtain ⟨h36, h⟩ := h
    refine WP.callV (y := mX6_fallsAs) (As := [.int r30, .int x2]) (st := []) dX6_fallsAs_102 wm_X6_251 mw_X6_fallsAs rfl (Nat.le_of_ble_eq_true rfl) (rmok d) h36 (by decide) rfl h (fun v32 Sm33 h35 => ?_)
    obtain ⟨m33, rfl, r34, rfl, h⟩ := h35
    show WP G _ _ _ 0 0 105 [(0, .ref b), (1, .int x1), (2, .int x2)] [.int r34] (sh, ta, m33)
    exact WP.iret dX6_fallsAs_105 rfl (Nat.le_refl _) (Nat.le_refl _) ⟨_, rfl, h⟩
  · have h := h.2.2.2.1 (i32_of c1 rfl)
    refine WP.tswI (td := 96) 2 dX6_fallsAs_1 c1 (by decide) rfl (by decide) ?_
    refine WP.aload_n 0 dX6_fallsAs_96 rfl rfl ?_
    refine WP.iload_n 1 dX6_fallsAs_97 rfl rfl ?_
    refine WP.callS (y := mX6_above) (As := [.int x1]) (st := [.ref b]) dX6_fallsAs_98 wm_X6_236 mw_X6_above rfl (Nat.le_of_ble_eq_true rfl) (rmok d) rfl h (fun v37 Sm38 h40 => ?_)
    obtain ⟨m38, rfl, r39, rfl, h⟩ := h40
    show WP G _ _ _ 0 0 101 [(0, .ref b), (1, .int x1), (2, .int x2)] [.int r39, .ref b] (sh, ta, m38)
    refine WP.iload_n 2 dX6_fallsAs_101 rfl rfl ?_
    obtain ⟨h45, h⟩ := h
    refine WP.callV (y := mX6_fallsAs) (As := [.int r39, .int x2]) (st := []) dX6_fallsAs_102 wm_X6_251 mw_X6_fallsAs rfl (Nat.le_of_ble_eq_true rfl) (rmok d) h45 (by decide) rfl h (fun v41 Sm42 h44 => ?_)
    obtain ⟨m42, rfl, r43, rfl, h⟩ := h44
    show WP G _ _ _ 0 0 105 [(0, .ref b), (1, .int x1), (2, .int x2)] [.int r43] (sh, ta, m42)
    exact WP.iret dX6_fallsAs_105 rfl (Nat.le_refl _) (Nat.le_refl _) ⟨_, rfl, h⟩
  · have h := h.2.2.2.2.1 (i32_of c1 rfl)
    refine WP.tswI (td := 57) 3 dX6_fallsAs_1 c1 (by decide) rfl (by decide) ?_
    refine WP.aload_n 0 dX6_fallsAs_57 rfl rfl ?_
    refine WP.bipush (v := 40) dX6_fallsAs_58 rfl ?_
    obtain ⟨h50, h⟩ := h
    refine WP.callV (y := mX6_begins) (As := [.int 40]) (st := []) dX6_fallsAs_60 wm_X6_233 mw_X6_begins rfl (Nat.le_of_ble_eq_true rfl) (rmok d) h50 (by decide) rfl h (fun v46 Sm47 h49 => ?_)
    obtain ⟨m47, rfl, rfl, h⟩ := h49
    show WP G _ _ _ 0 0 63 [(0, .ref b), (1, .int x1), (2, .int x2)] [] (sh, ta, m47)
    refine WP.aload_n 0 dX6_fallsAs_63 rfl rfl ?_
    refine WP.iconst (v := 3) dX6_fallsAs_64 rfl ?_
    refine WP.callS (y := mX6_above) (As := [.int 3]) (st := [.ref b]) dX6_fallsAs_65 wm_X6_236 mw_X6_above rfl (Nat.le_of_ble_eq_true rfl) (rmok d) rfl h (fun v51 Sm52 h54 => ?_)
    obtain ⟨m52, rfl, r53, rfl, h⟩ := h54
    show WP G _ _ _ 0 0 68 [(0, .ref b), (1, .int x1), (2, .int x2)] [.int r53, .ref b] (sh, ta, m52)
    refine WP.iload_n 2 dX6_fallsAs_68 rfl rfl ?_
    refine WP.iconst (v := 2) dX6_fallsAs_69 rfl ?_
    obtain ⟨h55, h⟩ := h
    refine WP.idiv dX6_fallsAs_70 h55 ?_
    refine WP.callV (y := mX6_fallsAs) (As := [.int r53, .int (x2 / 2)]) (st := []) dX6_fallsAs_71 wm_X6_251 mw_X6_fallsAs rfl (Nat.le_of_ble_eq_true rfl) (rmok d) h50 (by decide) rfl h (fun v56 Sm57 h59 => ?_)
    obtain ⟨m57, rfl, r58, rfl, h⟩ := h59
    show WP G _ _ _ 0 0 74 [(0, .ref b), (1, .int x1), (2, .int x2)] [.int r58] (sh, ta, m57)
    exact WP.iret dX6_fallsAs_74 rfl (Nat.le_refl _) (Nat.le_refl _) ⟨_, rfl, h⟩
  · have h := h.2.2.2.2.2 (i32_of c1 rfl)
    refine WP.tswI (td := 75) 4 dX6_fallsAs_1 c1 (by decide) rfl (by decide) ?_
    refine WP.aload_n 0 dX6_fallsAs_75 rfl rfl ?_
    refine WP.bipush (v := 51) dX6_fallsAs_76 rfl ?_
    obtain ⟨h64, h⟩ := h
    refine WP.callV (y := mX6_begins) (As := [.int 51]) (st := []) dX6_fallsAs_78 wm_X6_233 mw_X6_begins rfl (Nat.le_of_ble_eq_true rfl) (rmok d) h64 (by decide) rfl h (fun v60 Sm61 h63 => ?_)
    obtain ⟨m61, rfl, rfl, h⟩ := h63
    show WP G _ _ _ 0 0 81 [(0, .ref b), (1, .int x1), (2, .int x2)] [] (sh, ta, m61)
    refine WP.aload_n 0 dX6_fallsAs_81 rfl rfl ?_
    refine WP.iconst (v := 4) dX6_fallsAs_82 rfl ?_
    refine WP.callS (y := mX6_above) (As := [.int 4]) (st := [.ref b]) dX6_fallsAs_83 wm_X6_236 mw_X6_above rfl (Nat.le_of_ble_eq_true rfl) (rmok d) rfl h (fun v65 Sm66 h68 => ?_)
    obtain ⟨m66, rfl, r67, rfl, h⟩ := h68
    show WP G _ _ _ 0 0 86 [(0, .ref b), (1, .int x1), (2, .int x2)] [.int r67, .ref b] (sh, ta, m66)
    refine WP.iload_n 2 dX6_fallsAs_86 rfl rfl ?_
    refine WP.callV (y := mX6_fallsAs) (As := [.int r67, .int x2]) (st := []) dX6_fallsAs_87 wm_X6_251 mw_X6_fallsAs rfl (Nat.le_of_ble_eq_true rfl) (rmok d) h64 (by decide) rfl h (fun v69 Sm70 h72 => ?_)
    obtain ⟨m70, rfl, r71, rfl, h⟩ := h72
    show WP G _ _ _ 0 0 90 [(0, .ref b), (1, .int x1), (2, .int x2)] [.int r71] (sh, ta, m70)
    refine WP.aload_n 0 dX6_fallsAs_90 rfl rfl ?_
    refine WP.getI 6 16 wf_X6_230 (by decide) (by decide) rfl h64 dX6_fallsAs_91 ?_
    refine WP.ixor dX6_fallsAs_94 ?_
    exact WP.iret dX6_fallsAs_95 rfl (Nat.le_refl _) (Nat.le_refl _) ⟨_, rfl, h⟩
set_option maxHeartbeats 4000000 in
set_option maxRecDepth 20000 in
theorem rg_X6_partsAs_0 (hG : fl G = false) (b : Nat) (x1 : Int32) (x2 : Int32) (h : ((x1 = 0 → sh[b]? = some (.inl 6) ∧ Cal G mX6_begins d [.ref b, .int 13] sh ta m (fun v2 m3 => v2 = none ∧ Cal G mX6_mNow d [.ref b] sh ta m3 (fun v7 m8 => ∃ r9, v7 = some (.int r9) ∧ ((¬ (r9 - (m8 b 16)) = 0 → ∀ m12, m12 = up2 m8 b 17 0 → ((¬ (r9 - (m8 b 16)) = 0 → ((¬ (r9 - (m8 b 16)) = ((-1) : Int32) → ¬ (r9 - (m8 b 16) : Int32) = 0 ∧ K (some (.int (x2 / (r9 - (m8 b 16))))) m12) ∧ ((r9 - (m8 b 16)) = ((-1) : Int32) → K (some (.int (-x2))) m12))) ∧ ((r9 - (m8 b 16)) = 0 → K (some (.int 0)) m12))) ∧ ((r9 - (m8 b 16)) = 0 → ∀ m16, m16 = up2 m8 b 17 1 → ((¬ (r9 - (m8 b 16)) = 0 → ((¬ (r9 - (m8 b 16)) = ((-1) : Int32) → ¬ (r9 - (m8 b 16) : Int32) = 0 ∧ K (some (.int (x2 / (r9 - (m8 b 16))))) m16) ∧ ((r9 - (m8 b 16)) = ((-1) : Int32) → K (some (.int (-x2))) m16))) ∧ ((r9 - (m8 b 16)) = 0 → K (some (.int 0)) m16))))))) ∧ (x1 = 1 → sh[b]? = some (.inl 6) ∧ Cal G mX6_begins d [.ref b, .int 21] sh ta m (fun v21 m22 => v21 = none ∧ Cal G mX6_above d [.int 1] sh ta m22 (fun v26 m27 => ∃ r28, v26 = some (.int r28) ∧ Cal G mX6_partsAs d [.ref b, .int r28, .int x2] sh ta m27 (fun v30 m31 => ∃ r32, v30 = some (.int r32) ∧ (((m31 b 17) = 0 → Cal G mX6_kindNow d [.ref b] sh ta m31 (fun v35 m36 => ∃ r37, v35 = some (.int r37) ∧ Cal G mX6_rollsAs d [.ref b, .int r37, .int 1] sh ta m36 (fun v39 m40 => ∃ r41, v39 = some (.int r41) ∧ K (some (.int (r32 + r41))) m40))) ∧ (¬ (m31 b 17) = 0 → K (some (.int 0)) m31)))))) ∧ (¬ x1 = 0 → ¬ x1 = 1 → Cal G mX6_above d [.int x1] sh ta m (fun v43 m44 => ∃ r45, v43 = some (.int r45) ∧ sh[b]? = some (.inl 6) ∧ Cal G mX6_partsAs d [.ref b, .int r45, .int x2] sh ta m44 (fun v47 m48 => ∃ r49, v47 = some (.int r49) ∧ K (some (.int r49)) m48))))) : WP G (rmD (d + 1) 0 0) mX6_partsAs (QC G sh ta K) 0 0 0 [(0, .ref b), (1, .int x1), (2, .int x2)] [] (sh, ta, m) := by
  refine WP.iload_n 1 dX6_partsAs_0 rfl rfl ?_
  by_cases c1 : x1 = 0
  · have h := h.1 c1
    refine WP.lsw (off := 27) (tgt := 28) dX6_partsAs_1 (by decide +kernel) (by rw [c1]; rfl) (by decide) ?_
    refine WP.aload_n 0 dX6_partsAs_28 rfl rfl ?_
    refine WP.bipush (v := 13) dX6_partsAs_29 rfl ?_
    obtain ⟨h6, h⟩ := h
    refine WP.callV (y := mX6_begins) (As := [.int 13]) (st := []) dX6_partsAs_31 wm_X6_233 mw_X6_begins rfl (Nat.le_of_ble_eq_true rfl) (rmok d) h6 (by decide) rfl h (fun v2 Sm3 h5 => ?_)
    obtain ⟨m3, rfl, rfl, h⟩ := h5
    show WP G _ _ _ 0 0 34 [(0, .ref b), (1, .int x1), (2, .int x2)] [] (sh, ta, m3)
    refine WP.aload_n 0 dX6_partsAs_34 rfl rfl ?_
    refine WP.callV (y := mX6_mNow) (As := []) (st := []) dX6_partsAs_35 wm_X6_248 mw_X6_mNow rfl (Nat.le_of_ble_eq_true rfl) (rmok d) h6 (by decide) rfl h (fun v7 Sm8 h10 => ?_)
    obtain ⟨m8, rfl, r9, rfl, h⟩ := h10
    show WP G _ _ _ 0 0 38 [(0, .ref b), (1, .int x1), (2, .int x2)] [.int r9] (sh, ta, m8)
    refine WP.aload_n 0 dX6_partsAs_38 rfl rfl ?_
    refine WP.getI 6 16 wf_X6_230 (by decide) (by decide) rfl h6 dX6_partsAs_39 ?_
    refine WP.isub dX6_partsAs_42 ?_
    refine WP.istore_n (lv2 := [(3, .int (r9 - (m8 b 16))), (0, .ref b), (1, .int x1), (2, .int x2)]) dX6_partsAs_43 rfl (by decide) rfl ?_
    refine WP.aload_n 1 dX6_partsAs_44 rfl rfl ?_
    refine WP.iload_n 0 dX6_partsAs_45 rfl rfl ?_
    refine WP.if_ne (tgt := 53) dX6_partsAs_46 (by decide) (fun c11 => ?_) (fun c11 => ?_)
    · have h := h.1 c11
      refine WP.iconst (v := 0) dX6_partsAs_53 rfl ?_
      have h := h _ rfl
      refine WP.putI 6 17 wf_X6_254 (by decide) (by decide) rfl h6 rfl rfl rfl dX6_partsAs_54 ?_
      generalize up2 m8 b 17 0 = m12 at h ⊢
      refine WP.iload_n 0 dX6_partsAs_57 rfl rfl ?_
      refine WP.if_ne (tgt := 65) dX6_partsAs_58 (by decide) (fun c13 => ?_) (fun c13 => ?_)
      · have h := h.1 c13
        refine WP.iload_n 0 dX6_partsAs_65 rfl rfl ?_
        refine WP.iconst (v := (-1)) dX6_partsAs_66 rfl ?_
        refine WP.icmp_ne (tgt := 75) dX6_partsAs_67 (by decide) (fun c14 => ?_) (fun c14 => ?_)
        · have h := h.1 c14
          refine WP.iload_n 3 dX6_partsAs_75 rfl rfl ?_
          refine WP.iload_n 0 dX6_partsAs_76 rfl rfl ?_
          obtain ⟨h15, h⟩ := h
          refine WP.idiv dX6_partsAs_77 h15 ?_
          exact WP.iret dX6_partsAs_78 rfl (Nat.le_refl _) (Nat.le_refl _) ⟨_, rfl, h⟩
        · have h := h.2 c14
          refine WP.iload_n 3 dX6_partsAs_70 rfl rfl ?_
          refine WP.ineg dX6_partsAs_71 ?_
          refine WP.goto (tgt := 78) dX6_partsAs_72 (by decide) ?_
          exact WP.iret dX6_partsAs_78 rfl (Nat.le_refl _) (Nat.le_refl _) ⟨_, rfl, h⟩
      · have h := h.2 c13
        refine WP.iconst (v := 0) dX6_partsAs_61 rfl ?_
        refine WP.goto (tgt := 78) dX6_partsAs_62 (by decide) ?_
        exact WP.iret dX6_partsAs_78 rfl (Nat.le_refl _) (Nat.le_refl _) ⟨_, rfl, h⟩
    · have h := h.2 c11
      refine WP.iconst (v := 1) dX6_partsAs_49 rfl ?_
      refine WP.goto (tgt := 54) dX6_partsAs_50 (by decide) ?_
      have h := h _ rfl
      refine WP.putI 6 17 wf_X6_254 (by decide) (by decide) rfl h6 rfl rfl rfl dX6_partsAs_54 ?_
      generalize up2 m8 b 17 1 = m16 at h ⊢
      refine WP.iload_n 0 dX6_partsAs_57 rfl rfl ?_
      refine WP.if_ne (tgt := 65) dX6_partsAs_58 (by decide) (fun c17 => ?_) (fun c17 => ?_)
      · have h := h.1 c17
        refine WP.iload_n 0 dX6_partsAs_65 rfl rfl ?_
        refine WP.iconst (v := (-1)) dX6_partsAs_66 rfl ?_
        refine WP.icmp_ne (tgt := 75) dX6_partsAs_67 (by decide) (fun c18 => ?_) (fun c18 => ?_)
        · have h := h.1 c18
          refine WP.iload_n 3 dX6_partsAs_75 rfl rfl ?_
          refine WP.iload_n 0 dX6_partsAs_76 rfl rfl ?_
          obtain ⟨h19, h⟩ := h
          refine WP.idiv dX6_partsAs_77 h19 ?_
          exact WP.iret dX6_partsAs_78 rfl (Nat.le_refl _) (Nat.le_refl _) ⟨_, rfl, h⟩
        · have h := h.2 c18
          refine WP.iload_n 3 dX6_partsAs_70 rfl rfl ?_
          refine WP.ineg dX6_partsAs_71 ?_
          refine WP.goto (tgt := 78) dX6_partsAs_72 (by decide) ?_
          exact WP.iret dX6_partsAs_78 rfl (Nat.le_refl _) (Nat.le_refl _) ⟨_, rfl, h⟩
      · have h := h.2 c17
        refine WP.iconst (v := 0) dX6_partsAs_61 rfl ?_
        refine WP.goto (tgt := 78) dX6_partsAs_62 (by decide) ?_
        exact WP.iret dX6_partsAs_78 rfl (Nat.le_refl _) (Nat.le_refl _) ⟨_, rfl, h⟩
  by_cases c20 : x1 = 1
  · have h := h.2.1 c20
    refine WP.lsw (off := 78) (tgt := 79) dX6_partsAs_1 (by decide +kernel) (by rw [c20]; rfl) (by decide) ?_
    refine WP.aload_n 0 dX6_partsAs_79 rfl rfl ?_
    refine WP.bipush (v := 21) dX6_partsAs_80 rfl ?_
    obtain ⟨h25, h⟩ := h
    refine WP.callV (y := mX6_begins) (As := [.int 21]) (st := []) dX6_partsAs_82 wm_X6_233 mw_X6_begins rfl (Nat.le_of_ble_eq_true rfl) (rmok d) h25 (by decide) rfl h (fun v21 Sm22 h24 => ?_)
    obtain ⟨m22, rfl, rfl, h⟩ := h24
    show WP G _ _ _ 0 0 85 [(0, .ref b), (1, .int x1), (2, .int x2)] [] (sh, ta, m22)
    refine WP.aload_n 0 dX6_partsAs_85 rfl rfl ?_
    refine WP.iconst (v := 1) dX6_partsAs_86 rfl ?_
    refine WP.callS (y := mX6_above) (As := [.int 1]) (st := [.ref b]) dX6_partsAs_87 wm_X6_236 mw_X6_above rfl (Nat.le_of_ble_eq_true rfl) (rmok d) rfl h (fun v26 Sm27 h29 => ?_)
    obtain ⟨m27, rfl, r28, rfl, h⟩ := h29
    show WP G _ _ _ 0 0 90 [(0, .ref b), (1, .int x1), (2, .int x2)] [.int r28, .ref b] (sh, ta, m27)
    refine WP.iload_n 2 dX6_partsAs_90 rfl rfl ?_
    refine WP.callV (y := mX6_partsAs) (As := [.int r28, .int x2]) (st := []) dX6_partsAs_91 wm_X6_258 mw_X6_partsAs rfl (Nat.le_of_ble_eq_true rfl) (rmok d) h25 (by decide) rfl h (fun v30 Sm31 h33 => ?_)
    obtain ⟨m31, rfl, r32, rfl, h⟩ := h33
    show WP G _ _ _ 0 0 94 [(0, .ref b), (1, .int x1), (2, .int x2)] [.int r32] (sh, ta, m31)
    refine WP.istore (lv2 := [(4, .int r32), (0, .ref b), (1, .int x1), (2, .int x2)]) dX6_partsAs_94 (by decide) rfl ?_
    refine WP.aload_n 1 dX6_partsAs_96 rfl rfl ?_
    refine WP.getI 6 17 wf_X6_254 (by decide) (by decide) rfl h25 dX6_partsAs_97 ?_
    refine WP.if_eq (tgt := 107) dX6_partsAs_100 (by decide) (fun c34 => ?_) (fun c34 => ?_)
    · have h := h.1 c34
      refine WP.iload 0 dX6_partsAs_107 rfl ?_
      refine WP.aload_n 1 dX6_partsAs_109 rfl rfl ?_
      refine WP.aload_n 1 dX6_partsAs_110 rfl rfl ?_
      refine WP.callV (y := mX6_kindNow) (As := []) (st := [.ref b, .int r32]) dX6_partsAs_111 wm_X6_242 mw_X6_kindNow rfl (Nat.le_of_ble_eq_true rfl) (rmok d) h25 (by decide) rfl h (fun v35 Sm36 h38 => ?_)
      obtain ⟨m36, rfl, r37, rfl, h⟩ := h38
      show WP G _ _ _ 0 0 114 [(4, .int r32), (0, .ref b), (1, .int x1), (2, .int x2)] [.int r37, .ref b, .int r32] (sh, ta, m36)
      refine WP.iconst (v := 1) dX6_partsAs_114 rfl ?_
      refine WP.callV (y := mX6_rollsAs) (As := [.int r37, .int 1]) (st := [.int r32]) dX6_partsAs_115 wm_X6_245 mw_X6_rollsAs rfl (Nat.le_of_ble_eq_true rfl) (rmok d) h25 (by decide) rfl h (fun v39 Sm40 h42 => ?_)
      obtain ⟨m40, rfl, r41, rfl, h⟩ := h42
      show WP G _ _ _ 0 0 118 [(4, .int r32), (0, .ref b), (1, .int x1), (2, .int x2)] [.int r41, .int r32] (sh, ta, m40)
      refine WP.iadd dX6_partsAs_118 ?_
      exact WP.iret dX6_partsAs_119 rfl (Nat.le_refl _) (Nat.le_refl _) ⟨_, rfl, h⟩
    · have h := h.2 c34
      refine WP.iconst (v := 0) dX6_partsAs_103 rfl ?_
      refine WP.goto (tgt := 119) dX6_partsAs_104 (by decide) ?_
      exact WP.iret dX6_partsAs_119 rfl (Nat.le_refl _) (Nat.le_refl _) ⟨_, rfl, h⟩
  have h := h.2.2 c1 c20
  refine WP.lsw (off := 119) (tgt := 120) dX6_partsAs_1 (by decide +kernel) (by show Op.lookupswitch.offset [(0, 27), (1, 78)] 119 (x1 : Int32).toInt = _; rw [lv_osw (k := 0) (a := 0) c1 rfl, lv_osw (k := 1) (a := 1) c20 rfl]; rfl) (by decide) ?_
  refine WP.aload_n 0 dX6_partsAs_120 rfl rfl ?_
  refine WP.iload_n 1 dX6_partsAs_121 rfl rfl ?_
  refine WP.callS (y := mX6_above) (As := [.int x1]) (st := [.ref b]) dX6_partsAs_122 wm_X6_236 mw_X6_above rfl (Nat.le_of_ble_eq_true rfl) (rmok d) rfl h (fun v43 Sm44 h46 => ?_)
  obtain ⟨m44, rfl, r45, rfl, h⟩ := h46
  show WP G _ _ _ 0 0 125 [(0, .ref b), (1, .int x1), (2, .int x2)] [.int r45, .ref b] (sh, ta, m44)
  refine WP.iload_n 2 dX6_partsAs_125 rfl rfl ?_
  obtain ⟨h51, h⟩ := h
  refine WP.callV (y := mX6_partsAs) (As := [.int r45, .int x2]) (st := []) dX6_partsAs_126 wm_X6_258 mw_X6_partsAs rfl (Nat.le_of_ble_eq_true rfl) (rmok d) h51 (by decide) rfl h (fun v47 Sm48 h50 => ?_)
  obtain ⟨m48, rfl, r49, rfl, h⟩ := h50
  show WP G _ _ _ 0 0 129 [(0, .ref b), (1, .int x1), (2, .int x2)] [.int r49] (sh, ta, m48)
  exact WP.iret dX6_partsAs_129 rfl (Nat.le_refl _) (Nat.le_refl _) ⟨_, rfl, h⟩
set_option maxHeartbeats 4000000 in
set_option maxRecDepth 20000 in
theorem rg_X6_voice_0 (hG : fl G = false) (b : Nat) (x1 : Int32) (x2 : Int32) (x3 : Int32) (h : sh[b]? = some (.inl 6) ∧ Cal G mX6_isThing d [.ref b, .int x1] sh ta m (fun v1 m2 => ∃ r3, v1 = some (.int r3) ∧ ((r3 = 0 → Cal G mX6_error d [.ref b, .int 1] sh ta m2 (fun v7 m8 => ∃ r9, v7 = some (.int r9) ∧ K (some (.int r9)) m8)) ∧ (¬ r3 = 0 → Cal G mX6_in d [.int x2, .int 0, .int 3] sh ta m2 (fun v11 m12 => ∃ r13, v11 = some (.int r13) ∧ ((¬ r13 = 0 → ∀ m16, m16 = up2 m12 b 15 0 → ∀ m17, m17 = up2 m16 b 16 x1 → ∀ m18, m18 = up2 m17 b 17 0 → Cal G mX6_kindNow d [.ref b] sh ta m18 (fun v19 m20 => ∃ r21, v19 = some (.int r21) ∧ ((¬ x2 = 0 → ((¬ x2 = (1 : Int32) → ((¬ x2 = (2 : Int32) → Cal G mX6_partsAs d [.ref b, .int r21, .int x3] sh ta m20 (fun v26 m27 => ∃ r28, v26 = some (.int r28) ∧ (((m27 b 17) = 0 → K (some (.int r28)) m27) ∧ (¬ (m27 b 17) = 0 → Cal G mX6_error d [.ref b, .int 6] sh ta m27 (fun v31 m32 => ∃ r33, v31 = some (.int r33) ∧ K (some (.int r33)) m32))))) ∧ (x2 = (2 : Int32) → Cal G mX6_fallsAs d [.ref b, .int r21, .int x3] sh ta m20 (fun v35 m36 => ∃ r37, v35 = some (.int r37) ∧ (((m36 b 17) = 0 → K (some (.int r37)) m36) ∧ (¬ (m36 b 17) = 0 → Cal G mX6_error d [.ref b, .int 6] sh ta m36 (fun v40 m41 => ∃ r42, v40 = some (.int r42) ∧ K (some (.int r42)) m41))))))) ∧ (x2 = (1 : Int32) → Cal G mX6_rollsAs d [.ref b, .int r21, .int x3] sh ta m20 (fun v44 m45 => ∃ r46, v44 = some (.int r46) ∧ (((m45 b 17) = 0 → K (some (.int r46)) m45) ∧ (¬ (m45 b 17) = 0 → Cal G mX6_error d [.ref b, .int 6] sh ta m45 (fun v49 m50 => ∃ r51, v49 = some (.int r51) ∧ K (some (.int r51)) m50))))))) ∧ (x2 = 0 → Cal G mX6_liesAs d [.ref b, .int r21, .int x3] sh ta m20 (fun v53 m54 => ∃ r55, v53 = some (.int r55) ∧ (((m54 b 17) = 0 → K (some (.int r55)) m54) ∧ (¬ (m54 b 17) = 0 → Cal G mX6_error d [.ref b, .int 6] sh ta m54 (fun v58 m59 => ∃ r60, v58 = some (.int r60) ∧ K (some (.int r60)) m59)))))))) ∧ (r13 = 0 → Cal G mX6_error d [.ref b, .int 1] sh ta m12 (fun v62 m63 => ∃ r64, v62 = some (.int r64) ∧ K (some (.int r64)) m63)))))))) : WP G (rmD (d + 1) 0 0) mX6_voice (QC G sh ta K) 0 0 0 [(0, .ref b), (1, .int x1), (2, .int x2), (3, .int x3)] [] (sh, ta, m) := by
  refine WP.aload_n 0 dX6_voice_0 rfl rfl ?_
  refine WP.iload_n 1 dX6_voice_1 rfl rfl ?_
  obtain ⟨h5, h⟩ := h
  refine WP.callV (y := mX6_isThing) (As := [.int x1]) (st := []) dX6_voice_2 wm_X6_148 mw_X6_isThing rfl (Nat.le_of_ble_eq_true rfl) (rmok d) h5 (by decide) rfl h (fun v1 Sm2 h4 => ?_)
  obtain ⟨m2, rfl, r3, rfl, h⟩ := h4
  show WP G _ _ _ 0 0 5 [(0, .ref b), (1, .int x1), (2, .int x2), (3, .int x3)] [.int r3] (sh, ta, m2)
  refine WP.if_eq (tgt := 17) dX6_voice_5 (by decide) (fun c6 => ?_) (fun c6 => ?_)
  · have h := h.1 c6
    refine WP.aload_n 0 dX6_voice_17 rfl rfl ?_
    refine WP.iconst (v := 1) dX6_voice_18 rfl ?_
    refine WP.callV (y := mX6_error) (As := [.int 1]) (st := []) dX6_voice_19 wm_X6_68 mw_X6_error rfl (Nat.le_of_ble_eq_true rfl) (rmok d) h5 (by decide) rfl h (fun v7 Sm8 h10 => ?_)
    obtain ⟨m8, rfl, r9, rfl, h⟩ := h10
    show WP G _ _ _ 0 0 22 [(0, .ref b), (1, .int x1), (2, .int x2), (3, .int x3)] [.int r9] (sh, ta, m8)
    exact WP.iret dX6_voice_22 rfl (Nat.le_refl _) (Nat.le_refl _) ⟨_, rfl, h⟩
  · have h := h.2 c6
    refine WP.iload_n 2 dX6_voice_8 rfl rfl ?_
    refine WP.iconst (v := 0) dX6_voice_9 rfl ?_
    refine WP.iconst (v := 3) dX6_voice_10 rfl ?_
    refine WP.callS (y := mX6_in) (As := [.int x2, .int 0, .int 3]) (st := []) dX6_voice_11 wm_X6_50 mw_X6_in rfl (Nat.le_of_ble_eq_true rfl) (rmok d) rfl h (fun v11 Sm12 h14 => ?_)
    obtain ⟨m12, rfl, r13, rfl, h⟩ := h14
    show WP G _ _ _ 0 0 14 [(0, .ref b), (1, .int x1), (2, .int x2), (3, .int x3)] [.int r13] (sh, ta, m12)
    refine WP.if_ne (tgt := 23) dX6_voice_14 (by decide) (fun c15 => ?_) (fun c15 => ?_)
    · have h := h.1 c15
      refine WP.aload_n 0 dX6_voice_23 rfl rfl ?_
      refine WP.iconst (v := 0) dX6_voice_24 rfl ?_
      have h := h _ rfl
      refine WP.putI 6 15 wf_X6_227 (by decide) (by decide) rfl h5 rfl rfl rfl dX6_voice_25 ?_
      generalize up2 m12 b 15 0 = m16 at h ⊢
      refine WP.aload_n 0 dX6_voice_28 rfl rfl ?_
      refine WP.iload_n 1 dX6_voice_29 rfl rfl ?_
      have h := h _ rfl
      refine WP.putI 6 16 wf_X6_230 (by decide) (by decide) rfl h5 rfl rfl rfl dX6_voice_30 ?_
      generalize up2 m16 b 16 x1 = m17 at h ⊢
      refine WP.aload_n 0 dX6_voice_33 rfl rfl ?_
      refine WP.iconst (v := 0) dX6_voice_34 rfl ?_
      have h := h _ rfl
      refine WP.putI 6 17 wf_X6_254 (by decide) (by decide) rfl h5 rfl rfl rfl dX6_voice_35 ?_
      generalize up2 m17 b 17 0 = m18 at h ⊢
      refine WP.aload_n 0 dX6_voice_38 rfl rfl ?_
      refine WP.callV (y := mX6_kindNow) (As := []) (st := []) dX6_voice_39 wm_X6_242 mw_X6_kindNow rfl (Nat.le_of_ble_eq_true rfl) (rmok d) h5 (by decide) rfl h (fun v19 Sm20 h22 => ?_)
      obtain ⟨m20, rfl, r21, rfl, h⟩ := h22
      show WP G _ _ _ 0 0 42 [(0, .ref b), (1, .int x1), (2, .int x2), (3, .int x3)] [.int r21] (sh, ta, m20)
      refine WP.istore (lv2 := [(4, .int r21), (0, .ref b), (1, .int x1), (2, .int x2), (3, .int x3)]) dX6_voice_42 (by decide) rfl ?_
      refine WP.iload_n 3 dX6_voice_44 rfl rfl ?_
      refine WP.if_ne (tgt := 58) dX6_voice_45 (by decide) (fun c23 => ?_) (fun c23 => ?_)
      · have h := h.1 c23
        refine WP.iload_n 3 dX6_voice_58 rfl rfl ?_
        refine WP.iconst (v := 1) dX6_voice_59 rfl ?_
        refine WP.icmp_ne (tgt := 73) dX6_voice_60 (by decide) (fun c24 => ?_) (fun c24 => ?_)
        · have h := h.1 c24
          refine WP.iload_n 3 dX6_voice_73 rfl rfl ?_
          refine WP.iconst (v := 2) dX6_voice_74 rfl ?_
          refine WP.icmp_ne (tgt := 88) dX6_voice_75 (by decide) (fun c25 => ?_) (fun c25 => ?_)
          · have h := h.1 c25
            refine WP.aload_n 1 dX6_voice_88 rfl rfl ?_
            refine WP.iload 0 dX6_voice_89 rfl ?_
            refine WP.iload_n 4 dX6_voice_91 rfl rfl ?_
            refine WP.callV (y := mX6_partsAs) (As := [.int r21, .int x3]) (st := []) dX6_voice_92 wm_X6_258 mw_X6_partsAs rfl (Nat.le_of_ble_eq_true rfl) (rmok d) h5 (by decide) rfl h (fun v26 Sm27 h29 => ?_)
            obtain ⟨m27, rfl, r28, rfl, h⟩ := h29
            show WP G _ _ _ 0 0 95 [(4, .int r21), (0, .ref b), (1, .int x1), (2, .int x2), (3, .int x3)] [.int r28] (sh, ta, m27)
            refine WP.istore (lv2 := [(5, .int r28), (4, .int r21), (0, .ref b), (1, .int x1), (2, .int x2), (3, .int x3)]) dX6_voice_95 (by decide) rfl ?_
            refine WP.aload_n 2 dX6_voice_97 rfl rfl ?_
            refine WP.getI 6 17 wf_X6_254 (by decide) (by decide) rfl h5 dX6_voice_98 ?_
            refine WP.if_eq (tgt := 113) dX6_voice_101 (by decide) (fun c30 => ?_) (fun c30 => ?_)
            · have h := h.1 c30
              refine WP.iload 0 dX6_voice_113 rfl ?_
              exact WP.iret dX6_voice_115 rfl (Nat.le_refl _) (Nat.le_refl _) ⟨_, rfl, h⟩
            · have h := h.2 c30
              refine WP.aload_n 2 dX6_voice_104 rfl rfl ?_
              refine WP.bipush (v := 6) dX6_voice_105 rfl ?_
              refine WP.callV (y := mX6_error) (As := [.int 6]) (st := []) dX6_voice_107 wm_X6_68 mw_X6_error rfl (Nat.le_of_ble_eq_true rfl) (rmok d) h5 (by decide) rfl h (fun v31 Sm32 h34 => ?_)
              obtain ⟨m32, rfl, r33, rfl, h⟩ := h34
              show WP G _ _ _ 0 0 110 [(5, .int r28), (4, .int r21), (0, .ref b), (1, .int x1), (2, .int x2), (3, .int x3)] [.int r33] (sh, ta, m32)
              refine WP.goto (tgt := 115) dX6_voice_110 (by decide) ?_
              exact WP.iret dX6_voice_115 rfl (Nat.le_refl _) (Nat.le_refl _) ⟨_, rfl, h⟩
          · have h := h.2 c25
            refine WP.aload_n 1 dX6_voice_78 rfl rfl ?_
            refine WP.iload 0 dX6_voice_79 rfl ?_
            refine WP.iload_n 4 dX6_voice_81 rfl rfl ?_
            refine WP.callV (y := mX6_fallsAs) (As := [.int r21, .int x3]) (st := []) dX6_voice_82 wm_X6_251 mw_X6_fallsAs rfl (Nat.le_of_ble_eq_true rfl) (rmok d) h5 (by decide) rfl h (fun v35 Sm36 h38 => ?_)
            obtain ⟨m36, rfl, r37, rfl, h⟩ := h38
            show WP G _ _ _ 0 0 85 [(4, .int r21), (0, .ref b), (1, .int x1), (2, .int x2), (3, .int x3)] [.int r37] (sh, ta, m36)
            refine WP.goto (tgt := 95) dX6_voice_85 (by decide) ?_
            refine WP.istore (lv2 := [(5, .int r37), (4, .int r21), (0, .ref b), (1, .int x1), (2, .int x2), (3, .int x3)]) dX6_voice_95 (by decide) rfl ?_
            refine WP.aload_n 2 dX6_voice_97 rfl rfl ?_
            refine WP.getI 6 17 wf_X6_254 (by decide) (by decide) rfl h5 dX6_voice_98 ?_
            refine WP.if_eq (tgt := 113) dX6_voice_101 (by decide) (fun c39 => ?_) (fun c39 => ?_)
            · have h := h.1 c39
              refine WP.iload 0 dX6_voice_113 rfl ?_
              exact WP.iret dX6_voice_115 rfl (Nat.le_refl _) (Nat.le_refl _) ⟨_, rfl, h⟩
            · have h := h.2 c39
              refine WP.aload_n 2 dX6_voice_104 rfl rfl ?_
              refine WP.bipush (v := 6) dX6_voice_105 rfl ?_
              refine WP.callV (y := mX6_error) (As := [.int 6]) (st := []) dX6_voice_107 wm_X6_68 mw_X6_error rfl (Nat.le_of_ble_eq_true rfl) (rmok d) h5 (by decide) rfl h (fun v40 Sm41 h43 => ?_)
              obtain ⟨m41, rfl, r42, rfl, h⟩ := h43
              show WP G _ _ _ 0 0 110 [(5, .int r37), (4, .int r21), (0, .ref b), (1, .int x1), (2, .int x2), (3, .int x3)] [.int r42] (sh, ta, m41)
              refine WP.goto (tgt := 115) dX6_voice_110 (by decide) ?_
              exact WP.iret dX6_voice_115 rfl (Nat.le_refl _) (Nat.le_refl _) ⟨_, rfl, h⟩
        · have h := h.2 c24
          refine WP.aload_n 1 dX6_voice_63 rfl rfl ?_
          refine WP.iload 0 dX6_voice_64 rfl ?_
          refine WP.iload_n 4 dX6_voice_66 rfl rfl ?_
          refine WP.callV (y := mX6_rollsAs) (As := [.int r21, .int x3]) (st := []) dX6_voice_67 wm_X6_245 mw_X6_rollsAs rfl (Nat.le_of_ble_eq_true rfl) (rmok d) h5 (by decide) rfl h (fun v44 Sm45 h47 => ?_)
          obtain ⟨m45, rfl, r46, rfl, h⟩ := h47
          show WP G _ _ _ 0 0 70 [(4, .int r21), (0, .ref b), (1, .int x1), (2, .int x2), (3, .int x3)] [.int r46] (sh, ta, m45)
          refine WP.goto (tgt := 95) dX6_voice_70 (by decide) ?_
          refine WP.istore (lv2 := [(5, .int r46), (4, .int r21), (0, .ref b), (1, .int x1), (2, .int x2), (3, .int x3)]) dX6_voice_95 (by decide) rfl ?_
          refine WP.aload_n 2 dX6_voice_97 rfl rfl ?_
          refine WP.getI 6 17 wf_X6_254 (by decide) (by decide) rfl h5 dX6_voice_98 ?_
          refine WP.if_eq (tgt := 113) dX6_voice_101 (by decide) (fun c48 => ?_) (fun c48 => ?_)
          · have h := h.1 c48
            refine WP.iload 0 dX6_voice_113 rfl ?_
            exact WP.iret dX6_voice_115 rfl (Nat.le_refl _) (Nat.le_refl _) ⟨_, rfl, h⟩
          · have h := h.2 c48
            refine WP.aload_n 2 dX6_voice_104 rfl rfl ?_
            refine WP.bipush (v := 6) dX6_voice_105 rfl ?_
            refine WP.callV (y := mX6_error) (As := [.int 6]) (st := []) dX6_voice_107 wm_X6_68 mw_X6_error rfl (Nat.le_of_ble_eq_true rfl) (rmok d) h5 (by decide) rfl h (fun v49 Sm50 h52 => ?_)
            obtain ⟨m50, rfl, r51, rfl, h⟩ := h52
            show WP G _ _ _ 0 0 110 [(5, .int r46), (4, .int r21), (0, .ref b), (1, .int x1), (2, .int x2), (3, .int x3)] [.int r51] (sh, ta, m50)
            refine WP.goto (tgt := 115) dX6_voice_110 (by decide) ?_
            exact WP.iret dX6_voice_115 rfl (Nat.le_refl _) (Nat.le_refl _) ⟨_, rfl, h⟩
      · have h := h.2 c23
        refine WP.aload_n 1 dX6_voice_48 rfl rfl ?_
        refine WP.iload 0 dX6_voice_49 rfl ?_
        refine WP.iload_n 4 dX6_voice_51 rfl rfl ?_
        refine WP.callV (y := mX6_liesAs) (As := [.int r21, .int x3]) (st := []) dX6_voice_52 wm_X6_239 mw_X6_liesAs rfl (Nat.le_of_ble_eq_true rfl) (rmok d) h5 (by decide) rfl h (fun v53 Sm54 h56 => ?_)
        obtain ⟨m54, rfl, r55, rfl, h⟩ := h56
        show WP G _ _ _ 0 0 55 [(4, .int r21), (0, .ref b), (1, .int x1), (2, .int x2), (3, .int x3)] [.int r55] (sh, ta, m54)
        refine WP.goto (tgt := 95) dX6_voice_55 (by decide) ?_
        refine WP.istore (lv2 := [(5, .int r55), (4, .int r21), (0, .ref b), (1, .int x1), (2, .int x2), (3, .int x3)]) dX6_voice_95 (by decide) rfl ?_
        refine WP.aload_n 2 dX6_voice_97 rfl rfl ?_
        refine WP.getI 6 17 wf_X6_254 (by decide) (by decide) rfl h5 dX6_voice_98 ?_
        refine WP.if_eq (tgt := 113) dX6_voice_101 (by decide) (fun c57 => ?_) (fun c57 => ?_)
        · have h := h.1 c57
          refine WP.iload 0 dX6_voice_113 rfl ?_
          exact WP.iret dX6_voice_115 rfl (Nat.le_refl _) (Nat.le_refl _) ⟨_, rfl, h⟩
        · have h := h.2 c57
          refine WP.aload_n 2 dX6_voice_104 rfl rfl ?_
          refine WP.bipush (v := 6) dX6_voice_105 rfl ?_
          refine WP.callV (y := mX6_error) (As := [.int 6]) (st := []) dX6_voice_107 wm_X6_68 mw_X6_error rfl (Nat.le_of_ble_eq_true rfl) (rmok d) h5 (by decide) rfl h (fun v58 Sm59 h61 => ?_)
          obtain ⟨m59, rfl, r60, rfl, h⟩ := h61
          show WP G _ _ _ 0 0 110 [(5, .int r55), (4, .int r21), (0, .ref b), (1, .int x1), (2, .int x2), (3, .int x3)] [.int r60] (sh, ta, m59)
          refine WP.goto (tgt := 115) dX6_voice_110 (by decide) ?_
          exact WP.iret dX6_voice_115 rfl (Nat.le_refl _) (Nat.le_refl _) ⟨_, rfl, h⟩
    · have h := h.2 c15
      refine WP.aload_n 0 dX6_voice_17 rfl rfl ?_
      refine WP.iconst (v := 1) dX6_voice_18 rfl ?_
      refine WP.callV (y := mX6_error) (As := [.int 1]) (st := []) dX6_voice_19 wm_X6_68 mw_X6_error rfl (Nat.le_of_ble_eq_true rfl) (rmok d) h5 (by decide) rfl h (fun v62 Sm63 h65 => ?_)
      obtain ⟨m63, rfl, r64, rfl, h⟩ := h65
      show WP G _ _ _ 0 0 22 [(0, .ref b), (1, .int x1), (2, .int x2), (3, .int x3)] [.int r64] (sh, ta, m63)
      exact WP.iret dX6_voice_22 rfl (Nat.le_refl _) (Nat.le_refl _) ⟨_, rfl, h⟩
set_option maxHeartbeats 4000000 in
set_option maxRecDepth 20000 in
theorem rg_X6_body_0 (hG : fl G = false) (b : Nat) (x1 : Int32) (h : sh[b]? = some (.inl 6) ∧ Cal G mX6_in d [.int x1, .int 0, .int ((m b 15) - 1)] sh ta m (fun v2 m3 => ∃ r4, v2 = some (.int r4) ∧ ((r4 = 0 → Cal G mX6_error d [.ref b, .int 2] sh ta m3 (fun v7 m8 => ∃ r9, v7 = some (.int r9) ∧ K (some (.int r9)) m8)) ∧ (¬ r4 = 0 → ∃ i11, ta b 14 = some i11 ∧ ∃ n14, sh[i11]? = some (.inr (0, n14)) ∧ InB x1 n14 ∧ K (some (.int (rd (m3 i11) x1))) m3)))) : WP G (rmD (d + 1) 0 0) mX6_body (QC G sh ta K) 0 0 0 [(0, .ref b), (1, .int x1)] [] (sh, ta, m) := by
  refine WP.iload_n 1 dX6_body_0 rfl rfl ?_
  refine WP.iconst (v := 0) dX6_body_1 rfl ?_
  refine WP.aload_n 0 dX6_body_2 rfl rfl ?_
  obtain ⟨h1, h⟩ := h
  refine WP.getI 6 15 wf_X6_227 (by decide) (by decide) rfl h1 dX6_body_3 ?_
  refine WP.iconst (v := 1) dX6_body_6 rfl ?_
  refine WP.isub dX6_body_7 ?_
  refine WP.callS (y := mX6_in) (As := [.int x1, .int 0, .int ((m b 15) - 1)]) (st := []) dX6_body_8 wm_X6_50 mw_X6_in rfl (Nat.le_of_ble_eq_true rfl) (rmok d) rfl h (fun v2 Sm3 h5 => ?_)
  obtain ⟨m3, rfl, r4, rfl, h⟩ := h5
  show WP G _ _ _ 0 0 11 [(0, .ref b), (1, .int x1)] [.int r4] (sh, ta, m3)
  refine WP.if_eq (tgt := 23) dX6_body_11 (by decide) (fun c6 => ?_) (fun c6 => ?_)
  · have h := h.1 c6
    refine WP.aload_n 0 dX6_body_23 rfl rfl ?_
    refine WP.iconst (v := 2) dX6_body_24 rfl ?_
    refine WP.callV (y := mX6_error) (As := [.int 2]) (st := []) dX6_body_25 wm_X6_68 mw_X6_error rfl (Nat.le_of_ble_eq_true rfl) (rmok d) h1 (by decide) rfl h (fun v7 Sm8 h10 => ?_)
    obtain ⟨m8, rfl, r9, rfl, h⟩ := h10
    show WP G _ _ _ 0 0 28 [(0, .ref b), (1, .int x1)] [.int r9] (sh, ta, m8)
    exact WP.iret dX6_body_28 rfl (Nat.le_refl _) (Nat.le_refl _) ⟨_, rfl, h⟩
  · have h := h.2 c6
    refine WP.aload_n 0 dX6_body_14 rfl rfl ?_
    obtain ⟨i11, h12, h⟩ := h
    refine WP.getR 6 14 wf_X6_34 (by decide) (by decide) rfl h1 h12 dX6_body_15 ?_
    refine WP.iload_n 1 dX6_body_18 rfl rfl ?_
    obtain ⟨n14, h13, h⟩ := h
    obtain ⟨h15, h⟩ := h
    refine WP.iald h13 h15 dX6_body_19 ?_
    refine WP.goto (tgt := 28) dX6_body_20 (by decide) ?_
    exact WP.iret dX6_body_28 rfl (Nat.le_refl _) (Nat.le_refl _) ⟨_, rfl, h⟩
set_option maxHeartbeats 4000000 in
set_option maxRecDepth 20000 in
theorem rg_X6_isSheet_0 (hG : fl G = false) (x0 : Int32) (h : Cal G mX6_in d [.int x0, .int 0, .int 3] sh ta m (fun v1 m2 => ∃ r3, v1 = some (.int r3) ∧ isB r3 ∧ K (some (.int r3)) m2)) : WP G (rmD (d + 1) 0 0) mX6_isSheet (QC G sh ta K) 0 0 0 [(0, .int x0)] [] (sh, ta, m) := by
  refine WP.iload_n 0 dX6_isSheet_0 rfl rfl ?_
  refine WP.iconst (v := 0) dX6_isSheet_1 rfl ?_
  refine WP.iconst (v := 3) dX6_isSheet_2 rfl ?_
  refine WP.callS (y := mX6_in) (As := [.int x0, .int 0, .int 3]) (st := []) dX6_isSheet_3 wm_X6_50 mw_X6_in rfl (Nat.le_of_ble_eq_true rfl) (rmok d) rfl h (fun v1 Sm2 h4 => ?_)
  obtain ⟨m2, rfl, r3, rfl, h⟩ := h4
  show WP G _ _ _ 0 0 6 [(0, .int x0)] [.int r3] (sh, ta, m2)
  obtain ⟨h5, h⟩ := h
  exact WP.zret dX6_isSheet_6 rfl (Nat.le_refl _) (Nat.le_refl _) h5.n ⟨_, rfl, h⟩
set_option maxHeartbeats 4000000 in
set_option maxRecDepth 20000 in
theorem rg_X6_sheet_0 (hG : fl G = false) (b : Nat) (x1 : Int32) (x2 : Int32) (x3 : Int32) (h : Cal G mX6_isSheet d [.int x1] sh ta m (fun v1 m2 => ∃ r3, v1 = some (.int r3) ∧ ((r3 = 0 → sh[b]? = some (.inl 6) ∧ Cal G mX6_error d [.ref b, .int 1] sh ta m2 (fun v6 m7 => ∃ r8, v6 = some (.int r8) ∧ K (some (.int r8)) m7)) ∧ (¬ r3 = 0 → ((x2 = 0 → ((x2 = 0 → ((x2 = 0 → sh[b]? = some (.inl 6) ∧ ∃ i15, ta b 18 = some i15 ∧ ∃ n18, sh[i15]? = some (.inr (0, n18)) ∧ InB x1 n18 ∧ ∀ m20, m20 = upa m2 i15 x1 x2 → ∃ i21, ta b 19 = some i21 ∧ ((¬ x2 = 0 → ∃ n25, sh[i21]? = some (.inr (0, n25)) ∧ InB x1 n25 ∧ ∀ m27, m27 = upa m20 i21 x1 x3 → WP G (rmD (d + 1) 0 0) mX6_sheet (QC G sh ta K) 0 0 90 [(0, .ref b), (1, .int x1), (4, .int 0)] [] (sh, ta, m27)) ∧ (x2 = 0 → ∃ n29, sh[i21]? = some (.inr (0, n29)) ∧ InB x1 n29 ∧ ∀ m31, m31 = upa m20 i21 x1 (0 : Int32) → WP G (rmD (d + 1) 0 0) mX6_sheet (QC G sh ta K) 0 0 90 [(0, .ref b), (1, .int x1), (4, .int 0)] [] (sh, ta, m31)))) ∧ (¬ x2 = 0 → ((x3 ≤ (24 : Int32) → sh[b]? = some (.inl 6) ∧ ∃ i34, ta b 18 = some i34 ∧ ∃ n37, sh[i34]? = some (.inr (0, n37)) ∧ InB x1 n37 ∧ ∀ m39, m39 = upa m2 i34 x1 x2 → ∃ i40, ta b 19 = some i40 ∧ ((¬ x2 = 0 → ∃ n44, sh[i40]? = some (.inr (0, n44)) ∧ InB x1 n44 ∧ ∀ m46, m46 = upa m39 i40 x1 x3 → WP G (rmD (d + 1) 0 0) mX6_sheet (QC G sh ta K) 0 0 90 [(0, .ref b), (1, .int x1), (4, .int 0)] [] (sh, ta, m46)) ∧ (x2 = 0 → ∃ n48, sh[i40]? = some (.inr (0, n48)) ∧ InB x1 n48 ∧ ∀ m50, m50 = upa m39 i40 x1 (0 : Int32) → WP G (rmD (d + 1) 0 0) mX6_sheet (QC G sh ta K) 0 0 90 [(0, .ref b), (1, .int x1), (4, .int 0)] [] (sh, ta, m50)))) ∧ (¬ x3 ≤ (24 : Int32) → sh[b]? = some (.inl 6) ∧ Cal G mX6_error d [.ref b, .int 1] sh ta m2 (fun v51 m52 => ∃ r53, v51 = some (.int r53) ∧ K (some (.int r53)) m52)))))) ∧ (¬ x2 = 0 → ((0 ≤ x3 → ((x2 = 0 → sh[b]? = some (.inl 6) ∧ ∃ i59, ta b 18 = some i59 ∧ ∃ n62, sh[i59]? = some (.inr (0, n62)) ∧ InB x1 n62 ∧ ∀ m64, m64 = upa m2 i59 x1 x2 → ∃ i65, ta b 19 = some i65 ∧ ((¬ x2 = 0 → ∃ n69, sh[i65]? = some (.inr (0, n69)) ∧ InB x1 n69 ∧ ∀ m71, m71 = upa m64 i65 x1 x3 → WP G (rmD (d + 1) 0 0) mX6_sheet (QC G sh ta K) 0 0 90 [(0, .ref b), (1, .int x1), (4, .int 0)] [] (sh, ta, m71)) ∧ (x2 = 0 → ∃ n73, sh[i65]? = some (.inr (0, n73)) ∧ InB x1 n73 ∧ ∀ m75, m75 = upa m64 i65 x1 (0 : Int32) → WP G (rmD (d + 1) 0 0) mX6_sheet (QC G sh ta K) 0 0 90 [(0, .ref b), (1, .int x1), (4, .int 0)] [] (sh, ta, m75)))) ∧ (¬ x2 = 0 → ((x3 ≤ (24 : Int32) → sh[b]? = some (.inl 6) ∧ ∃ i78, ta b 18 = some i78 ∧ ∃ n81, sh[i78]? = some (.inr (0, n81)) ∧ InB x1 n81 ∧ ∀ m83, m83 = upa m2 i78 x1 x2 → ∃ i84, ta b 19 = some i84 ∧ ((¬ x2 = 0 → ∃ n88, sh[i84]? = some (.inr (0, n88)) ∧ InB x1 n88 ∧ ∀ m90, m90 = upa m83 i84 x1 x3 → WP G (rmD (d + 1) 0 0) mX6_sheet (QC G sh ta K) 0 0 90 [(0, .ref b), (1, .int x1), (4, .int 0)] [] (sh, ta, m90)) ∧ (x2 = 0 → ∃ n92, sh[i84]? = some (.inr (0, n92)) ∧ InB x1 n92 ∧ ∀ m94, m94 = upa m83 i84 x1 (0 : Int32) → WP G (rmD (d + 1) 0 0) mX6_sheet (QC G sh ta K) 0 0 90 [(0, .ref b), (1, .int x1), (4, .int 0)] [] (sh, ta, m94)))) ∧ (¬ x3 ≤ (24 : Int32) → sh[b]? = some (.inl 6) ∧ Cal G mX6_error d [.ref b, .int 1] sh ta m2 (fun v95 m96 => ∃ r97, v95 = some (.int r97) ∧ K (some (.int r97)) m96)))))) ∧ (¬ 0 ≤ x3 → sh[b]? = some (.inl 6) ∧ Cal G mX6_error d [.ref b, .int 3] sh ta m2 (fun v100 m101 => ∃ r102, v100 = some (.int r102) ∧ K (some (.int r102)) m101)))))) ∧ (¬ x2 = 0 → ((x2 = (8 : Int32) → ((x2 = 0 → ((x2 = 0 → sh[b]? = some (.inl 6) ∧ ∃ i109, ta b 18 = some i109 ∧ ∃ n112, sh[i109]? = some (.inr (0, n112)) ∧ InB x1 n112 ∧ ∀ m114, m114 = upa m2 i109 x1 x2 → ∃ i115, ta b 19 = some i115 ∧ ((¬ x2 = 0 → ∃ n119, sh[i115]? = some (.inr (0, n119)) ∧ InB x1 n119 ∧ ∀ m121, m121 = upa m114 i115 x1 x3 → WP G (rmD (d + 1) 0 0) mX6_sheet (QC G sh ta K) 0 0 90 [(0, .ref b), (1, .int x1), (4, .int 0)] [] (sh, ta, m121)) ∧ (x2 = 0 → ∃ n123, sh[i115]? = some (.inr (0, n123)) ∧ InB x1 n123 ∧ ∀ m125, m125 = upa m114 i115 x1 (0 : Int32) → WP G (rmD (d + 1) 0 0) mX6_sheet (QC G sh ta K) 0 0 90 [(0, .ref b), (1, .int x1), (4, .int 0)] [] (sh, ta, m125)))) ∧ (¬ x2 = 0 → ((x3 ≤ (24 : Int32) → sh[b]? = some (.inl 6) ∧ ∃ i128, ta b 18 = some i128 ∧ ∃ n131, sh[i128]? = some (.inr (0, n131)) ∧ InB x1 n131 ∧ ∀ m133, m133 = upa m2 i128 x1 x2 → ∃ i134, ta b 19 = some i134 ∧ ((¬ x2 = 0 → ∃ n138, sh[i134]? = some (.inr (0, n138)) ∧ InB x1 n138 ∧ ∀ m140, m140 = upa m133 i134 x1 x3 → WP G (rmD (d + 1) 0 0) mX6_sheet (QC G sh ta K) 0 0 90 [(0, .ref b), (1, .int x1), (4, .int 0)] [] (sh, ta, m140)) ∧ (x2 = 0 → ∃ n142, sh[i134]? = some (.inr (0, n142)) ∧ InB x1 n142 ∧ ∀ m144, m144 = upa m133 i134 x1 (0 : Int32) → WP G (rmD (d + 1) 0 0) mX6_sheet (QC G sh ta K) 0 0 90 [(0, .ref b), (1, .int x1), (4, .int 0)] [] (sh, ta, m144)))) ∧ (¬ x3 ≤ (24 : Int32) → sh[b]? = some (.inl 6) ∧ Cal G mX6_error d [.ref b, .int 1] sh ta m2 (fun v145 m146 => ∃ r147, v145 = some (.int r147) ∧ K (some (.int r147)) m146)))))) ∧ (¬ x2 = 0 → ((0 ≤ x3 → ((x2 = 0 → sh[b]? = some (.inl 6) ∧ ∃ i153, ta b 18 = some i153 ∧ ∃ n156, sh[i153]? = some (.inr (0, n156)) ∧ InB x1 n156 ∧ ∀ m158, m158 = upa m2 i153 x1 x2 → ∃ i159, ta b 19 = some i159 ∧ ((¬ x2 = 0 → ∃ n163, sh[i159]? = some (.inr (0, n163)) ∧ InB x1 n163 ∧ ∀ m165, m165 = upa m158 i159 x1 x3 → WP G (rmD (d + 1) 0 0) mX6_sheet (QC G sh ta K) 0 0 90 [(0, .ref b), (1, .int x1), (4, .int 0)] [] (sh, ta, m165)) ∧ (x2 = 0 → ∃ n167, sh[i159]? = some (.inr (0, n167)) ∧ InB x1 n167 ∧ ∀ m169, m169 = upa m158 i159 x1 (0 : Int32) → WP G (rmD (d + 1) 0 0) mX6_sheet (QC G sh ta K) 0 0 90 [(0, .ref b), (1, .int x1), (4, .int 0)] [] (sh, ta, m169)))) ∧ (¬ x2 = 0 → ((x3 ≤ (24 : Int32) → sh[b]? = some (.inl 6) ∧ ∃ i172, ta b 18 = some i172 ∧ ∃ n175, sh[i172]? = some (.inr (0, n175)) ∧ InB x1 n175 ∧ ∀ m177, m177 = upa m2 i172 x1 x2 → ∃ i178, ta b 19 = some i178 ∧ ((¬ x2 = 0 → ∃ n182, sh[i178]? = some (.inr (0, n182)) ∧ InB x1 n182 ∧ ∀ m184, m184 = upa m177 i178 x1 x3 → WP G (rmD (d + 1) 0 0) mX6_sheet (QC G sh ta K) 0 0 90 [(0, .ref b), (1, .int x1), (4, .int 0)] [] (sh, ta, m184)) ∧ (x2 = 0 → ∃ n186, sh[i178]? = some (.inr (0, n186)) ∧ InB x1 n186 ∧ ∀ m188, m188 = upa m177 i178 x1 (0 : Int32) → WP G (rmD (d + 1) 0 0) mX6_sheet (QC G sh ta K) 0 0 90 [(0, .ref b), (1, .int x1), (4, .int 0)] [] (sh, ta, m188)))) ∧ (¬ x3 ≤ (24 : Int32) → sh[b]? = some (.inl 6) ∧ Cal G mX6_error d [.ref b, .int 1] sh ta m2 (fun v189 m190 => ∃ r191, v189 = some (.int r191) ∧ K (some (.int r191)) m190)))))) ∧ (¬ 0 ≤ x3 → sh[b]? = some (.inl 6) ∧ Cal G mX6_error d [.ref b, .int 3] sh ta m2 (fun v194 m195 => ∃ r196, v194 = some (.int r196) ∧ K (some (.int r196)) m195)))))) ∧ (¬ x2 = (8 : Int32) → ((x2 = (16 : Int32) → ((x2 = 0 → ((x2 = 0 → sh[b]? = some (.inl 6) ∧ ∃ i203, ta b 18 = some i203 ∧ ∃ n206, sh[i203]? = some (.inr (0, n206)) ∧ InB x1 n206 ∧ ∀ m208, m208 = upa m2 i203 x1 x2 → ∃ i209, ta b 19 = some i209 ∧ ((¬ x2 = 0 → ∃ n213, sh[i209]? = some (.inr (0, n213)) ∧ InB x1 n213 ∧ ∀ m215, m215 = upa m208 i209 x1 x3 → WP G (rmD (d + 1) 0 0) mX6_sheet (QC G sh ta K) 0 0 90 [(0, .ref b), (1, .int x1), (4, .int 0)] [] (sh, ta, m215)) ∧ (x2 = 0 → ∃ n217, sh[i209]? = some (.inr (0, n217)) ∧ InB x1 n217 ∧ ∀ m219, m219 = upa m208 i209 x1 (0 : Int32) → WP G (rmD (d + 1) 0 0) mX6_sheet (QC G sh ta K) 0 0 90 [(0, .ref b), (1, .int x1), (4, .int 0)] [] (sh, ta, m219)))) ∧ (¬ x2 = 0 → ((x3 ≤ (24 : Int32) → sh[b]? = some (.inl 6) ∧ ∃ i222, ta b 18 = some i222 ∧ ∃ n225, sh[i222]? = some (.inr (0, n225)) ∧ InB x1 n225 ∧ ∀ m227, m227 = upa m2 i222 x1 x2 → ∃ i228, ta b 19 = some i228 ∧ ((¬ x2 = 0 → ∃ n232, sh[i228]? = some (.inr (0, n232)) ∧ InB x1 n232 ∧ ∀ m234, m234 = upa m227 i228 x1 x3 → WP G (rmD (d + 1) 0 0) mX6_sheet (QC G sh ta K) 0 0 90 [(0, .ref b), (1, .int x1), (4, .int 0)] [] (sh, ta, m234)) ∧ (x2 = 0 → ∃ n236, sh[i228]? = some (.inr (0, n236)) ∧ InB x1 n236 ∧ ∀ m238, m238 = upa m227 i228 x1 (0 : Int32) → WP G (rmD (d + 1) 0 0) mX6_sheet (QC G sh ta K) 0 0 90 [(0, .ref b), (1, .int x1), (4, .int 0)] [] (sh, ta, m238)))) ∧ (¬ x3 ≤ (24 : Int32) → sh[b]? = some (.inl 6) ∧ Cal G mX6_error d [.ref b, .int 1] sh ta m2 (fun v239 m240 => ∃ r241, v239 = some (.int r241) ∧ K (some (.int r241)) m240)))))) ∧ (¬ x2 = 0 → ((0 ≤ x3 → ((x2 = 0 → sh[b]? = some (.inl 6) ∧ ∃ i247, ta b 18 = some i247 ∧ ∃ n250, sh[i247]? = some (.inr (0, n250)) ∧ InB x1 n250 ∧ ∀ m252, m252 = upa m2 i247 x1 x2 → ∃ i253, ta b 19 = some i253 ∧ ((¬ x2 = 0 → ∃ n257, sh[i253]? = some (.inr (0, n257)) ∧ InB x1 n257 ∧ ∀ m259, m259 = upa m252 i253 x1 x3 → WP G (rmD (d + 1) 0 0) mX6_sheet (QC G sh ta K) 0 0 90 [(0, .ref b), (1, .int x1), (4, .int 0)] [] (sh, ta, m259)) ∧ (x2 = 0 → ∃ n261, sh[i253]? = some (.inr (0, n261)) ∧ InB x1 n261 ∧ ∀ m263, m263 = upa m252 i253 x1 (0 : Int32) → WP G (rmD (d + 1) 0 0) mX6_sheet (QC G sh ta K) 0 0 90 [(0, .ref b), (1, .int x1), (4, .int 0)] [] (sh, ta, m263)))) ∧ (¬ x2 = 0 → ((x3 ≤ (24 : Int32) → sh[b]? = some (.inl 6) ∧ ∃ i266, ta b 18 = some i266 ∧ ∃ n269, sh[i266]? = some (.inr (0, n269)) ∧ InB x1 n269 ∧ ∀ m271, m271 = upa m2 i266 x1 x2 → ∃ i272, ta b 19 = some i272 ∧ ((¬ x2 = 0 → ∃ n276, sh[i272]? = some (.inr (0, n276)) ∧ InB x1 n276 ∧ ∀ m278, m278 = upa m271 i272 x1 x3 → WP G (rmD (d + 1) 0 0) mX6_sheet (QC G sh ta K) 0 0 90 [(0, .ref b), (1, .int x1), (4, .int 0)] [] (sh, ta, m278)) ∧ (x2 = 0 → ∃ n280, sh[i272]? = some (.inr (0, n280)) ∧ InB x1 n280 ∧ ∀ m282, m282 = upa m271 i272 x1 (0 : Int32) → WP G (rmD (d + 1) 0 0) mX6_sheet (QC G sh ta K) 0 0 90 [(0, .ref b), (1, .int x1), (4, .int 0)] [] (sh, ta, m282)))) ∧ (¬ x3 ≤ (24 : Int32) → sh[b]? = some (.inl 6) ∧ Cal G mX6_error d [.ref b, .int 1] sh ta m2 (fun v283 m284 => ∃ r285, v283 = some (.int r285) ∧ K (some (.int r285)) m284)))))) ∧ (¬ 0 ≤ x3 → sh[b]? = some (.inl 6) ∧ Cal G mX6_error d [.ref b, .int 3] sh ta m2 (fun v288 m289 => ∃ r290, v288 = some (.int r290) ∧ K (some (.int r290)) m289)))))) ∧ (¬ x2 = (16 : Int32) → ((x2 = (32 : Int32) → ((x2 = 0 → ((x2 = 0 → sh[b]? = some (.inl 6) ∧ ∃ i297, ta b 18 = some i297 ∧ ∃ n300, sh[i297]? = some (.inr (0, n300)) ∧ InB x1 n300 ∧ ∀ m302, m302 = upa m2 i297 x1 x2 → ∃ i303, ta b 19 = some i303 ∧ ((¬ x2 = 0 → ∃ n307, sh[i303]? = some (.inr (0, n307)) ∧ InB x1 n307 ∧ ∀ m309, m309 = upa m302 i303 x1 x3 → WP G (rmD (d + 1) 0 0) mX6_sheet (QC G sh ta K) 0 0 90 [(0, .ref b), (1, .int x1), (4, .int 0)] [] (sh, ta, m309)) ∧ (x2 = 0 → ∃ n311, sh[i303]? = some (.inr (0, n311)) ∧ InB x1 n311 ∧ ∀ m313, m313 = upa m302 i303 x1 (0 : Int32) → WP G (rmD (d + 1) 0 0) mX6_sheet (QC G sh ta K) 0 0 90 [(0, .ref b), (1, .int x1), (4, .int 0)] [] (sh, ta, m313)))) ∧ (¬ x2 = 0 → ((x3 ≤ (24 : Int32) → sh[b]? = some (.inl 6) ∧ ∃ i316, ta b 18 = some i316 ∧ ∃ n319, sh[i316]? = some (.inr (0, n319)) ∧ InB x1 n319 ∧ ∀ m321, m321 = upa m2 i316 x1 x2 → ∃ i322, ta b 19 = some i322 ∧ ((¬ x2 = 0 → ∃ n326, sh[i322]? = some (.inr (0, n326)) ∧ InB x1 n326 ∧ ∀ m328, m328 = upa m321 i322 x1 x3 → WP G (rmD (d + 1) 0 0) mX6_sheet (QC G sh ta K) 0 0 90 [(0, .ref b), (1, .int x1), (4, .int 0)] [] (sh, ta, m328)) ∧ (x2 = 0 → ∃ n330, sh[i322]? = some (.inr (0, n330)) ∧ InB x1 n330 ∧ ∀ m332, m332 = upa m321 i322 x1 (0 : Int32) → WP G (rmD (d + 1) 0 0) mX6_sheet (QC G sh ta K) 0 0 90 [(0, .ref b), (1, .int x1), (4, .int 0)] [] (sh, ta, m332)))) ∧ (¬ x3 ≤ (24 : Int32) → sh[b]? = some (.inl 6) ∧ Cal G mX6_error d [.ref b, .int 1] sh ta m2 (fun v333 m334 => ∃ r335, v333 = some (.int r335) ∧ K (some (.int r335)) m334)))))) ∧ (¬ x2 = 0 → ((0 ≤ x3 → ((x2 = 0 → sh[b]? = some (.inl 6) ∧ ∃ i341, ta b 18 = some i341 ∧ ∃ n344, sh[i341]? = some (.inr (0, n344)) ∧ InB x1 n344 ∧ ∀ m346, m346 = upa m2 i341 x1 x2 → ∃ i347, ta b 19 = some i347 ∧ ((¬ x2 = 0 → ∃ n351, sh[i347]? = some (.inr (0, n351)) ∧ InB x1 n351 ∧ ∀ m353, m353 = upa m346 i347 x1 x3 → WP G (rmD (d + 1) 0 0) mX6_sheet (QC G sh ta K) 0 0 90 [(0, .ref b), (1, .int x1), (4, .int 0)] [] (sh, ta, m353)) ∧ (x2 = 0 → ∃ n355, sh[i347]? = some (.inr (0, n355)) ∧ InB x1 n355 ∧ ∀ m357, m357 = upa m346 i347 x1 (0 : Int32) → WP G (rmD (d + 1) 0 0) mX6_sheet (QC G sh ta K) 0 0 90 [(0, .ref b), (1, .int x1), (4, .int 0)] [] (sh, ta, m357)))) ∧ (¬ x2 = 0 → ((x3 ≤ (24 : Int32) → sh[b]? = some (.inl 6) ∧ ∃ i360, ta b 18 = some i360 ∧ ∃ n363, sh[i360]? = some (.inr (0, n363)) ∧ InB x1 n363 ∧ ∀ m365, m365 = upa m2 i360 x1 x2 → ∃ i366, ta b 19 = some i366 ∧ ((¬ x2 = 0 → ∃ n370, sh[i366]? = some (.inr (0, n370)) ∧ InB x1 n370 ∧ ∀ m372, m372 = upa m365 i366 x1 x3 → WP G (rmD (d + 1) 0 0) mX6_sheet (QC G sh ta K) 0 0 90 [(0, .ref b), (1, .int x1), (4, .int 0)] [] (sh, ta, m372)) ∧ (x2 = 0 → ∃ n374, sh[i366]? = some (.inr (0, n374)) ∧ InB x1 n374 ∧ ∀ m376, m376 = upa m365 i366 x1 (0 : Int32) → WP G (rmD (d + 1) 0 0) mX6_sheet (QC G sh ta K) 0 0 90 [(0, .ref b), (1, .int x1), (4, .int 0)] [] (sh, ta, m376)))) ∧ (¬ x3 ≤ (24 : Int32) → sh[b]? = some (.inl 6) ∧ Cal G mX6_error d [.ref b, .int 1] sh ta m2 (fun v377 m378 => ∃ r379, v377 = some (.int r379) ∧ K (some (.int r379)) m378)))))) ∧ (¬ 0 ≤ x3 → sh[b]? = some (.inl 6) ∧ Cal G mX6_error d [.ref b, .int 3] sh ta m2 (fun v382 m383 => ∃ r384, v382 = some (.int r384) ∧ K (some (.int r384)) m383)))))) ∧ (¬ x2 = (32 : Int32) → sh[b]? = some (.inl 6) ∧ Cal G mX6_error d [.ref b, .int 1] sh ta m2 (fun v387 m388 => ∃ r389, v387 = some (.int r389) ∧ K (some (.int r389)) m388))))))))))))) : WP G (rmD (d + 1) 0 0) mX6_sheet (QC G sh ta K) 0 0 0 [(0, .ref b), (1, .int x1), (2, .int x2), (3, .int x3)] [] (sh, ta, m) := by
  refine WP.iload_n 1 dX6_sheet_0 rfl rfl ?_
  refine WP.callS (y := mX6_isSheet) (As := [.int x1]) (st := []) dX6_sheet_1 wm_X6_261 mw_X6_isSheet rfl (Nat.le_of_ble_eq_true rfl) (rmok d) rfl h (fun v1 Sm2 h4 => ?_)
  obtain ⟨m2, rfl, r3, rfl, h⟩ := h4
  show WP G _ _ _ 0 0 4 [(0, .ref b), (1, .int x1), (2, .int x2), (3, .int x3)] [.int r3] (sh, ta, m2)
  refine WP.if_eq (tgt := 29) dX6_sheet_4 (by decide) (fun c5 => ?_) (fun c5 => ?_)
  · have h := h.1 c5
    refine WP.aload_n 0 dX6_sheet_29 rfl rfl ?_
    refine WP.iconst (v := 1) dX6_sheet_30 rfl ?_
    obtain ⟨h10, h⟩ := h
    refine WP.callV (y := mX6_error) (As := [.int 1]) (st := []) dX6_sheet_31 wm_X6_68 mw_X6_error rfl (Nat.le_of_ble_eq_true rfl) (rmok d) h10 (by decide) rfl h (fun v6 Sm7 h9 => ?_)
    obtain ⟨m7, rfl, r8, rfl, h⟩ := h9
    show WP G _ _ _ 0 0 34 [(0, .ref b), (1, .int x1), (2, .int x2), (3, .int x3)] [.int r8] (sh, ta, m7)
    exact WP.iret dX6_sheet_34 rfl (Nat.le_refl _) (Nat.le_refl _) ⟨_, rfl, h⟩
  · have h := h.2 c5
    refine WP.iload_n 2 dX6_sheet_7 rfl rfl ?_
    refine WP.if_eq (tgt := 35) dX6_sheet_8 (by decide) (fun c11 => ?_) (fun c11 => ?_)
    · have h := h.1 c11
      refine WP.iload_n 2 dX6_sheet_35 rfl rfl ?_
      refine WP.if_eq (tgt := 49) dX6_sheet_36 (by decide) (fun c12 => ?_) (fun c12 => ?_)
      · have h := h.1 c12
        refine WP.iload_n 2 dX6_sheet_49 rfl rfl ?_
        refine WP.if_eq (tgt := 65) dX6_sheet_50 (by decide) (fun c13 => ?_) (fun c13 => ?_)
        · have h := h.1 c13
          refine WP.aload_n 0 dX6_sheet_65 rfl rfl ?_
          obtain ⟨h14, h⟩ := h
          obtain ⟨i15, h16, h⟩ := h
          refine WP.getR 6 18 wf_X6_37 (by decide) (by decide) rfl h14 h16 dX6_sheet_66 ?_
          refine WP.iload_n 1 dX6_sheet_69 rfl rfl ?_
          refine WP.iload_n 2 dX6_sheet_70 rfl rfl ?_
          obtain ⟨n18, h17, h⟩ := h
          obtain ⟨h19, h⟩ := h
          have h := h _ rfl
          refine WP.iast h17 h19 dX6_sheet_71 ?_
          generalize upa m2 i15 x1 x2 = m20 at h ⊢
          refine WP.aload_n 0 dX6_sheet_72 rfl rfl ?_
          obtain ⟨i21, h22, h⟩ := h
          refine WP.getR 6 19 wf_X6_40 (by decide) (by decide) rfl h14 h22 dX6_sheet_73 ?_
          refine WP.iload_n 1 dX6_sheet_76 rfl rfl ?_
          refine WP.iload_n 2 dX6_sheet_77 rfl rfl ?_
          refine WP.if_ne (tgt := 85) dX6_sheet_78 (by decide) (fun c23 => ?_) (fun c23 => ?_)
          · have h := h.1 c23
            refine WP.iload_n 3 dX6_sheet_85 rfl rfl ?_
            obtain ⟨n25, h24, h⟩ := h
            obtain ⟨h26, h⟩ := h
            have h := h _ rfl
            refine WP.iast h24 h26 dX6_sheet_86 ?_
            generalize upa m20 i21 x1 x3 = m27 at h ⊢
            refine WP.iconst (v := 0) dX6_sheet_87 rfl ?_
            refine WP.istore (lv2 := [(4, .int 0), (0, .ref b), (1, .int x1), (2, .int x2), (3, .int x3)]) dX6_sheet_88 (by decide) rfl ?_
            exact WP.pick [1, 2, 0] rfl h
          · have h := h.2 c23
            refine WP.iconst (v := 0) dX6_sheet_81 rfl ?_
            refine WP.goto (tgt := 86) dX6_sheet_82 (by decide) ?_
            obtain ⟨n29, h28, h⟩ := h
            obtain ⟨h30, h⟩ := h
            have h := h _ rfl
            refine WP.iast h28 h30 dX6_sheet_86 ?_
            generalize upa m20 i21 x1 (0 : Int32) = m31 at h ⊢
            refine WP.iconst (v := 0) dX6_sheet_87 rfl ?_
            refine WP.istore (lv2 := [(4, .int 0), (0, .ref b), (1, .int x1), (2, .int x2), (3, .int x3)]) dX6_sheet_88 (by decide) rfl ?_
            exact WP.pick [1, 2, 0] rfl h
        · have h := h.2 c13
          refine WP.iload_n 3 dX6_sheet_53 rfl rfl ?_
          refine WP.bipush (v := 24) dX6_sheet_54 rfl ?_
          refine WP.icmp_le (tgt := 65) dX6_sheet_56 (by decide) (fun c32 => ?_) (fun c32 => ?_)
          · have h := h.1 c32
            refine WP.aload_n 0 dX6_sheet_65 rfl rfl ?_
            obtain ⟨h33, h⟩ := h
            obtain ⟨i34, h35, h⟩ := h
            refine WP.getR 6 18 wf_X6_37 (by decide) (by decide) rfl h33 h35 dX6_sheet_66 ?_
            refine WP.iload_n 1 dX6_sheet_69 rfl rfl ?_
            refine WP.iload_n 2 dX6_sheet_70 rfl rfl ?_
            obtain ⟨n37, h36, h⟩ := h
            obtain ⟨h38, h⟩ := h
            have h := h _ rfl
            refine WP.iast h36 h38 dX6_sheet_71 ?_
            generalize upa m2 i34 x1 x2 = m39 at h ⊢
            refine WP.aload_n 0 dX6_sheet_72 rfl rfl ?_
            obtain ⟨i40, h41, h⟩ := h
            refine WP.getR 6 19 wf_X6_40 (by decide) (by decide) rfl h33 h41 dX6_sheet_73 ?_
            refine WP.iload_n 1 dX6_sheet_76 rfl rfl ?_
            refine WP.iload_n 2 dX6_sheet_77 rfl rfl ?_
            refine WP.if_ne (tgt := 85) dX6_sheet_78 (by decide) (fun c42 => ?_) (fun c42 => ?_)
            · have h := h.1 c42
              refine WP.iload_n 3 dX6_sheet_85 rfl rfl ?_
              obtain ⟨n44, h43, h⟩ := h
              obtain ⟨h45, h⟩ := h
              have h := h _ rfl
              refine WP.iast h43 h45 dX6_sheet_86 ?_
              generalize upa m39 i40 x1 x3 = m46 at h ⊢
              refine WP.iconst (v := 0) dX6_sheet_87 rfl ?_
              refine WP.istore (lv2 := [(4, .int 0), (0, .ref b), (1, .int x1), (2, .int x2), (3, .int x3)]) dX6_sheet_88 (by decide) rfl ?_
              exact WP.pick [1, 2, 0] rfl h
            · have h := h.2 c42
              refine WP.iconst (v := 0) dX6_sheet_81 rfl ?_
              refine WP.goto (tgt := 86) dX6_sheet_82 (by decide) ?_
              obtain ⟨n48, h47, h⟩ := h
              obtain ⟨h49, h⟩ := h
              have h := h _ rfl
              refine WP.iast h47 h49 dX6_sheet_86 ?_
              generalize upa m39 i40 x1 (0 : Int32) = m50 at h ⊢
              refine WP.iconst (v := 0) dX6_sheet_87 rfl ?_
              refine WP.istore (lv2 := [(4, .int 0), (0, .ref b), (1, .int x1), (2, .int x2), (3, .int x3)]) dX6_sheet_88 (by decide) rfl ?_
              exact WP.pick [1, 2, 0] rfl h
          · have h := h.2 c32
            refine WP.aload_n 0 dX6_sheet_59 rfl rfl ?_
            refine WP.iconst (v := 1) dX6_sheet_60 rfl ?_
            obtain ⟨h55, h⟩ := h
            refine WP.callV (y := mX6_error) (As := [.int 1]) (st := []) dX6_sheet_61 wm_X6_68 mw_X6_error rfl (Nat.le_of_ble_eq_true rfl) (rmok d) h55 (by decide) rfl h (fun v51 Sm52 h54 => ?_)
            obtain ⟨m52, rfl, r53, rfl, h⟩ := h54
            show WP G _ _ _ 0 0 64 [(0, .ref b), (1, .int x1), (2, .int x2), (3, .int x3)] [.int r53] (sh, ta, m52)
            exact WP.iret dX6_sheet_64 rfl (Nat.le_refl _) (Nat.le_refl _) ⟨_, rfl, h⟩
      · have h := h.2 c12
        refine WP.iload_n 3 dX6_sheet_39 rfl rfl ?_
        refine WP.if_ge (tgt := 49) dX6_sheet_40 (by decide) (fun c56 => ?_) (fun c56 => ?_)
        · have h := h.1 c56
          refine WP.iload_n 2 dX6_sheet_49 rfl rfl ?_
          refine WP.if_eq (tgt := 65) dX6_sheet_50 (by decide) (fun c57 => ?_) (fun c57 => ?_)
          · have h := h.1 c57
            refine WP.aload_n 0 dX6_sheet_65 rfl rfl ?_
            obtain ⟨h58, h⟩ := h
            obtain ⟨i59, h60, h⟩ := h
            refine WP.getR 6 18 wf_X6_37 (by decide) (by decide) rfl h58 h60 dX6_sheet_66 ?_
            refine WP.iload_n 1 dX6_sheet_69 rfl rfl ?_
            refine WP.iload_n 2 dX6_sheet_70 rfl rfl ?_
            obtain ⟨n62, h61, h⟩ := h
            obtain ⟨h63, h⟩ := h
            have h := h _ rfl
            refine WP.iast h61 h63 dX6_sheet_71 ?_
            generalize upa m2 i59 x1 x2 = m64 at h ⊢
            refine WP.aload_n 0 dX6_sheet_72 rfl rfl ?_
            obtain ⟨i65, h66, h⟩ := h
            refine WP.getR 6 19 wf_X6_40 (by decide) (by decide) rfl h58 h66 dX6_sheet_73 ?_
            refine WP.iload_n 1 dX6_sheet_76 rfl rfl ?_
            refine WP.iload_n 2 dX6_sheet_77 rfl rfl ?_
            refine WP.if_ne (tgt := 85) dX6_sheet_78 (by decide) (fun c67 => ?_) (fun c67 => ?_)
            · have h := h.1 c67
              refine WP.iload_n 3 dX6_sheet_85 rfl rfl ?_
              obtain ⟨n69, h68, h⟩ := h
              obtain ⟨h70, h⟩ := h
              have h := h _ rfl
              refine WP.iast h68 h70 dX6_sheet_86 ?_
              generalize upa m64 i65 x1 x3 = m71 at h ⊢
              refine WP.iconst (v := 0) dX6_sheet_87 rfl ?_
              refine WP.istore (lv2 := [(4, .int 0), (0, .ref b), (1, .int x1), (2, .int x2), (3, .int x3)]) dX6_sheet_88 (by decide) rfl ?_
              exact WP.pick [1, 2, 0] rfl h
            · have h := h.2 c67
              refine WP.iconst (v := 0) dX6_sheet_81 rfl ?_
              refine WP.goto (tgt := 86) dX6_sheet_82 (by decide) ?_
              obtain ⟨n73, h72, h⟩ := h
              obtain ⟨h74, h⟩ := h
              have h := h _ rfl
              refine WP.iast h72 h74 dX6_sheet_86 ?_
              generalize upa m64 i65 x1 (0 : Int32) = m75 at h ⊢
              refine WP.iconst (v := 0) dX6_sheet_87 rfl ?_
              refine WP.istore (lv2 := [(4, .int 0), (0, .ref b), (1, .int x1), (2, .int x2), (3, .int x3)]) dX6_sheet_88 (by decide) rfl ?_
              exact WP.pick [1, 2, 0] rfl h
          · have h := h.2 c57
            refine WP.iload_n 3 dX6_sheet_53 rfl rfl ?_
            refine WP.bipush (v := 24) dX6_sheet_54 rfl ?_
            refine WP.icmp_le (tgt := 65) dX6_sheet_56 (by decide) (fun c76 => ?_) (fun c76 => ?_)
            · have h := h.1 c76
              refine WP.aload_n 0 dX6_sheet_65 rfl rfl ?_
              obtain ⟨h77, h⟩ := h
              obtain ⟨i78, h79, h⟩ := h
              refine WP.getR 6 18 wf_X6_37 (by decide) (by decide) rfl h77 h79 dX6_sheet_66 ?_
              refine WP.iload_n 1 dX6_sheet_69 rfl rfl ?_
              refine WP.iload_n 2 dX6_sheet_70 rfl rfl ?_
              obtain ⟨n81, h80, h⟩ := h
              obtain ⟨h82, h⟩ := h
              have h := h _ rfl
              refine WP.iast h80 h82 dX6_sheet_71 ?_
              generalize upa m2 i78 x1 x2 = m83 at h ⊢
              refine WP.aload_n 0 dX6_sheet_72 rfl rfl ?_
              obtain ⟨i84, h85, h⟩ := h
              refine WP.getR 6 19 wf_X6_40 (by decide) (by decide) rfl h77 h85 dX6_sheet_73 ?_
              refine WP.iload_n 1 dX6_sheet_76 rfl rfl ?_
              refine WP.iload_n 2 dX6_sheet_77 rfl rfl ?_
              refine WP.if_ne (tgt := 85) dX6_sheet_78 (by decide) (fun c86 => ?_) (fun c86 => ?_)
              · have h := h.1 c86
                refine WP.iload_n 3 dX6_sheet_85 rfl rfl ?_
                obtain ⟨n88, h87, h⟩ := h
                obtain ⟨h89, h⟩ := h
                have h := h _ rfl
                refine WP.iast h87 h89 dX6_sheet_86 ?_
                generalize upa m83 i84 x1 x3 = m90 at h ⊢
                refine WP.iconst (v := 0) dX6_sheet_87 rfl ?_
                refine WP.istore (lv2 := [(4, .int 0), (0, .ref b), (1, .int x1), (2, .int x2), (3, .int x3)]) dX6_sheet_88 (by decide) rfl ?_
                exact WP.pick [1, 2, 0] rfl h
              · have h := h.2 c86
                refine WP.iconst (v := 0) dX6_sheet_81 rfl ?_
                refine WP.goto (tgt := 86) dX6_sheet_82 (by decide) ?_
                obtain ⟨n92, h91, h⟩ := h
                obtain ⟨h93, h⟩ := h
                have h := h _ rfl
                refine WP.iast h91 h93 dX6_sheet_86 ?_
                generalize upa m83 i84 x1 (0 : Int32) = m94 at h ⊢
                refine WP.iconst (v := 0) dX6_sheet_87 rfl ?_
                refine WP.istore (lv2 := [(4, .int 0), (0, .ref b), (1, .int x1), (2, .int x2), (3, .int x3)]) dX6_sheet_88 (by decide) rfl ?_
                exact WP.pick [1, 2, 0] rfl h
            · have h := h.2 c76
              refine WP.aload_n 0 dX6_sheet_59 rfl rfl ?_
              refine WP.iconst (v := 1) dX6_sheet_60 rfl ?_
              obtain ⟨h99, h⟩ := h
              refine WP.callV (y := mX6_error) (As := [.int 1]) (st := []) dX6_sheet_61 wm_X6_68 mw_X6_error rfl (Nat.le_of_ble_eq_true rfl) (rmok d) h99 (by decide) rfl h (fun v95 Sm96 h98 => ?_)
              obtain ⟨m96, rfl, r97, rfl, h⟩ := h98
              show WP G _ _ _ 0 0 64 [(0, .ref b), (1, .int x1), (2, .int x2), (3, .int x3)] [.int r97] (sh, ta, m96)
              exact WP.iret dX6_sheet_64 rfl (Nat.le_refl _) (Nat.le_refl _) ⟨_, rfl, h⟩
        · have h := h.2 c56
          refine WP.aload_n 0 dX6_sheet_43 rfl rfl ?_
          refine WP.iconst (v := 3) dX6_sheet_44 rfl ?_
          obtain ⟨h104, h⟩ := h
          refine WP.callV (y := mX6_error) (As := [.int 3]) (st := []) dX6_sheet_45 wm_X6_68 mw_X6_error rfl (Nat.le_of_ble_eq_true rfl) (rmok d) h104 (by decide) rfl h (fun v100 Sm101 h103 => ?_)
          obtain ⟨m101, rfl, r102, rfl, h⟩ := h103
          show WP G _ _ _ 0 0 48 [(0, .ref b), (1, .int x1), (2, .int x2), (3, .int x3)] [.int r102] (sh, ta, m101)
          exact WP.iret dX6_sheet_48 rfl (Nat.le_refl _) (Nat.le_refl _) ⟨_, rfl, h⟩
    · have h := h.2 c11
      refine WP.iload_n 2 dX6_sheet_11 rfl rfl ?_
      refine WP.bipush (v := 8) dX6_sheet_12 rfl ?_
      refine WP.icmp_eq (tgt := 35) dX6_sheet_14 (by decide) (fun c105 => ?_) (fun c105 => ?_)
      · have h := h.1 c105
        refine WP.iload_n 2 dX6_sheet_35 rfl rfl ?_
        refine WP.if_eq (tgt := 49) dX6_sheet_36 (by decide) (fun c106 => ?_) (fun c106 => ?_)
        · have h := h.1 c106
          refine WP.iload_n 2 dX6_sheet_49 rfl rfl ?_
          refine WP.if_eq (tgt := 65) dX6_sheet_50 (by decide) (fun c107 => ?_) (fun c107 => ?_)
          · have h := h.1 c107
            refine WP.aload_n 0 dX6_sheet_65 rfl rfl ?_
            obtain ⟨h108, h⟩ := h
            obtain ⟨i109, h110, h⟩ := h
            refine WP.getR 6 18 wf_X6_37 (by decide) (by decide) rfl h108 h110 dX6_sheet_66 ?_
            refine WP.iload_n 1 dX6_sheet_69 rfl rfl ?_
            refine WP.iload_n 2 dX6_sheet_70 rfl rfl ?_
            obtain ⟨n112, h111, h⟩ := h
            obtain ⟨h113, h⟩ := h
            have h := h _ rfl
            refine WP.iast h111 h113 dX6_sheet_71 ?_
            generalize upa m2 i109 x1 x2 = m114 at h ⊢
            refine WP.aload_n 0 dX6_sheet_72 rfl rfl ?_
            obtain ⟨i115, h116, h⟩ := h
            refine WP.getR 6 19 wf_X6_40 (by decide) (by decide) rfl h108 h116 dX6_sheet_73 ?_
            refine WP.iload_n 1 dX6_sheet_76 rfl rfl ?_
            refine WP.iload_n 2 dX6_sheet_77 rfl rfl ?_
            refine WP.if_ne (tgt := 85) dX6_sheet_78 (by decide) (fun c117 => ?_) (fun c117 => ?_)
            · have h := h.1 c117
              refine WP.iload_n 3 dX6_sheet_85 rfl rfl ?_
              obtain ⟨n119, h118, h⟩ := h
              obtain ⟨h120, h⟩ := h
              have h := h _ rfl
              refine WP.iast h118 h120 dX6_sheet_86 ?_
              generalize upa m114 i115 x1 x3 = m121 at h ⊢
              refine WP.iconst (v := 0) dX6_sheet_87 rfl ?_
              refine WP.istore (lv2 := [(4, .int 0), (0, .ref b), (1, .int x1), (2, .int x2), (3, .int x3)]) dX6_sheet_88 (by decide) rfl ?_
              exact WP.pick [1, 2, 0] rfl h
            · have h := h.2 c117
              refine WP.iconst (v := 0) dX6_sheet_81 rfl ?_
              refine WP.goto (tgt := 86) dX6_sheet_82 (by decide) ?_
              obtain ⟨n123, h122, h⟩ := h
              obtain ⟨h124, h⟩ := h
              have h := h _ rfl
              refine WP.iast h122 h124 dX6_sheet_86 ?_
              generalize upa m114 i115 x1 (0 : Int32) = m125 at h ⊢
              refine WP.iconst (v := 0) dX6_sheet_87 rfl ?_
              refine WP.istore (lv2 := [(4, .int 0), (0, .ref b), (1, .int x1), (2, .int x2), (3, .int x3)]) dX6_sheet_88 (by decide) rfl ?_
              exact WP.pick [1, 2, 0] rfl h
          · have h := h.2 c107
            refine WP.iload_n 3 dX6_sheet_53 rfl rfl ?_
            refine WP.bipush (v := 24) dX6_sheet_54 rfl ?_
            refine WP.icmp_le (tgt := 65) dX6_sheet_56 (by decide) (fun c126 => ?_) (fun c126 => ?_)
            · have h := h.1 c126
              refine WP.aload_n 0 dX6_sheet_65 rfl rfl ?_
              obtain ⟨h127, h⟩ := h
              obtain ⟨i128, h129, h⟩ := h
              refine WP.getR 6 18 wf_X6_37 (by decide) (by decide) rfl h127 h129 dX6_sheet_66 ?_
              refine WP.iload_n 1 dX6_sheet_69 rfl rfl ?_
              refine WP.iload_n 2 dX6_sheet_70 rfl rfl ?_
              obtain ⟨n131, h130, h⟩ := h
              obtain ⟨h132, h⟩ := h
              have h := h _ rfl
              refine WP.iast h130 h132 dX6_sheet_71 ?_
              generalize upa m2 i128 x1 x2 = m133 at h ⊢
              refine WP.aload_n 0 dX6_sheet_72 rfl rfl ?_
              obtain ⟨i134, h135, h⟩ := h
              refine WP.getR 6 19 wf_X6_40 (by decide) (by decide) rfl h127 h135 dX6_sheet_73 ?_
              refine WP.iload_n 1 dX6_sheet_76 rfl rfl ?_
              refine WP.iload_n 2 dX6_sheet_77 rfl rfl ?_
              refine WP.if_ne (tgt := 85) dX6_sheet_78 (by decide) (fun c136 => ?_) (fun c136 => ?_)
              · have h := h.1 c136
                refine WP.iload_n 3 dX6_sheet_85 rfl rfl ?_
                obtain ⟨n138, h137, h⟩ := h
                obtain ⟨h139, h⟩ := h
                have h := h _ rfl
                refine WP.iast h137 h139 dX6_sheet_86 ?_
                generalize upa m133 i134 x1 x3 = m140 at h ⊢
                refine WP.iconst (v := 0) dX6_sheet_87 rfl ?_
                refine WP.istore (lv2 := [(4, .int 0), (0, .ref b), (1, .int x1), (2, .int x2), (3, .int x3)]) dX6_sheet_88 (by decide) rfl ?_
                exact WP.pick [1, 2, 0] rfl h
              · have h := h.2 c136
                refine WP.iconst (v := 0) dX6_sheet_81 rfl ?_
                refine WP.goto (tgt := 86) dX6_sheet_82 (by decide) ?_
                obtain ⟨n142, h141, h⟩ := h
                obtain ⟨h143, h⟩ := h
                have h := h _ rfl
                refine WP.iast h141 h143 dX6_sheet_86 ?_
                generalize upa m133 i134 x1 (0 : Int32) = m144 at h ⊢
                refine WP.iconst (v := 0) dX6_sheet_87 rfl ?_
                refine WP.istore (lv2 := [(4, .int 0), (0, .ref b), (1, .int x1), (2, .int x2), (3, .int x3)]) dX6_sheet_88 (by decide) rfl ?_
                exact WP.pick [1, 2, 0] rfl h
            · have h := h.2 c126
              refine WP.aload_n 0 dX6_sheet_59 rfl rfl ?_
              refine WP.iconst (v := 1) dX6_sheet_60 rfl ?_
              obtain ⟨h149, h⟩ := h
              refine WP.callV (y := mX6_error) (As := [.int 1]) (st := []) dX6_sheet_61 wm_X6_68 mw_X6_error rfl (Nat.le_of_ble_eq_true rfl) (rmok d) h149 (by decide) rfl h (fun v145 Sm146 h148 => ?_)
              obtain ⟨m146, rfl, r147, rfl, h⟩ := h148
              show WP G _ _ _ 0 0 64 [(0, .ref b), (1, .int x1), (2, .int x2), (3, .int x3)] [.int r147] (sh, ta, m146)
              exact WP.iret dX6_sheet_64 rfl (Nat.le_refl _) (Nat.le_refl _) ⟨_, rfl, h⟩
        · have h := h.2 c106
          refine WP.iload_n 3 dX6_sheet_39 rfl rfl ?_
          refine WP.if_ge (tgt := 49) dX6_sheet_40 (by decide) (fun c150 => ?_) (fun c150 => ?_)
          · have h := h.1 c150
            refine WP.iload_n 2 dX6_sheet_49 rfl rfl ?_
            refine WP.if_eq (tgt := 65) dX6_sheet_50 (by decide) (fun c151 => ?_) (fun c151 => ?_)
            · have h := h.1 c151
              refine WP.aload_n 0 dX6_sheet_65 rfl rfl ?_
              obtain ⟨h152, h⟩ := h
              obtain ⟨i153, h154, h⟩ := h
              refine WP.getR 6 18 wf_X6_37 (by decide) (by decide) rfl h152 h154 dX6_sheet_66 ?_
              refine WP.iload_n 1 dX6_sheet_69 rfl rfl ?_
              refine WP.iload_n 2 dX6_sheet_70 rfl rfl ?_
              obtain ⟨n156, h155, h⟩ := h
              obtain ⟨h157, h⟩ := h
              have h := h _ rfl
              refine WP.iast h155 h157 dX6_sheet_71 ?_
              generalize upa m2 i153 x1 x2 = m158 at h ⊢
              refine WP.aload_n 0 dX6_sheet_72 rfl rfl ?_
              obtain ⟨i159, h160, h⟩ := h
              refine WP.getR 6 19 wf_X6_40 (by decide) (by decide) rfl h152 h160 dX6_sheet_73 ?_
              refine WP.iload_n 1 dX6_sheet_76 rfl rfl ?_
              refine WP.iload_n 2 dX6_sheet_77 rfl rfl ?_
              refine WP.if_ne (tgt := 85) dX6_sheet_78 (by decide) (fun c161 => ?_) (fun c161 => ?_)
              · have h := h.1 c161
                refine WP.iload_n 3 dX6_sheet_85 rfl rfl ?_
                obtain ⟨n163, h162, h⟩ := h
                obtain ⟨h164, h⟩ := h
                have h := h _ rfl
                refine WP.iast h162 h164 dX6_sheet_86 ?_
                generalize upa m158 i159 x1 x3 = m165 at h ⊢
                refine WP.iconst (v := 0) dX6_sheet_87 rfl ?_
                refine WP.istore (lv2 := [(4, .int 0), (0, .ref b), (1, .int x1), (2, .int x2), (3, .int x3)]) dX6_sheet_88 (by decide) rfl ?_
                exact WP.pick [1, 2, 0] rfl h
              · have h := h.2 c161
                refine WP.iconst (v := 0) dX6_sheet_81 rfl ?_
                refine WP.goto (tgt := 86) dX6_sheet_82 (by decide) ?_
                obtain ⟨n167, h166, h⟩ := h
                obtain ⟨h168, h⟩ := h
                have h := h _ rfl
                refine WP.iast h166 h168 dX6_sheet_86 ?_
                generalize upa m158 i159 x1 (0 : Int32) = m169 at h ⊢
                refine WP.iconst (v := 0) dX6_sheet_87 rfl ?_
                refine WP.istore (lv2 := [(4, .int 0), (0, .ref b), (1, .int x1), (2, .int x2), (3, .int x3)]) dX6_sheet_88 (by decide) rfl ?_
                exact WP.pick [1, 2, 0] rfl h
            · have h := h.2 c151
              refine WP.iload_n 3 dX6_sheet_53 rfl rfl ?_
              refine WP.bipush (v := 24) dX6_sheet_54 rfl ?_
              refine WP.icmp_le (tgt := 65) dX6_sheet_56 (by decide) (fun c170 => ?_) (fun c170 => ?_)
              · have h := h.1 c170
                refine WP.aload_n 0 dX6_sheet_65 rfl rfl ?_
                obtain ⟨h171, h⟩ := h
                obtain ⟨i172, h173, h⟩ := h
                refine WP.getR 6 18 wf_X6_37 (by decide) (by decide) rfl h171 h173 dX6_sheet_66 ?_
                refine WP.iload_n 1 dX6_sheet_69 rfl rfl ?_
                refine WP.iload_n 2 dX6_sheet_70 rfl rfl ?_
                obtain ⟨n175, h174, h⟩ := h
                obtain ⟨h176, h⟩ := h
                have h := h _ rfl
                refine WP.iast h174 h176 dX6_sheet_71 ?_
                generalize upa m2 i172 x1 x2 = m177 at h ⊢
                refine WP.aload_n 0 dX6_sheet_72 rfl rfl ?_
                obtain ⟨i178, h179, h⟩ := h
                refine WP.getR 6 19 wf_X6_40 (by decide) (by decide) rfl h171 h179 dX6_sheet_73 ?_
                refine WP.iload_n 1 dX6_sheet_76 rfl rfl ?_
                refine WP.iload_n 2 dX6_sheet_77 rfl rfl ?_
                refine WP.if_ne (tgt := 85) dX6_sheet_78 (by decide) (fun c180 => ?_) (fun c180 => ?_)
                · have h := h.1 c180
                  refine WP.iload_n 3 dX6_sheet_85 rfl rfl ?_
                  obtain ⟨n182, h181, h⟩ := h
                  obtain ⟨h183, h⟩ := h
                  have h := h _ rfl
                  refine WP.iast h181 h183 dX6_sheet_86 ?_
                  generalize upa m177 i178 x1 x3 = m184 at h ⊢
                  refine WP.iconst (v := 0) dX6_sheet_87 rfl ?_
                  refine WP.istore (lv2 := [(4, .int 0), (0, .ref b), (1, .int x1), (2, .int x2), (3, .int x3)]) dX6_sheet_88 (by decide) rfl ?_
                  exact WP.pick [1, 2, 0] rfl h
                · have h := h.2 c180
                  refine WP.iconst (v := 0) dX6_sheet_81 rfl ?_
                  refine WP.goto (tgt := 86) dX6_sheet_82 (by decide) ?_
                  obtain ⟨n186, h185, h⟩ := h
                  obtain ⟨h187, h⟩ := h
                  have h := h _ rfl
                  refine WP.iast h185 h187 dX6_sheet_86 ?_
                  generalize upa m177 i178 x1 (0 : Int32) = m188 at h ⊢
                  refine WP.iconst (v := 0) dX6_sheet_87 rfl ?_
                  refine WP.istore (lv2 := [(4, .int 0), (0, .ref b), (1, .int x1), (2, .int x2), (3, .int x3)]) dX6_sheet_88 (by decide) rfl ?_
                  exact WP.pick [1, 2, 0] rfl h
              · have h := h.2 c170
                refine WP.aload_n 0 dX6_sheet_59 rfl rfl ?_
                refine WP.iconst (v := 1) dX6_sheet_60 rfl ?_
                obtain ⟨h193, h⟩ := h
                refine WP.callV (y := mX6_error) (As := [.int 1]) (st := []) dX6_sheet_61 wm_X6_68 mw_X6_error rfl (Nat.le_of_ble_eq_true rfl) (rmok d) h193 (by decide) rfl h (fun v189 Sm190 h192 => ?_)
                obtain ⟨m190, rfl, r191, rfl, h⟩ := h192
                show WP G _ _ _ 0 0 64 [(0, .ref b), (1, .int x1), (2, .int x2), (3, .int x3)] [.int r191] (sh, ta, m190)
                exact WP.iret dX6_sheet_64 rfl (Nat.le_refl _) (Nat.le_refl _) ⟨_, rfl, h⟩
          · have h := h.2 c150
            refine WP.aload_n 0 dX6_sheet_43 rfl rfl ?_
            refine WP.iconst (v := 3) dX6_sheet_44 rfl ?_
            obtain ⟨h198, h⟩ := h
            refine WP.callV (y := mX6_error) (As := [.int 3]) (st := []) dX6_sheet_45 wm_X6_68 mw_X6_error rfl (Nat.le_of_ble_eq_true rfl) (rmok d) h198 (by decide) rfl h (fun v194 Sm195 h197 => ?_)
            obtain ⟨m195, rfl, r196, rfl, h⟩ := h197
            show WP G _ _ _ 0 0 48 [(0, .ref b), (1, .int x1), (2, .int x2), (3, .int x3)] [.int r196] (sh, ta, m195)
            exact WP.iret dX6_sheet_48 rfl (Nat.le_refl _) (Nat.le_refl _) ⟨_, rfl, h⟩
      · have h := h.2 c105
        refine WP.iload_n 2 dX6_sheet_17 rfl rfl ?_
        refine WP.bipush (v := 16) dX6_sheet_18 rfl ?_
        refine WP.icmp_eq (tgt := 35) dX6_sheet_20 (by decide) (fun c199 => ?_) (fun c199 => ?_)
        · have h := h.1 c199
          refine WP.iload_n 2 dX6_sheet_35 rfl rfl ?_
          refine WP.if_eq (tgt := 49) dX6_sheet_36 (by decide) (fun c200 => ?_) (fun c200 => ?_)
          · have h := h.1 c200
            refine WP.iload_n 2 dX6_sheet_49 rfl rfl ?_
            refine WP.if_eq (tgt := 65) dX6_sheet_50 (by decide) (fun c201 => ?_) (fun c201 => ?_)
            · have h := h.1 c201
              refine WP.aload_n 0 dX6_sheet_65 rfl rfl ?_
              obtain ⟨h202, h⟩ := h
              obtain ⟨i203, h204, h⟩ := h
              refine WP.getR 6 18 wf_X6_37 (by decide) (by decide) rfl h202 h204 dX6_sheet_66 ?_
              refine WP.iload_n 1 dX6_sheet_69 rfl rfl ?_
              refine WP.iload_n 2 dX6_sheet_70 rfl rfl ?_
              obtain ⟨n206, h205, h⟩ := h
              obtain ⟨h207, h⟩ := h
              have h := h _ rfl
              refine WP.iast h205 h207 dX6_sheet_71 ?_
              generalize upa m2 i203 x1 x2 = m208 at h ⊢
              refine WP.aload_n 0 dX6_sheet_72 rfl rfl ?_
              obtain ⟨i209, h210, h⟩ := h
              refine WP.getR 6 19 wf_X6_40 (by decide) (by decide) rfl h202 h210 dX6_sheet_73 ?_
              refine WP.iload_n 1 dX6_sheet_76 rfl rfl ?_
              refine WP.iload_n 2 dX6_sheet_77 rfl rfl ?_
              refine WP.if_ne (tgt := 85) dX6_sheet_78 (by decide) (fun c211 => ?_) (fun c211 => ?_)
              · have h := h.1 c211
                refine WP.iload_n 3 dX6_sheet_85 rfl rfl ?_
                obtain ⟨n213, h212, h⟩ := h
                obtain ⟨h214, h⟩ := h
                have h := h _ rfl
                refine WP.iast h212 h214 dX6_sheet_86 ?_
                generalize upa m208 i209 x1 x3 = m215 at h ⊢
                refine WP.iconst (v := 0) dX6_sheet_87 rfl ?_
                refine WP.istore (lv2 := [(4, .int 0), (0, .ref b), (1, .int x1), (2, .int x2), (3, .int x3)]) dX6_sheet_88 (by decide) rfl ?_
                exact WP.pick [1, 2, 0] rfl h
              · have h := h.2 c211
                refine WP.iconst (v := 0) dX6_sheet_81 rfl ?_
                refine WP.goto (tgt := 86) dX6_sheet_82 (by decide) ?_
                obtain ⟨n217, h216, h⟩ := h
                obtain ⟨h218, h⟩ := h
                have h := h _ rfl
                refine WP.iast h216 h218 dX6_sheet_86 ?_
                generalize upa m208 i209 x1 (0 : Int32) = m219 at h ⊢
                refine WP.iconst (v := 0) dX6_sheet_87 rfl ?_
                refine WP.istore (lv2 := [(4, .int 0), (0, .ref b), (1, .int x1), (2, .int x2), (3, .int x3)]) dX6_sheet_88 (by decide) rfl ?_
                exact WP.pick [1, 2, 0] rfl h
            · have h := h.2 c201
              refine WP.iload_n 3 dX6_sheet_53 rfl rfl ?_
              refine WP.bipush (v := 24) dX6_sheet_54 rfl ?_
              refine WP.icmp_le (tgt := 65) dX6_sheet_56 (by decide) (fun c220 => ?_) (fun c220 => ?_)
              · have h := h.1 c220
                refine WP.aload_n 0 dX6_sheet_65 rfl rfl ?_
                obtain ⟨h221, h⟩ := h
                obtain ⟨i222, h223, h⟩ := h
                refine WP.getR 6 18 wf_X6_37 (by decide) (by decide) rfl h221 h223 dX6_sheet_66 ?_
                refine WP.iload_n 1 dX6_sheet_69 rfl rfl ?_
                refine WP.iload_n 2 dX6_sheet_70 rfl rfl ?_
                obtain ⟨n225, h224, h⟩ := h
                obtain ⟨h226, h⟩ := h
                have h := h _ rfl
                refine WP.iast h224 h226 dX6_sheet_71 ?_
                generalize upa m2 i222 x1 x2 = m227 at h ⊢
                refine WP.aload_n 0 dX6_sheet_72 rfl rfl ?_
                obtain ⟨i228, h229, h⟩ := h
                refine WP.getR 6 19 wf_X6_40 (by decide) (by decide) rfl h221 h229 dX6_sheet_73 ?_
                refine WP.iload_n 1 dX6_sheet_76 rfl rfl ?_
                refine WP.iload_n 2 dX6_sheet_77 rfl rfl ?_
                refine WP.if_ne (tgt := 85) dX6_sheet_78 (by decide) (fun c230 => ?_) (fun c230 => ?_)
                · have h := h.1 c230
                  refine WP.iload_n 3 dX6_sheet_85 rfl rfl ?_
                  obtain ⟨n232, h231, h⟩ := h
                  obtain ⟨h233, h⟩ := h
                  have h := h _ rfl
                  refine WP.iast h231 h233 dX6_sheet_86 ?_
                  generalize upa m227 i228 x1 x3 = m234 at h ⊢
                  refine WP.iconst (v := 0) dX6_sheet_87 rfl ?_
                  refine WP.istore (lv2 := [(4, .int 0), (0, .ref b), (1, .int x1), (2, .int x2), (3, .int x3)]) dX6_sheet_88 (by decide) rfl ?_
                  exact WP.pick [1, 2, 0] rfl h
                · have h := h.2 c230
                  refine WP.iconst (v := 0) dX6_sheet_81 rfl ?_
                  refine WP.goto (tgt := 86) dX6_sheet_82 (by decide) ?_
                  obtain ⟨n236, h235, h⟩ := h
                  obtain ⟨h237, h⟩ := h
                  have h := h _ rfl
                  refine WP.iast h235 h237 dX6_sheet_86 ?_
                  generalize upa m227 i228 x1 (0 : Int32) = m238 at h ⊢
                  refine WP.iconst (v := 0) dX6_sheet_87 rfl ?_
                  refine WP.istore (lv2 := [(4, .int 0), (0, .ref b), (1, .int x1), (2, .int x2), (3, .int x3)]) dX6_sheet_88 (by decide) rfl ?_
                  exact WP.pick [1, 2, 0] rfl h
              · have h := h.2 c220
                refine WP.aload_n 0 dX6_sheet_59 rfl rfl ?_
                refine WP.iconst (v := 1) dX6_sheet_60 rfl ?_
                obtain ⟨h243, h⟩ := h
                refine WP.callV (y := mX6_error) (As := [.int 1]) (st := []) dX6_sheet_61 wm_X6_68 mw_X6_error rfl (Nat.le_of_ble_eq_true rfl) (rmok d) h243 (by decide) rfl h (fun v239 Sm240 h242 => ?_)
                obtain ⟨m240, rfl, r241, rfl, h⟩ := h242
                show WP G _ _ _ 0 0 64 [(0, .ref b), (1, .int x1), (2, .int x2), (3, .int x3)] [.int r241] (sh, ta, m240)
                exact WP.iret dX6_sheet_64 rfl (Nat.le_refl _) (Nat.le_refl _) ⟨_, rfl, h⟩
          · have h := h.2 c200
            refine WP.iload_n 3 dX6_sheet_39 rfl rfl ?_
            refine WP.if_ge (tgt := 49) dX6_sheet_40 (by decide) (fun c244 => ?_) (fun c244 => ?_)
            · have h := h.1 c244
              refine WP.iload_n 2 dX6_sheet_49 rfl rfl ?_
              refine WP.if_eq (tgt := 65) dX6_sheet_50 (by decide) (fun c245 => ?_) (fun c245 => ?_)
              · have h := h.1 c245
                refine WP.aload_n 0 dX6_sheet_65 rfl rfl ?_
                obtain ⟨h246, h⟩ := h
                obtain ⟨i247, h248, h⟩ := h
                refine WP.getR 6 18 wf_X6_37 (by decide) (by decide) rfl h246 h248 dX6_sheet_66 ?_
                refine WP.iload_n 1 dX6_sheet_69 rfl rfl ?_
                refine WP.iload_n 2 dX6_sheet_70 rfl rfl ?_
                obtain ⟨n250, h249, h⟩ := h
                obtain ⟨h251, h⟩ := h
                have h := h _ rfl
                refine WP.iast h249 h251 dX6_sheet_71 ?_
                generalize upa m2 i247 x1 x2 = m252 at h ⊢
                refine WP.aload_n 0 dX6_sheet_72 rfl rfl ?_
                obtain ⟨i253, h254, h⟩ := h
                refine WP.getR 6 19 wf_X6_40 (by decide) (by decide) rfl h246 h254 dX6_sheet_73 ?_
                refine WP.iload_n 1 dX6_sheet_76 rfl rfl ?_
                refine WP.iload_n 2 dX6_sheet_77 rfl rfl ?_
                refine WP.if_ne (tgt := 85) dX6_sheet_78 (by decide) (fun c255 => ?_) (fun c255 => ?_)
                · have h := h.1 c255
                  refine WP.iload_n 3 dX6_sheet_85 rfl rfl ?_
                  obtain ⟨n257, h256, h⟩ := h
                  obtain ⟨h258, h⟩ := h
                  have h := h _ rfl
                  refine WP.iast h256 h258 dX6_sheet_86 ?_
                  generalize upa m252 i253 x1 x3 = m259 at h ⊢
                  refine WP.iconst (v := 0) dX6_sheet_87 rfl ?_
                  refine WP.istore (lv2 := [(4, .int 0), (0, .ref b), (1, .int x1), (2, .int x2), (3, .int x3)]) dX6_sheet_88 (by decide) rfl ?_
                  exact WP.pick [1, 2, 0] rfl h
                · have h := h.2 c255
                  refine WP.iconst (v := 0) dX6_sheet_81 rfl ?_
                  refine WP.goto (tgt := 86) dX6_sheet_82 (by decide) ?_
                  obtain ⟨n261, h260, h⟩ := h
                  obtain ⟨h262, h⟩ := h
                  have h := h _ rfl
                  refine WP.iast h260 h262 dX6_sheet_86 ?_
                  generalize upa m252 i253 x1 (0 : Int32) = m263 at h ⊢
                  refine WP.iconst (v := 0) dX6_sheet_87 rfl ?_
                  refine WP.istore (lv2 := [(4, .int 0), (0, .ref b), (1, .int x1), (2, .int x2), (3, .int x3)]) dX6_sheet_88 (by decide) rfl ?_
                  exact WP.pick [1, 2, 0] rfl h
              · have h := h.2 c245
                refine WP.iload_n 3 dX6_sheet_53 rfl rfl ?_
                refine WP.bipush (v := 24) dX6_sheet_54 rfl ?_
                refine WP.icmp_le (tgt := 65) dX6_sheet_56 (by decide) (fun c264 => ?_) (fun c264 => ?_)
                · have h := h.1 c264
                  refine WP.aload_n 0 dX6_sheet_65 rfl rfl ?_
                  obtain ⟨h265, h⟩ := h
                  obtain ⟨i266, h267, h⟩ := h
                  refine WP.getR 6 18 wf_X6_37 (by decide) (by decide) rfl h265 h267 dX6_sheet_66 ?_
                  refine WP.iload_n 1 dX6_sheet_69 rfl rfl ?_
                  refine WP.iload_n 2 dX6_sheet_70 rfl rfl ?_
                  obtain ⟨n269, h268, h⟩ := h
                  obtain ⟨h270, h⟩ := h
                  have h := h _ rfl
                  refine WP.iast h268 h270 dX6_sheet_71 ?_
                  generalize upa m2 i266 x1 x2 = m271 at h ⊢
                  refine WP.aload_n 0 dX6_sheet_72 rfl rfl ?_
                  obtain ⟨i272, h273, h⟩ := h
                  refine WP.getR 6 19 wf_X6_40 (by decide) (by decide) rfl h265 h273 dX6_sheet_73 ?_
                  refine WP.iload_n 1 dX6_sheet_76 rfl rfl ?_
                  refine WP.iload_n 2 dX6_sheet_77 rfl rfl ?_
                  refine WP.if_ne (tgt := 85) dX6_sheet_78 (by decide) (fun c274 => ?_) (fun c274 => ?_)
                  · have h := h.1 c274
                    refine WP.iload_n 3 dX6_sheet_85 rfl rfl ?_
                    obtain ⟨n276, h275, h⟩ := h
                    obtain ⟨h277, h⟩ := h
                    have h := h _ rfl
                    refine WP.iast h275 h277 dX6_sheet_86 ?_
                    generalize upa m271 i272 x1 x3 = m278 at h ⊢
                    refine WP.iconst (v := 0) dX6_sheet_87 rfl ?_
                    refine WP.istore (lv2 := [(4, .int 0), (0, .ref b), (1, .int x1), (2, .int x2), (3, .int x3)]) dX6_sheet_88 (by decide) rfl ?_
                    exact WP.pick [1, 2, 0] rfl h
                  · have h := h.2 c274
                    refine WP.iconst (v := 0) dX6_sheet_81 rfl ?_
                    refine WP.goto (tgt := 86) dX6_sheet_82 (by decide) ?_
                    obtain ⟨n280, h279, h⟩ := h
                    obtain ⟨h281, h⟩ := h
                    have h := h _ rfl
                    refine WP.iast h279 h281 dX6_sheet_86 ?_
                    generalize upa m271 i272 x1 (0 : Int32) = m282 at h ⊢
                    refine WP.iconst (v := 0) dX6_sheet_87 rfl ?_
                    refine WP.istore (lv2 := [(4, .int 0), (0, .ref b), (1, .int x1), (2, .int x2), (3, .int x3)]) dX6_sheet_88 (by decide) rfl ?_
                    exact WP.pick [1, 2, 0] rfl h
                · have h := h.2 c264
                  refine WP.aload_n 0 dX6_sheet_59 rfl rfl ?_
                  refine WP.iconst (v := 1) dX6_sheet_60 rfl ?_
                  obtain ⟨h287, h⟩ := h
                  refine WP.callV (y := mX6_error) (As := [.int 1]) (st := []) dX6_sheet_61 wm_X6_68 mw_X6_error rfl (Nat.le_of_ble_eq_true rfl) (rmok d) h287 (by decide) rfl h (fun v283 Sm284 h286 => ?_)
                  obtain ⟨m284, rfl, r285, rfl, h⟩ := h286
                  show WP G _ _ _ 0 0 64 [(0, .ref b), (1, .int x1), (2, .int x2), (3, .int x3)] [.int r285] (sh, ta, m284)
                  exact WP.iret dX6_sheet_64 rfl (Nat.le_refl _) (Nat.le_refl _) ⟨_, rfl, h⟩
            · have h := h.2 c244
              refine WP.aload_n 0 dX6_sheet_43 rfl rfl ?_
              refine WP.iconst (v := 3) dX6_sheet_44 rfl ?_
              obtain ⟨h292, h⟩ := h
              refine WP.callV (y := mX6_error) (As := [.int 3]) (st := []) dX6_sheet_45 wm_X6_68 mw_X6_error rfl (Nat.le_of_ble_eq_true rfl) (rmok d) h292 (by decide) rfl h (fun v288 Sm289 h291 => ?_)
              obtain ⟨m289, rfl, r290, rfl, h⟩ := h291
              show WP G _ _ _ 0 0 48 [(0, .ref b), (1, .int x1), (2, .int x2), (3, .int x3)] [.int r290] (sh, ta, m289)
              exact WP.iret dX6_sheet_48 rfl (Nat.le_refl _) (Nat.le_refl _) ⟨_, rfl, h⟩
        · have h := h.2 c199
          refine WP.iload_n 2 dX6_sheet_23 rfl rfl ?_
          refine WP.bipush (v := 32) dX6_sheet_24 rfl ?_
          refine WP.icmp_eq (tgt := 35) dX6_sheet_26 (by decide) (fun c293 => ?_) (fun c293 => ?_)
          · have h := h.1 c293
            refine WP.iload_n 2 dX6_sheet_35 rfl rfl ?_
            refine WP.if_eq (tgt := 49) dX6_sheet_36 (by decide) (fun c294 => ?_) (fun c294 => ?_)
            · have h := h.1 c294
              refine WP.iload_n 2 dX6_sheet_49 rfl rfl ?_
              refine WP.if_eq (tgt := 65) dX6_sheet_50 (by decide) (fun c295 => ?_) (fun c295 => ?_)
              · have h := h.1 c295
                refine WP.aload_n 0 dX6_sheet_65 rfl rfl ?_
                obtain ⟨h296, h⟩ := h
                obtain ⟨i297, h298, h⟩ := h
                refine WP.getR 6 18 wf_X6_37 (by decide) (by decide) rfl h296 h298 dX6_sheet_66 ?_
                refine WP.iload_n 1 dX6_sheet_69 rfl rfl ?_
                refine WP.iload_n 2 dX6_sheet_70 rfl rfl ?_
                obtain ⟨n300, h299, h⟩ := h
                obtain ⟨h301, h⟩ := h
                have h := h _ rfl
                refine WP.iast h299 h301 dX6_sheet_71 ?_
                generalize upa m2 i297 x1 x2 = m302 at h ⊢
                refine WP.aload_n 0 dX6_sheet_72 rfl rfl ?_
                obtain ⟨i303, h304, h⟩ := h
                refine WP.getR 6 19 wf_X6_40 (by decide) (by decide) rfl h296 h304 dX6_sheet_73 ?_
                refine WP.iload_n 1 dX6_sheet_76 rfl rfl ?_
                refine WP.iload_n 2 dX6_sheet_77 rfl rfl ?_
                refine WP.if_ne (tgt := 85) dX6_sheet_78 (by decide) (fun c305 => ?_) (fun c305 => ?_)
                · have h := h.1 c305
                  refine WP.iload_n 3 dX6_sheet_85 rfl rfl ?_
                  obtain ⟨n307, h306, h⟩ := h
                  obtain ⟨h308, h⟩ := h
                  have h := h _ rfl
                  refine WP.iast h306 h308 dX6_sheet_86 ?_
                  generalize upa m302 i303 x1 x3 = m309 at h ⊢
                  refine WP.iconst (v := 0) dX6_sheet_87 rfl ?_
                  refine WP.istore (lv2 := [(4, .int 0), (0, .ref b), (1, .int x1), (2, .int x2), (3, .int x3)]) dX6_sheet_88 (by decide) rfl ?_
                  exact WP.pick [1, 2, 0] rfl h
                · have h := h.2 c305
                  refine WP.iconst (v := 0) dX6_sheet_81 rfl ?_
                  refine WP.goto (tgt := 86) dX6_sheet_82 (by decide) ?_
                  obtain ⟨n311, h310, h⟩ := h
                  obtain ⟨h312, h⟩ := h
                  have h := h _ rfl
                  refine WP.iast h310 h312 dX6_sheet_86 ?_
                  generalize upa m302 i303 x1 (0 : Int32) = m313 at h ⊢
                  refine WP.iconst (v := 0) dX6_sheet_87 rfl ?_
                  refine WP.istore (lv2 := [(4, .int 0), (0, .ref b), (1, .int x1), (2, .int x2), (3, .int x3)]) dX6_sheet_88 (by decide) rfl ?_
                  exact WP.pick [1, 2, 0] rfl h
              · have h := h.2 c295
                refine WP.iload_n 3 dX6_sheet_53 rfl rfl ?_
                refine WP.bipush (v := 24) dX6_sheet_54 rfl ?_
                refine WP.icmp_le (tgt := 65) dX6_sheet_56 (by decide) (fun c314 => ?_) (fun c314 => ?_)
                · have h := h.1 c314
                  refine WP.aload_n 0 dX6_sheet_65 rfl rfl ?_
                  obtain ⟨h315, h⟩ := h
                  obtain ⟨i316, h317, h⟩ := h
                  refine WP.getR 6 18 wf_X6_37 (by decide) (by decide) rfl h315 h317 dX6_sheet_66 ?_
                  refine WP.iload_n 1 dX6_sheet_69 rfl rfl ?_
                  refine WP.iload_n 2 dX6_sheet_70 rfl rfl ?_
                  obtain ⟨n319, h318, h⟩ := h
                  obtain ⟨h320, h⟩ := h
                  have h := h _ rfl
                  refine WP.iast h318 h320 dX6_sheet_71 ?_
                  generalize upa m2 i316 x1 x2 = m321 at h ⊢
                  refine WP.aload_n 0 dX6_sheet_72 rfl rfl ?_
                  obtain ⟨i322, h323, h⟩ := h
                  refine WP.getR 6 19 wf_X6_40 (by decide) (by decide) rfl h315 h323 dX6_sheet_73 ?_
                  refine WP.iload_n 1 dX6_sheet_76 rfl rfl ?_
                  refine WP.iload_n 2 dX6_sheet_77 rfl rfl ?_
                  refine WP.if_ne (tgt := 85) dX6_sheet_78 (by decide) (fun c324 => ?_) (fun c324 => ?_)
                  · have h := h.1 c324
                    refine WP.iload_n 3 dX6_sheet_85 rfl rfl ?_
                    obtain ⟨n326, h325, h⟩ := h
                    obtain ⟨h327, h⟩ := h
                    have h := h _ rfl
                    refine WP.iast h325 h327 dX6_sheet_86 ?_
                    generalize upa m321 i322 x1 x3 = m328 at h ⊢
                    refine WP.iconst (v := 0) dX6_sheet_87 rfl ?_
                    refine WP.istore (lv2 := [(4, .int 0), (0, .ref b), (1, .int x1), (2, .int x2), (3, .int x3)]) dX6_sheet_88 (by decide) rfl ?_
                    exact WP.pick [1, 2, 0] rfl h
                  · have h := h.2 c324
                    refine WP.iconst (v := 0) dX6_sheet_81 rfl ?_
                    refine WP.goto (tgt := 86) dX6_sheet_82 (by decide) ?_
                    obtain ⟨n330, h329, h⟩ := h
                    obtain ⟨h331, h⟩ := h
                    have h := h _ rfl
                    refine WP.iast h329 h331 dX6_sheet_86 ?_
                    generalize upa m321 i322 x1 (0 : Int32) = m332 at h ⊢
                    refine WP.iconst (v := 0) dX6_sheet_87 rfl ?_
                    refine WP.istore (lv2 := [(4, .int 0), (0, .ref b), (1, .int x1), (2, .int x2), (3, .int x3)]) dX6_sheet_88 (by decide) rfl ?_
                    exact WP.pick [1, 2, 0] rfl h
                · have h := h.2 c314
                  refine WP.aload_n 0 dX6_sheet_59 rfl rfl ?_
                  refine WP.iconst (v := 1) dX6_sheet_60 rfl ?_
                  obtain ⟨h337, h⟩ := h
                  refine WP.callV (y := mX6_error) (As := [.int 1]) (st := []) dX6_sheet_61 wm_X6_68 mw_X6_error rfl (Nat.le_of_ble_eq_true rfl) (rmok d) h337 (by decide) rfl h (fun v333 Sm334 h336 => ?_)
                  obtain ⟨m334, rfl, r335, rfl, h⟩ := h336
                  show WP G _ _ _ 0 0 64 [(0, .ref b), (1, .int x1), (2, .int x2), (3, .int x3)] [.int r335] (sh, ta, m334)
                  exact WP.iret dX6_sheet_64 rfl (Nat.le_refl _) (Nat.le_refl _) ⟨_, rfl, h⟩
            · have h := h.2 c294
              refine WP.iload_n 3 dX6_sheet_39 rfl rfl ?_
              refine WP.if_ge (tgt := 49) dX6_sheet_40 (by decide) (fun c338 => ?_) (fun c338 => ?_)
              · have h := h.1 c338
                refine WP.iload_n 2 dX6_sheet_49 rfl rfl ?_
                refine WP.if_eq (tgt := 65) dX6_sheet_50 (by decide) (fun c339 => ?_) (fun c339 => ?_)
                · have h := h.1 c339
                  refine WP.aload_n 0 dX6_sheet_65 rfl rfl ?_
                  obtain ⟨h340, h⟩ := h
                  obtain ⟨i341, h342, h⟩ := h
                  refine WP.getR 6 18 wf_X6_37 (by decide) (by decide) rfl h340 h342 dX6_sheet_66 ?_
                  refine WP.iload_n 1 dX6_sheet_69 rfl rfl ?_
                  refine WP.iload_n 2 dX6_sheet_70 rfl rfl ?_
                  obtain ⟨n344, h343, h⟩ := h
                  obtain ⟨h345, h⟩ := h
                  have h := h _ rfl
                  refine WP.iast h343 h345 dX6_sheet_71 ?_
                  generalize upa m2 i341 x1 x2 = m346 at h ⊢
                  refine WP.aload_n 0 dX6_sheet_72 rfl rfl ?_
                  obtain ⟨i347, h348, h⟩ := h
                  refine WP.getR 6 19 wf_X6_40 (by decide) (by decide) rfl h340 h348 dX6_sheet_73 ?_
                  refine WP.iload_n 1 dX6_sheet_76 rfl rfl ?_
                  refine WP.iload_n 2 dX6_sheet_77 rfl rfl ?_
                  refine WP.if_ne (tgt := 85) dX6_sheet_78 (by decide) (fun c349 => ?_) (fun c349 => ?_)
                  · have h := h.1 c349
                    refine WP.iload_n 3 dX6_sheet_85 rfl rfl ?_
                    obtain ⟨n351, h350, h⟩ := h
                    obtain ⟨h352, h⟩ := h
                    have h := h _ rfl
                    refine WP.iast h350 h352 dX6_sheet_86 ?_
                    generalize upa m346 i347 x1 x3 = m353 at h ⊢
                    refine WP.iconst (v := 0) dX6_sheet_87 rfl ?_
                    refine WP.istore (lv2 := [(4, .int 0), (0, .ref b), (1, .int x1), (2, .int x2), (3, .int x3)]) dX6_sheet_88 (by decide) rfl ?_
                    exact WP.pick [1, 2, 0] rfl h
                  · have h := h.2 c349
                    refine WP.iconst (v := 0) dX6_sheet_81 rfl ?_
                    refine WP.goto (tgt := 86) dX6_sheet_82 (by decide) ?_
                    obtain ⟨n355, h354, h⟩ := h
                    obtain ⟨h356, h⟩ := h
                    have h := h _ rfl
                    refine WP.iast h354 h356 dX6_sheet_86 ?_
                    generalize upa m346 i347 x1 (0 : Int32) = m357 at h ⊢
                    refine WP.iconst (v := 0) dX6_sheet_87 rfl ?_
                    refine WP.istore (lv2 := [(4, .int 0), (0, .ref b), (1, .int x1), (2, .int x2), (3, .int x3)]) dX6_sheet_88 (by decide) rfl ?_
                    exact WP.pick [1, 2, 0] rfl h
                · have h := h.2 c339
                  refine WP.iload_n 3 dX6_sheet_53 rfl rfl ?_
                  refine WP.bipush (v := 24) dX6_sheet_54 rfl ?_
                  refine WP.icmp_le (tgt := 65) dX6_sheet_56 (by decide) (fun c358 => ?_) (fun c358 => ?_)
                  · have h := h.1 c358
                    refine WP.aload_n 0 dX6_sheet_65 rfl rfl ?_
                    obtain ⟨h359, h⟩ := h
                    obtain ⟨i360, h361, h⟩ := h
                    refine WP.getR 6 18 wf_X6_37 (by decide) (by decide) rfl h359 h361 dX6_sheet_66 ?_
                    refine WP.iload_n 1 dX6_sheet_69 rfl rfl ?_
                    refine WP.iload_n 2 dX6_sheet_70 rfl rfl ?_
                    obtain ⟨n363, h362, h⟩ := h
                    obtain ⟨h364, h⟩ := h
                    have h := h _ rfl
                    refine WP.iast h362 h364 dX6_sheet_71 ?_
                    generalize upa m2 i360 x1 x2 = m365 at h ⊢
                    refine WP.aload_n 0 dX6_sheet_72 rfl rfl ?_
                    obtain ⟨i366, h367, h⟩ := h
                    refine WP.getR 6 19 wf_X6_40 (by decide) (by decide) rfl h359 h367 dX6_sheet_73 ?_
                    refine WP.iload_n 1 dX6_sheet_76 rfl rfl ?_
                    refine WP.iload_n 2 dX6_sheet_77 rfl rfl ?_
                    refine WP.if_ne (tgt := 85) dX6_sheet_78 (by decide) (fun c368 => ?_) (fun c368 => ?_)
                    · have h := h.1 c368
                      refine WP.iload_n 3 dX6_sheet_85 rfl rfl ?_
                      obtain ⟨n370, h369, h⟩ := h
                      obtain ⟨h371, h⟩ := h
                      have h := h _ rfl
                      refine WP.iast h369 h371 dX6_sheet_86 ?_
                      generalize upa m365 i366 x1 x3 = m372 at h ⊢
                      refine WP.iconst (v := 0) dX6_sheet_87 rfl ?_
                      refine WP.istore (lv2 := [(4, .int 0), (0, .ref b), (1, .int x1), (2, .int x2), (3, .int x3)]) dX6_sheet_88 (by decide) rfl ?_
                      exact WP.pick [1, 2, 0] rfl h
                    · have h := h.2 c368
                      refine WP.iconst (v := 0) dX6_sheet_81 rfl ?_
                      refine WP.goto (tgt := 86) dX6_sheet_82 (by decide) ?_
                      obtain ⟨n374, h373, h⟩ := h
                      obtain ⟨h375, h⟩ := h
                      have h := h _ rfl
                      refine WP.iast h373 h375 dX6_sheet_86 ?_
                      generalize upa m365 i366 x1 (0 : Int32) = m376 at h ⊢
                      refine WP.iconst (v := 0) dX6_sheet_87 rfl ?_
                      refine WP.istore (lv2 := [(4, .int 0), (0, .ref b), (1, .int x1), (2, .int x2), (3, .int x3)]) dX6_sheet_88 (by decide) rfl ?_
                      exact WP.pick [1, 2, 0] rfl h
                  · have h := h.2 c358
                    refine WP.aload_n 0 dX6_sheet_59 rfl rfl ?_
                    refine WP.iconst (v := 1) dX6_sheet_60 rfl ?_
                    obtain ⟨h381, h⟩ := h
                    refine WP.callV (y := mX6_error) (As := [.int 1]) (st := []) dX6_sheet_61 wm_X6_68 mw_X6_error rfl (Nat.le_of_ble_eq_true rfl) (rmok d) h381 (by decide) rfl h (fun v377 Sm378 h380 => ?_)
                    obtain ⟨m378, rfl, r379, rfl, h⟩ := h380
                    show WP G _ _ _ 0 0 64 [(0, .ref b), (1, .int x1), (2, .int x2), (3, .int x3)] [.int r379] (sh, ta, m378)
                    exact WP.iret dX6_sheet_64 rfl (Nat.le_refl _) (Nat.le_refl _) ⟨_, rfl, h⟩
              · have h := h.2 c338
                refine WP.aload_n 0 dX6_sheet_43 rfl rfl ?_
                refine WP.iconst (v := 3) dX6_sheet_44 rfl ?_
                obtain ⟨h386, h⟩ := h
                refine WP.callV (y := mX6_error) (As := [.int 3]) (st := []) dX6_sheet_45 wm_X6_68 mw_X6_error rfl (Nat.le_of_ble_eq_true rfl) (rmok d) h386 (by decide) rfl h (fun v382 Sm383 h385 => ?_)
                obtain ⟨m383, rfl, r384, rfl, h⟩ := h385
                show WP G _ _ _ 0 0 48 [(0, .ref b), (1, .int x1), (2, .int x2), (3, .int x3)] [.int r384] (sh, ta, m383)
                exact WP.iret dX6_sheet_48 rfl (Nat.le_refl _) (Nat.le_refl _) ⟨_, rfl, h⟩
          · have h := h.2 c293
            refine WP.aload_n 0 dX6_sheet_29 rfl rfl ?_
            refine WP.iconst (v := 1) dX6_sheet_30 rfl ?_
            obtain ⟨h391, h⟩ := h
            refine WP.callV (y := mX6_error) (As := [.int 1]) (st := []) dX6_sheet_31 wm_X6_68 mw_X6_error rfl (Nat.le_of_ble_eq_true rfl) (rmok d) h391 (by decide) rfl h (fun v387 Sm388 h390 => ?_)
            obtain ⟨m388, rfl, r389, rfl, h⟩ := h390
            show WP G _ _ _ 0 0 34 [(0, .ref b), (1, .int x1), (2, .int x2), (3, .int x3)] [.int r389] (sh, ta, m388)
            exact WP.iret dX6_sheet_34 rfl (Nat.le_refl _) (Nat.le_refl _) ⟨_, rfl, h⟩
set_option maxHeartbeats 4000000 in
set_option maxRecDepth 20000 in
theorem rg_X6_sheet_90 (hG : fl G = false) (b : Nat) (x1 : Int32) (x4 : Int32) (h : (((24 : Int32) ≤ x4 → K (some (.int 1)) m) ∧ (¬ (24 : Int32) ≤ x4 → sh[b]? = some (.inl 6) ∧ ∃ i3, ta b 20 = some i3 ∧ ∃ n6, sh[i3]? = some (.inr (0, n6)) ∧ InB ((24 * x1) + x4) n6 ∧ ∀ m8, m8 = upa m i3 ((24 * x1) + x4) (0 : Int32) → WP G (rmD (d + 1) 0 0) mX6_sheet (QC G sh ta K) 0 0 90 [(0, .ref b), (1, .int x1), (4, .int (x4 + 1))] [] (sh, ta, m8)))) : WP G (rmD (d + 1) 0 0) mX6_sheet (QC G sh ta K) 0 0 90 [(0, .ref b), (1, .int x1), (4, .int x4)] [] (sh, ta, m) := by
  refine WP.iload 2 dX6_sheet_90 rfl ?_
  refine WP.bipush (v := 24) dX6_sheet_92 rfl ?_
  refine WP.icmp_ge (tgt := 116) dX6_sheet_94 (by decide) (fun c1 => ?_) (fun c1 => ?_)
  · have h := h.1 c1
    refine WP.iconst (v := 1) dX6_sheet_116 rfl ?_
    exact WP.iret dX6_sheet_117 rfl (Nat.le_refl _) (Nat.le_refl _) ⟨_, rfl, h⟩
  · have h := h.2 c1
    refine WP.aload_n 0 dX6_sheet_97 rfl rfl ?_
    obtain ⟨h2, h⟩ := h
    obtain ⟨i3, h4, h⟩ := h
    refine WP.getR 6 20 wf_X6_43 (by decide) (by decide) rfl h2 h4 dX6_sheet_98 ?_
    refine WP.bipush (v := 24) dX6_sheet_101 rfl ?_
    refine WP.iload_n 1 dX6_sheet_103 rfl rfl ?_
    refine WP.imul dX6_sheet_104 ?_
    refine WP.iload 2 dX6_sheet_105 rfl ?_
    refine WP.iadd dX6_sheet_107 ?_
    refine WP.iconst (v := 0) dX6_sheet_108 rfl ?_
    obtain ⟨n6, h5, h⟩ := h
    obtain ⟨h7, h⟩ := h
    have h := h _ rfl
    refine WP.iast h5 h7 dX6_sheet_109 ?_
    generalize upa m i3 ((24 * x1) + x4) (0 : Int32) = m8 at h ⊢
    refine WP.iinc (lv2 := [(4, .int (x4 + 1)), (0, .ref b), (1, .int x1)]) 2 1 dX6_sheet_110 rfl rfl (by decide) rfl ?_
    refine WP.goto (tgt := 90) dX6_sheet_113 (by decide) ?_
    exact WP.pick [1, 2, 0] rfl h
set_option maxHeartbeats 4000000 in
set_option maxRecDepth 20000 in
theorem rg_X6_put_0 (hG : fl G = false) (b : Nat) (x1 : Int32) (x2 : Int32) (x3 : Int32) (h : Cal G mX6_isSheet d [.int x1] sh ta m (fun v1 m2 => ∃ r3, v1 = some (.int r3) ∧ ((¬ r3 = 0 → sh[b]? = some (.inl 6) ∧ ∃ i7, ta b 18 = some i7 ∧ ∃ n10, sh[i7]? = some (.inr (0, n10)) ∧ InB x1 n10 ∧ ((¬ (rd (m2 i7) x1) = 0 → ∃ i13, ta b 19 = some i13 ∧ ∃ n16, sh[i13]? = some (.inr (0, n16)) ∧ InB x1 n16 ∧ Cal G mX6_in d [.int x2, .int 0, .int ((rd (m2 i13) x1) - 1)] sh ta m2 (fun v18 m19 => ∃ r20, v18 = some (.int r20) ∧ ((¬ r20 = 0 → InB x1 n10 ∧ ∃ i24, ta b 20 = some i24 ∧ ∃ n27, sh[i24]? = some (.inr (0, n27)) ∧ InB ((24 * x1) + x2) n27 ∧ ∀ m29, m29 = upa m19 i24 ((24 * x1) + x2) ((x3 <<< ((32 - (rd (m19 i7) x1)) &&& 31)) >>> ((32 - (rd (m19 i7) x1)) &&& 31)) → K (some (.int 1)) m29) ∧ (r20 = 0 → Cal G mX6_error d [.ref b, .int 1] sh ta m19 (fun v30 m31 => ∃ r32, v30 = some (.int r32) ∧ K (some (.int r32)) m31))))) ∧ ((rd (m2 i7) x1) = 0 → Cal G mX6_error d [.ref b, .int 2] sh ta m2 (fun v34 m35 => ∃ r36, v34 = some (.int r36) ∧ K (some (.int r36)) m35)))) ∧ (r3 = 0 → sh[b]? = some (.inl 6) ∧ Cal G mX6_error d [.ref b, .int 1] sh ta m2 (fun v38 m39 => ∃ r40, v38 = some (.int r40) ∧ K (some (.int r40)) m39))))) : WP G (rmD (d + 1) 0 0) mX6_put (QC G sh ta K) 0 0 0 [(0, .ref b), (1, .int x1), (2, .int x2), (3, .int x3)] [] (sh, ta, m) := by
  refine WP.iload_n 1 dX6_put_0 rfl rfl ?_
  refine WP.callS (y := mX6_isSheet) (As := [.int x1]) (st := []) dX6_put_1 wm_X6_261 mw_X6_isSheet rfl (Nat.le_of_ble_eq_true rfl) (rmok d) rfl h (fun v1 Sm2 h4 => ?_)
  obtain ⟨m2, rfl, r3, rfl, h⟩ := h4
  show WP G _ _ _ 0 0 4 [(0, .ref b), (1, .int x1), (2, .int x2), (3, .int x3)] [.int r3] (sh, ta, m2)
  refine WP.if_ne (tgt := 13) dX6_put_4 (by decide) (fun c5 => ?_) (fun c5 => ?_)
  · have h := h.1 c5
    refine WP.aload_n 0 dX6_put_13 rfl rfl ?_
    obtain ⟨h6, h⟩ := h
    obtain ⟨i7, h8, h⟩ := h
    refine WP.getR 6 18 wf_X6_37 (by decide) (by decide) rfl h6 h8 dX6_put_14 ?_
    refine WP.iload_n 1 dX6_put_17 rfl rfl ?_
    obtain ⟨n10, h9, h⟩ := h
    obtain ⟨h11, h⟩ := h
    refine WP.iald h9 h11 dX6_put_18 ?_
    refine WP.if_ne (tgt := 28) dX6_put_19 (by decide) (fun c12 => ?_) (fun c12 => ?_)
    · have h := h.1 c12
      refine WP.iload_n 2 dX6_put_28 rfl rfl ?_
      refine WP.iconst (v := 0) dX6_put_29 rfl ?_
      refine WP.aload_n 0 dX6_put_30 rfl rfl ?_
      obtain ⟨i13, h14, h⟩ := h
      refine WP.getR 6 19 wf_X6_40 (by decide) (by decide) rfl h6 h14 dX6_put_31 ?_
      refine WP.iload_n 1 dX6_put_34 rfl rfl ?_
      obtain ⟨n16, h15, h⟩ := h
      obtain ⟨h17, h⟩ := h
      refine WP.iald h15 h17 dX6_put_35 ?_
      refine WP.iconst (v := 1) dX6_put_36 rfl ?_
      refine WP.isub dX6_put_37 ?_
      refine WP.callS (y := mX6_in) (As := [.int x2, .int 0, .int ((rd (m2 i13) x1) - 1)]) (st := []) dX6_put_38 wm_X6_50 mw_X6_in rfl (Nat.le_of_ble_eq_true rfl) (rmok d) rfl h (fun v18 Sm19 h21 => ?_)
      obtain ⟨m19, rfl, r20, rfl, h⟩ := h21
      show WP G _ _ _ 0 0 41 [(0, .ref b), (1, .int x1), (2, .int x2), (3, .int x3)] [.int r20] (sh, ta, m19)
      refine WP.if_ne (tgt := 50) dX6_put_41 (by decide) (fun c22 => ?_) (fun c22 => ?_)
      · have h := h.1 c22
        refine WP.bipush (v := 32) dX6_put_50 rfl ?_
        refine WP.aload_n 0 dX6_put_52 rfl rfl ?_
        refine WP.getR 6 18 wf_X6_37 (by decide) (by decide) rfl h6 h8 dX6_put_53 ?_
        refine WP.iload_n 1 dX6_put_56 rfl rfl ?_
        obtain ⟨h23, h⟩ := h
        refine WP.iald h9 h23 dX6_put_57 ?_
        refine WP.isub dX6_put_58 ?_
        refine WP.istore (lv2 := [(4, .int (32 - (rd (m19 i7) x1))), (0, .ref b), (1, .int x1), (2, .int x2), (3, .int x3)]) dX6_put_59 (by decide) rfl ?_
        refine WP.aload_n 1 dX6_put_61 rfl rfl ?_
        obtain ⟨i24, h25, h⟩ := h
        refine WP.getR 6 20 wf_X6_43 (by decide) (by decide) rfl h6 h25 dX6_put_62 ?_
        refine WP.bipush (v := 24) dX6_put_65 rfl ?_
        refine WP.iload_n 2 dX6_put_67 rfl rfl ?_
        refine WP.imul dX6_put_68 ?_
        refine WP.iload_n 3 dX6_put_69 rfl rfl ?_
        refine WP.iadd dX6_put_70 ?_
        refine WP.iload_n 4 dX6_put_71 rfl rfl ?_
        refine WP.iload 0 dX6_put_72 rfl ?_
        refine WP.ishl dX6_put_74 ?_
        refine WP.iload 0 dX6_put_75 rfl ?_
        refine WP.ishr dX6_put_77 ?_
        obtain ⟨n27, h26, h⟩ := h
        obtain ⟨h28, h⟩ := h
        have h := h _ rfl
        refine WP.iast h26 h28 dX6_put_78 ?_
        generalize upa m19 i24 ((24 * x1) + x2) ((x3 <<< ((32 - (rd (m19 i7) x1)) &&& 31)) >>> ((32 - (rd (m19 i7) x1)) &&& 31)) = m29 at h ⊢
        refine WP.iconst (v := 1) dX6_put_79 rfl ?_
        exact WP.iret dX6_put_80 rfl (Nat.le_refl _) (Nat.le_refl _) ⟨_, rfl, h⟩
      · have h := h.2 c22
        refine WP.aload_n 0 dX6_put_44 rfl rfl ?_
        refine WP.iconst (v := 1) dX6_put_45 rfl ?_
        refine WP.callV (y := mX6_error) (As := [.int 1]) (st := []) dX6_put_46 wm_X6_68 mw_X6_error rfl (Nat.le_of_ble_eq_true rfl) (rmok d) h6 (by decide) rfl h (fun v30 Sm31 h33 => ?_)
        obtain ⟨m31, rfl, r32, rfl, h⟩ := h33
        show WP G _ _ _ 0 0 49 [(0, .ref b), (1, .int x1), (2, .int x2), (3, .int x3)] [.int r32] (sh, ta, m31)
        exact WP.iret dX6_put_49 rfl (Nat.le_refl _) (Nat.le_refl _) ⟨_, rfl, h⟩
    · have h := h.2 c12
      refine WP.aload_n 0 dX6_put_22 rfl rfl ?_
      refine WP.iconst (v := 2) dX6_put_23 rfl ?_
      refine WP.callV (y := mX6_error) (As := [.int 2]) (st := []) dX6_put_24 wm_X6_68 mw_X6_error rfl (Nat.le_of_ble_eq_true rfl) (rmok d) h6 (by decide) rfl h (fun v34 Sm35 h37 => ?_)
      obtain ⟨m35, rfl, r36, rfl, h⟩ := h37
      show WP G _ _ _ 0 0 27 [(0, .ref b), (1, .int x1), (2, .int x2), (3, .int x3)] [.int r36] (sh, ta, m35)
      exact WP.iret dX6_put_27 rfl (Nat.le_refl _) (Nat.le_refl _) ⟨_, rfl, h⟩
  · have h := h.2 c5
    refine WP.aload_n 0 dX6_put_7 rfl rfl ?_
    refine WP.iconst (v := 1) dX6_put_8 rfl ?_
    obtain ⟨h42, h⟩ := h
    refine WP.callV (y := mX6_error) (As := [.int 1]) (st := []) dX6_put_9 wm_X6_68 mw_X6_error rfl (Nat.le_of_ble_eq_true rfl) (rmok d) h42 (by decide) rfl h (fun v38 Sm39 h41 => ?_)
    obtain ⟨m39, rfl, r40, rfl, h⟩ := h41
    show WP G _ _ _ 0 0 12 [(0, .ref b), (1, .int x1), (2, .int x2), (3, .int x3)] [.int r40] (sh, ta, m39)
    exact WP.iret dX6_put_12 rfl (Nat.le_refl _) (Nat.le_refl _) ⟨_, rfl, h⟩
set_option maxHeartbeats 4000000 in
set_option maxRecDepth 20000 in
theorem rg_X6_move_0 (hG : fl G = false) (b : Nat) (x1 : Int32) (x2 : Int32) (x3 : Int32) (x4 : Int32) (x5 : Int32) (h : Cal G mX6_isSheet d [.int x1] sh ta m (fun v1 m2 => ∃ r3, v1 = some (.int r3) ∧ ((r3 = 0 → sh[b]? = some (.inl 6) ∧ Cal G mX6_error d [.ref b, .int 1] sh ta m2 (fun v6 m7 => ∃ r8, v6 = some (.int r8) ∧ K (some (.int r8)) m7)) ∧ (¬ r3 = 0 → Cal G mX6_isSheet d [.int x3] sh ta m2 (fun v11 m12 => ∃ r13, v11 = some (.int r13) ∧ ((¬ r13 = 0 → sh[b]? = some (.inl 6) ∧ ∃ i17, ta b 18 = some i17 ∧ ∃ n20, sh[i17]? = some (.inr (0, n20)) ∧ InB x1 n20 ∧ (((rd (m12 i17) x1) = 0 → Cal G mX6_error d [.ref b, .int 2] sh ta m12 (fun v23 m24 => ∃ r25, v23 = some (.int r25) ∧ K (some (.int r25)) m24)) ∧ (¬ (rd (m12 i17) x1) = 0 → InB x3 n20 ∧ ((¬ (rd (m12 i17) x3) = 0 → InB x1 n20 ∧ InB x3 n20 ∧ (((rd (m12 i17) x1) = (rd (m12 i17) x3) → ((x5 < 0 → Cal G mX6_error d [.ref b, .int 1] sh ta m12 (fun v33 m34 => ∃ r35, v33 = some (.int r35) ∧ K (some (.int r35)) m34)) ∧ (¬ x5 < 0 → ((x2 < 0 → Cal G mX6_error d [.ref b, .int 1] sh ta m12 (fun v38 m39 => ∃ r40, v38 = some (.int r40) ∧ K (some (.int r40)) m39)) ∧ (¬ x2 < 0 → ((x4 < 0 → Cal G mX6_error d [.ref b, .int 1] sh ta m12 (fun v43 m44 => ∃ r45, v43 = some (.int r45) ∧ K (some (.int r45)) m44)) ∧ (¬ x4 < 0 → ∃ i47, ta b 19 = some i47 ∧ ∃ n50, sh[i47]? = some (.inr (0, n50)) ∧ InB x1 n50 ∧ ((((rd (m12 i47) x1) - x5) < x2 → Cal G mX6_error d [.ref b, .int 1] sh ta m12 (fun v53 m54 => ∃ r55, v53 = some (.int r55) ∧ K (some (.int r55)) m54)) ∧ (¬ ((rd (m12 i47) x1) - x5) < x2 → InB x3 n50 ∧ ((x4 ≤ ((rd (m12 i47) x3) - x5) → WP G (rmD (d + 1) 0 0) mX6_move (QC G sh ta K) 0 0 115 [(0, .ref b), (1, .int x1), (2, .int x2), (3, .int x3), (4, .int x4), (5, .int x5), (6, .int 0)] [] (sh, ta, m12)) ∧ (¬ x4 ≤ ((rd (m12 i47) x3) - x5) → Cal G mX6_error d [.ref b, .int 1] sh ta m12 (fun v59 m60 => ∃ r61, v59 = some (.int r61) ∧ K (some (.int r61)) m60)))))))))))) ∧ (¬ (rd (m12 i17) x1) = (rd (m12 i17) x3) → Cal G mX6_error d [.ref b, .int 5] sh ta m12 (fun v63 m64 => ∃ r65, v63 = some (.int r65) ∧ K (some (.int r65)) m64)))) ∧ ((rd (m12 i17) x3) = 0 → Cal G mX6_error d [.ref b, .int 2] sh ta m12 (fun v67 m68 => ∃ r69, v67 = some (.int r69) ∧ K (some (.int r69)) m68)))))) ∧ (r13 = 0 → sh[b]? = some (.inl 6) ∧ Cal G mX6_error d [.ref b, .int 1] sh ta m12 (fun v71 m72 => ∃ r73, v71 = some (.int r73) ∧ K (some (.int r73)) m72)))))))) : WP G (rmD (d + 1) 0 0) mX6_move (QC G sh ta K) 0 0 0 [(0, .ref b), (1, .int x1), (2, .int x2), (3, .int x3), (4, .int x4), (5, .int x5)] [] (sh, ta, m) := by
  refine WP.iload_n 1 dX6_move_0 rfl rfl ?_
  refine WP.callS (y := mX6_isSheet) (As := [.int x1]) (st := []) dX6_move_1 wm_X6_261 mw_X6_isSheet rfl (Nat.le_of_ble_eq_true rfl) (rmok d) rfl h (fun v1 Sm2 h4 => ?_)
  obtain ⟨m2, rfl, r3, rfl, h⟩ := h4
  show WP G _ _ _ 0 0 4 [(0, .ref b), (1, .int x1), (2, .int x2), (3, .int x3), (4, .int x4), (5, .int x5)] [.int r3] (sh, ta, m2)
  refine WP.if_eq (tgt := 14) dX6_move_4 (by decide) (fun c5 => ?_) (fun c5 => ?_)
  · have h := h.1 c5
    refine WP.aload_n 0 dX6_move_14 rfl rfl ?_
    refine WP.iconst (v := 1) dX6_move_15 rfl ?_
    obtain ⟨h10, h⟩ := h
    refine WP.callV (y := mX6_error) (As := [.int 1]) (st := []) dX6_move_16 wm_X6_68 mw_X6_error rfl (Nat.le_of_ble_eq_true rfl) (rmok d) h10 (by decide) rfl h (fun v6 Sm7 h9 => ?_)
    obtain ⟨m7, rfl, r8, rfl, h⟩ := h9
    show WP G _ _ _ 0 0 19 [(0, .ref b), (1, .int x1), (2, .int x2), (3, .int x3), (4, .int x4), (5, .int x5)] [.int r8] (sh, ta, m7)
    exact WP.iret dX6_move_19 rfl (Nat.le_refl _) (Nat.le_refl _) ⟨_, rfl, h⟩
  · have h := h.2 c5
    refine WP.iload_n 3 dX6_move_7 rfl rfl ?_
    refine WP.callS (y := mX6_isSheet) (As := [.int x3]) (st := []) dX6_move_8 wm_X6_261 mw_X6_isSheet rfl (Nat.le_of_ble_eq_true rfl) (rmok d) rfl h (fun v11 Sm12 h14 => ?_)
    obtain ⟨m12, rfl, r13, rfl, h⟩ := h14
    show WP G _ _ _ 0 0 11 [(0, .ref b), (1, .int x1), (2, .int x2), (3, .int x3), (4, .int x4), (5, .int x5)] [.int r13] (sh, ta, m12)
    refine WP.if_ne (tgt := 20) dX6_move_11 (by decide) (fun c15 => ?_) (fun c15 => ?_)
    · have h := h.1 c15
      refine WP.aload_n 0 dX6_move_20 rfl rfl ?_
      obtain ⟨h16, h⟩ := h
      obtain ⟨i17, h18, h⟩ := h
      refine WP.getR 6 18 wf_X6_37 (by decide) (by decide) rfl h16 h18 dX6_move_21 ?_
      refine WP.iload_n 1 dX6_move_24 rfl rfl ?_
      obtain ⟨n20, h19, h⟩ := h
      obtain ⟨h21, h⟩ := h
      refine WP.iald h19 h21 dX6_move_25 ?_
      refine WP.if_eq (tgt := 38) dX6_move_26 (by decide) (fun c22 => ?_) (fun c22 => ?_)
      · have h := h.1 c22
        refine WP.aload_n 0 dX6_move_38 rfl rfl ?_
        refine WP.iconst (v := 2) dX6_move_39 rfl ?_
        refine WP.callV (y := mX6_error) (As := [.int 2]) (st := []) dX6_move_40 wm_X6_68 mw_X6_error rfl (Nat.le_of_ble_eq_true rfl) (rmok d) h16 (by decide) rfl h (fun v23 Sm24 h26 => ?_)
        obtain ⟨m24, rfl, r25, rfl, h⟩ := h26
        show WP G _ _ _ 0 0 43 [(0, .ref b), (1, .int x1), (2, .int x2), (3, .int x3), (4, .int x4), (5, .int x5)] [.int r25] (sh, ta, m24)
        exact WP.iret dX6_move_43 rfl (Nat.le_refl _) (Nat.le_refl _) ⟨_, rfl, h⟩
      · have h := h.2 c22
        refine WP.aload_n 0 dX6_move_29 rfl rfl ?_
        refine WP.getR 6 18 wf_X6_37 (by decide) (by decide) rfl h16 h18 dX6_move_30 ?_
        refine WP.iload_n 3 dX6_move_33 rfl rfl ?_
        obtain ⟨h27, h⟩ := h
        refine WP.iald h19 h27 dX6_move_34 ?_
        refine WP.if_ne (tgt := 44) dX6_move_35 (by decide) (fun c28 => ?_) (fun c28 => ?_)
        · have h := h.1 c28
          refine WP.aload_n 0 dX6_move_44 rfl rfl ?_
          refine WP.getR 6 18 wf_X6_37 (by decide) (by decide) rfl h16 h18 dX6_move_45 ?_
          refine WP.iload_n 1 dX6_move_48 rfl rfl ?_
          obtain ⟨h29, h⟩ := h
          refine WP.iald h19 h29 dX6_move_49 ?_
          refine WP.aload_n 0 dX6_move_50 rfl rfl ?_
          refine WP.getR 6 18 wf_X6_37 (by decide) (by decide) rfl h16 h18 dX6_move_51 ?_
          refine WP.iload_n 3 dX6_move_54 rfl rfl ?_
          obtain ⟨h30, h⟩ := h
          refine WP.iald h19 h30 dX6_move_55 ?_
          refine WP.icmp_eq (tgt := 65) dX6_move_56 (by decide) (fun c31 => ?_) (fun c31 => ?_)
          · have h := h.1 c31
            refine WP.iload 5 dX6_move_65 rfl ?_
            refine WP.if_lt (tgt := 106) dX6_move_67 (by decide) (fun c32 => ?_) (fun c32 => ?_)
            · have h := h.1 c32
              refine WP.aload_n 0 dX6_move_106 rfl rfl ?_
              refine WP.iconst (v := 1) dX6_move_107 rfl ?_
              refine WP.callV (y := mX6_error) (As := [.int 1]) (st := []) dX6_move_108 wm_X6_68 mw_X6_error rfl (Nat.le_of_ble_eq_true rfl) (rmok d) h16 (by decide) rfl h (fun v33 Sm34 h36 => ?_)
              obtain ⟨m34, rfl, r35, rfl, h⟩ := h36
              show WP G _ _ _ 0 0 111 [(0, .ref b), (1, .int x1), (2, .int x2), (3, .int x3), (4, .int x4), (5, .int x5)] [.int r35] (sh, ta, m34)
              exact WP.iret dX6_move_111 rfl (Nat.le_refl _) (Nat.le_refl _) ⟨_, rfl, h⟩
            · have h := h.2 c32
              refine WP.iload_n 2 dX6_move_70 rfl rfl ?_
              refine WP.if_lt (tgt := 106) dX6_move_71 (by decide) (fun c37 => ?_) (fun c37 => ?_)
              · have h := h.1 c37
                refine WP.aload_n 0 dX6_move_106 rfl rfl ?_
                refine WP.iconst (v := 1) dX6_move_107 rfl ?_
                refine WP.callV (y := mX6_error) (As := [.int 1]) (st := []) dX6_move_108 wm_X6_68 mw_X6_error rfl (Nat.le_of_ble_eq_true rfl) (rmok d) h16 (by decide) rfl h (fun v38 Sm39 h41 => ?_)
                obtain ⟨m39, rfl, r40, rfl, h⟩ := h41
                show WP G _ _ _ 0 0 111 [(0, .ref b), (1, .int x1), (2, .int x2), (3, .int x3), (4, .int x4), (5, .int x5)] [.int r40] (sh, ta, m39)
                exact WP.iret dX6_move_111 rfl (Nat.le_refl _) (Nat.le_refl _) ⟨_, rfl, h⟩
              · have h := h.2 c37
                refine WP.iload 4 dX6_move_74 rfl ?_
                refine WP.if_lt (tgt := 106) dX6_move_76 (by decide) (fun c42 => ?_) (fun c42 => ?_)
                · have h := h.1 c42
                  refine WP.aload_n 0 dX6_move_106 rfl rfl ?_
                  refine WP.iconst (v := 1) dX6_move_107 rfl ?_
                  refine WP.callV (y := mX6_error) (As := [.int 1]) (st := []) dX6_move_108 wm_X6_68 mw_X6_error rfl (Nat.le_of_ble_eq_true rfl) (rmok d) h16 (by decide) rfl h (fun v43 Sm44 h46 => ?_)
                  obtain ⟨m44, rfl, r45, rfl, h⟩ := h46
                  show WP G _ _ _ 0 0 111 [(0, .ref b), (1, .int x1), (2, .int x2), (3, .int x3), (4, .int x4), (5, .int x5)] [.int r45] (sh, ta, m44)
                  exact WP.iret dX6_move_111 rfl (Nat.le_refl _) (Nat.le_refl _) ⟨_, rfl, h⟩
                · have h := h.2 c42
                  refine WP.iload_n 2 dX6_move_79 rfl rfl ?_
                  refine WP.aload_n 0 dX6_move_80 rfl rfl ?_
                  obtain ⟨i47, h48, h⟩ := h
                  refine WP.getR 6 19 wf_X6_40 (by decide) (by decide) rfl h16 h48 dX6_move_81 ?_
                  refine WP.iload_n 1 dX6_move_84 rfl rfl ?_
                  obtain ⟨n50, h49, h⟩ := h
                  obtain ⟨h51, h⟩ := h
                  refine WP.iald h49 h51 dX6_move_85 ?_
                  refine WP.iload 5 dX6_move_86 rfl ?_
                  refine WP.isub dX6_move_88 ?_
                  refine WP.icmp_gt (tgt := 106) dX6_move_89 (by decide) (fun c52 => ?_) (fun c52 => ?_)
                  · have h := h.1 c52
                    refine WP.aload_n 0 dX6_move_106 rfl rfl ?_
                    refine WP.iconst (v := 1) dX6_move_107 rfl ?_
                    refine WP.callV (y := mX6_error) (As := [.int 1]) (st := []) dX6_move_108 wm_X6_68 mw_X6_error rfl (Nat.le_of_ble_eq_true rfl) (rmok d) h16 (by decide) rfl h (fun v53 Sm54 h56 => ?_)
                    obtain ⟨m54, rfl, r55, rfl, h⟩ := h56
                    show WP G _ _ _ 0 0 111 [(0, .ref b), (1, .int x1), (2, .int x2), (3, .int x3), (4, .int x4), (5, .int x5)] [.int r55] (sh, ta, m54)
                    exact WP.iret dX6_move_111 rfl (Nat.le_refl _) (Nat.le_refl _) ⟨_, rfl, h⟩
                  · have h := h.2 c52
                    refine WP.iload 4 dX6_move_92 rfl ?_
                    refine WP.aload_n 0 dX6_move_94 rfl rfl ?_
                    refine WP.getR 6 19 wf_X6_40 (by decide) (by decide) rfl h16 h48 dX6_move_95 ?_
                    refine WP.iload_n 3 dX6_move_98 rfl rfl ?_
                    obtain ⟨h57, h⟩ := h
                    refine WP.iald h49 h57 dX6_move_99 ?_
                    refine WP.iload 5 dX6_move_100 rfl ?_
                    refine WP.isub dX6_move_102 ?_
                    refine WP.icmp_le (tgt := 112) dX6_move_103 (by decide) (fun c58 => ?_) (fun c58 => ?_)
                    · have h := h.1 c58
                      refine WP.iconst (v := 0) dX6_move_112 rfl ?_
                      refine WP.istore (lv2 := [(6, .int 0), (0, .ref b), (1, .int x1), (2, .int x2), (3, .int x3), (4, .int x4), (5, .int x5)]) dX6_move_113 (by decide) rfl ?_
                      exact WP.pick [1, 2, 3, 4, 5, 6, 0] rfl h
                    · have h := h.2 c58
                      refine WP.aload_n 0 dX6_move_106 rfl rfl ?_
                      refine WP.iconst (v := 1) dX6_move_107 rfl ?_
                      refine WP.callV (y := mX6_error) (As := [.int 1]) (st := []) dX6_move_108 wm_X6_68 mw_X6_error rfl (Nat.le_of_ble_eq_true rfl) (rmok d) h16 (by decide) rfl h (fun v59 Sm60 h62 => ?_)
                      obtain ⟨m60, rfl, r61, rfl, h⟩ := h62
                      show WP G _ _ _ 0 0 111 [(0, .ref b), (1, .int x1), (2, .int x2), (3, .int x3), (4, .int x4), (5, .int x5)] [.int r61] (sh, ta, m60)
                      exact WP.iret dX6_move_111 rfl (Nat.le_refl _) (Nat.le_refl _) ⟨_, rfl, h⟩
          · have h := h.2 c31
            refine WP.aload_n 0 dX6_move_59 rfl rfl ?_
            refine WP.iconst (v := 5) dX6_move_60 rfl ?_
            refine WP.callV (y := mX6_error) (As := [.int 5]) (st := []) dX6_move_61 wm_X6_68 mw_X6_error rfl (Nat.le_of_ble_eq_true rfl) (rmok d) h16 (by decide) rfl h (fun v63 Sm64 h66 => ?_)
            obtain ⟨m64, rfl, r65, rfl, h⟩ := h66
            show WP G _ _ _ 0 0 64 [(0, .ref b), (1, .int x1), (2, .int x2), (3, .int x3), (4, .int x4), (5, .int x5)] [.int r65] (sh, ta, m64)
            exact WP.iret dX6_move_64 rfl (Nat.le_refl _) (Nat.le_refl _) ⟨_, rfl, h⟩
        · have h := h.2 c28
          refine WP.aload_n 0 dX6_move_38 rfl rfl ?_
          refine WP.iconst (v := 2) dX6_move_39 rfl ?_
          refine WP.callV (y := mX6_error) (As := [.int 2]) (st := []) dX6_move_40 wm_X6_68 mw_X6_error rfl (Nat.le_of_ble_eq_true rfl) (rmok d) h16 (by decide) rfl h (fun v67 Sm68 h70 => ?_)
          obtain ⟨m68, rfl, r69, rfl, h⟩ := h70
          show WP G _ _ _ 0 0 43 [(0, .ref b), (1, .int x1), (2, .int x2), (3, .int x3), (4, .int x4), (5, .int x5)] [.int r69] (sh, ta, m68)
          exact WP.iret dX6_move_43 rfl (Nat.le_refl _) (Nat.le_refl _) ⟨_, rfl, h⟩
    · have h := h.2 c15
      refine WP.aload_n 0 dX6_move_14 rfl rfl ?_
      refine WP.iconst (v := 1) dX6_move_15 rfl ?_
      obtain ⟨h75, h⟩ := h
      refine WP.callV (y := mX6_error) (As := [.int 1]) (st := []) dX6_move_16 wm_X6_68 mw_X6_error rfl (Nat.le_of_ble_eq_true rfl) (rmok d) h75 (by decide) rfl h (fun v71 Sm72 h74 => ?_)
      obtain ⟨m72, rfl, r73, rfl, h⟩ := h74
      show WP G _ _ _ 0 0 19 [(0, .ref b), (1, .int x1), (2, .int x2), (3, .int x3), (4, .int x4), (5, .int x5)] [.int r73] (sh, ta, m72)
      exact WP.iret dX6_move_19 rfl (Nat.le_refl _) (Nat.le_refl _) ⟨_, rfl, h⟩
set_option maxHeartbeats 4000000 in
set_option maxRecDepth 20000 in
theorem rg_X6_move_115 (hG : fl G = false) (b : Nat) (x1 : Int32) (x2 : Int32) (x3 : Int32) (x4 : Int32) (x5 : Int32) (x6 : Int32) (h : ((x5 ≤ x6 → WP G (rmD (d + 1) 0 0) mX6_move (QC G sh ta K) 0 0 152 [(0, .ref b), (3, .int x3), (4, .int x4), (5, .int x5), (6, .int 0)] [] (sh, ta, m)) ∧ (¬ x5 ≤ x6 → sh[b]? = some (.inl 6) ∧ ∃ i3, ta b 21 = some i3 ∧ ∃ i5, ta b 20 = some i5 ∧ ∃ n8, sh[i5]? = some (.inr (0, n8)) ∧ InB (((24 * x1) + x2) + x6) n8 ∧ ∃ n11, sh[i3]? = some (.inr (0, n11)) ∧ InB x6 n11 ∧ ∀ m13, m13 = upa m i3 x6 (rd (m i5) (((24 * x1) + x2) + x6)) → WP G (rmD (d + 1) 0 0) mX6_move (QC G sh ta K) 0 0 115 [(0, .ref b), (1, .int x1), (2, .int x2), (3, .int x3), (4, .int x4), (5, .int x5), (6, .int (x6 + 1))] [] (sh, ta, m13)))) : WP G (rmD (d + 1) 0 0) mX6_move (QC G sh ta K) 0 0 115 [(0, .ref b), (1, .int x1), (2, .int x2), (3, .int x3), (4, .int x4), (5, .int x5), (6, .int x6)] [] (sh, ta, m) := by
  refine WP.iload 6 dX6_move_115 rfl ?_
  refine WP.iload 5 dX6_move_117 rfl ?_
  refine WP.icmp_ge (tgt := 149) dX6_move_119 (by decide) (fun c1 => ?_) (fun c1 => ?_)
  · have h := h.1 c1
    refine WP.iconst (v := 0) dX6_move_149 rfl ?_
    refine WP.istore (lv2 := [(6, .int 0), (0, .ref b), (1, .int x1), (2, .int x2), (3, .int x3), (4, .int x4), (5, .int x5)]) dX6_move_150 (by decide) rfl ?_
    exact WP.pick [1, 4, 5, 6, 0] rfl h
  · have h := h.2 c1
    refine WP.aload_n 0 dX6_move_122 rfl rfl ?_
    obtain ⟨h2, h⟩ := h
    obtain ⟨i3, h4, h⟩ := h
    refine WP.getR 6 21 wf_X6_46 (by decide) (by decide) rfl h2 h4 dX6_move_123 ?_
    refine WP.iload 6 dX6_move_126 rfl ?_
    refine WP.aload_n 0 dX6_move_128 rfl rfl ?_
    obtain ⟨i5, h6, h⟩ := h
    refine WP.getR 6 20 wf_X6_43 (by decide) (by decide) rfl h2 h6 dX6_move_129 ?_
    refine WP.bipush (v := 24) dX6_move_132 rfl ?_
    refine WP.iload_n 1 dX6_move_134 rfl rfl ?_
    refine WP.imul dX6_move_135 ?_
    refine WP.iload_n 2 dX6_move_136 rfl rfl ?_
    refine WP.iadd dX6_move_137 ?_
    refine WP.iload 6 dX6_move_138 rfl ?_
    refine WP.iadd dX6_move_140 ?_
    obtain ⟨n8, h7, h⟩ := h
    obtain ⟨h9, h⟩ := h
    refine WP.iald h7 h9 dX6_move_141 ?_
    obtain ⟨n11, h10, h⟩ := h
    obtain ⟨h12, h⟩ := h
    have h := h _ rfl
    refine WP.iast h10 h12 dX6_move_142 ?_
    generalize upa m i3 x6 (rd (m i5) (((24 * x1) + x2) + x6)) = m13 at h ⊢
    refine WP.iinc (lv2 := [(6, .int (x6 + 1)), (0, .ref b), (1, .int x1), (2, .int x2), (3, .int x3), (4, .int x4), (5, .int x5)]) 6 1 dX6_move_143 rfl rfl (by decide) rfl ?_
    refine WP.goto (tgt := 115) dX6_move_146 (by decide) ?_
    exact WP.pick [1, 2, 3, 4, 5, 6, 0] rfl h
set_option maxHeartbeats 4000000 in
set_option maxRecDepth 20000 in
theorem rg_X6_move_152 (hG : fl G = false) (b : Nat) (x3 : Int32) (x4 : Int32) (x5 : Int32) (x6 : Int32) (h : ((x5 ≤ x6 → K (some (.int x5)) m) ∧ (¬ x5 ≤ x6 → sh[b]? = some (.inl 6) ∧ ∃ i3, ta b 20 = some i3 ∧ ∃ i5, ta b 21 = some i5 ∧ ∃ n8, sh[i5]? = some (.inr (0, n8)) ∧ InB x6 n8 ∧ ∃ n11, sh[i3]? = some (.inr (0, n11)) ∧ InB (((24 * x3) + x4) + x6) n11 ∧ ∀ m13, m13 = upa m i3 (((24 * x3) + x4) + x6) (rd (m i5) x6) → WP G (rmD (d + 1) 0 0) mX6_move (QC G sh ta K) 0 0 152 [(0, .ref b), (3, .int x3), (4, .int x4), (5, .int x5), (6, .int (x6 + 1))] [] (sh, ta, m13)))) : WP G (rmD (d + 1) 0 0) mX6_move (QC G sh ta K) 0 0 152 [(0, .ref b), (3, .int x3), (4, .int x4), (5, .int x5), (6, .int x6)] [] (sh, ta, m) := by
  refine WP.iload 4 dX6_move_152 rfl ?_
  refine WP.iload 3 dX6_move_154 rfl ?_
  refine WP.icmp_ge (tgt := 187) dX6_move_156 (by decide) (fun c1 => ?_) (fun c1 => ?_)
  · have h := h.1 c1
    refine WP.iload 3 dX6_move_187 rfl ?_
    exact WP.iret dX6_move_189 rfl (Nat.le_refl _) (Nat.le_refl _) ⟨_, rfl, h⟩
  · have h := h.2 c1
    refine WP.aload_n 0 dX6_move_159 rfl rfl ?_
    obtain ⟨h2, h⟩ := h
    obtain ⟨i3, h4, h⟩ := h
    refine WP.getR 6 20 wf_X6_43 (by decide) (by decide) rfl h2 h4 dX6_move_160 ?_
    refine WP.bipush (v := 24) dX6_move_163 rfl ?_
    refine WP.iload_n 1 dX6_move_165 rfl rfl ?_
    refine WP.imul dX6_move_166 ?_
    refine WP.iload 2 dX6_move_167 rfl ?_
    refine WP.iadd dX6_move_169 ?_
    refine WP.iload 4 dX6_move_170 rfl ?_
    refine WP.iadd dX6_move_172 ?_
    refine WP.aload_n 0 dX6_move_173 rfl rfl ?_
    obtain ⟨i5, h6, h⟩ := h
    refine WP.getR 6 21 wf_X6_46 (by decide) (by decide) rfl h2 h6 dX6_move_174 ?_
    refine WP.iload 4 dX6_move_177 rfl ?_
    obtain ⟨n8, h7, h⟩ := h
    obtain ⟨h9, h⟩ := h
    refine WP.iald h7 h9 dX6_move_179 ?_
    obtain ⟨n11, h10, h⟩ := h
    obtain ⟨h12, h⟩ := h
    have h := h _ rfl
    refine WP.iast h10 h12 dX6_move_180 ?_
    generalize upa m i3 (((24 * x3) + x4) + x6) (rd (m i5) x6) = m13 at h ⊢
    refine WP.iinc (lv2 := [(6, .int (x6 + 1)), (0, .ref b), (3, .int x3), (4, .int x4), (5, .int x5)]) 4 1 dX6_move_181 rfl rfl (by decide) rfl ?_
    refine WP.goto (tgt := 152) dX6_move_184 (by decide) ?_
    exact WP.pick [1, 2, 3, 4, 0] rfl h
set_option maxHeartbeats 4000000 in
set_option maxRecDepth 20000 in
theorem rg_X6_lacks_0 (hG : fl G = false) (b : Nat) (x1 : Int32) (h : Cal G mX6_isSheet d [.int x1] sh ta m (fun v1 m2 => ∃ r3, v1 = some (.int r3) ∧ ((¬ r3 = 0 → sh[b]? = some (.inl 6) ∧ ∃ i7, ta b 18 = some i7 ∧ ∃ n10, sh[i7]? = some (.inr (0, n10)) ∧ InB x1 n10 ∧ ((¬ (rd (m2 i7) x1) = 0 → K (some (.int 0)) m2) ∧ ((rd (m2 i7) x1) = 0 → K (some (.int 2)) m2))) ∧ (r3 = 0 → K (some (.int 1)) m2)))) : WP G (rmD (d + 1) 0 0) mX6_lacks (QC G sh ta K) 0 0 0 [(0, .ref b), (1, .int x1)] [] (sh, ta, m) := by
  refine WP.iload_n 1 dX6_lacks_0 rfl rfl ?_
  refine WP.callS (y := mX6_isSheet) (As := [.int x1]) (st := []) dX6_lacks_1 wm_X6_261 mw_X6_isSheet rfl (Nat.le_of_ble_eq_true rfl) (rmok d) rfl h (fun v1 Sm2 h4 => ?_)
  obtain ⟨m2, rfl, r3, rfl, h⟩ := h4
  show WP G _ _ _ 0 0 4 [(0, .ref b), (1, .int x1)] [.int r3] (sh, ta, m2)
  refine WP.if_ne (tgt := 11) dX6_lacks_4 (by decide) (fun c5 => ?_) (fun c5 => ?_)
  · have h := h.1 c5
    refine WP.aload_n 0 dX6_lacks_11 rfl rfl ?_
    obtain ⟨h6, h⟩ := h
    obtain ⟨i7, h8, h⟩ := h
    refine WP.getR 6 18 wf_X6_37 (by decide) (by decide) rfl h6 h8 dX6_lacks_12 ?_
    refine WP.iload_n 1 dX6_lacks_15 rfl rfl ?_
    obtain ⟨n10, h9, h⟩ := h
    obtain ⟨h11, h⟩ := h
    refine WP.iald h9 h11 dX6_lacks_16 ?_
    refine WP.if_ne (tgt := 24) dX6_lacks_17 (by decide) (fun c12 => ?_) (fun c12 => ?_)
    · have h := h.1 c12
      refine WP.iconst (v := 0) dX6_lacks_24 rfl ?_
      exact WP.iret dX6_lacks_25 rfl (Nat.le_refl _) (Nat.le_refl _) ⟨_, rfl, h⟩
    · have h := h.2 c12
      refine WP.iconst (v := 2) dX6_lacks_20 rfl ?_
      refine WP.goto (tgt := 25) dX6_lacks_21 (by decide) ?_
      exact WP.iret dX6_lacks_25 rfl (Nat.le_refl _) (Nat.le_refl _) ⟨_, rfl, h⟩
  · have h := h.2 c5
    refine WP.iconst (v := 1) dX6_lacks_7 rfl ?_
    refine WP.goto (tgt := 25) dX6_lacks_8 (by decide) ?_
    exact WP.iret dX6_lacks_25 rfl (Nat.le_refl _) (Nat.le_refl _) ⟨_, rfl, h⟩
set_option maxHeartbeats 4000000 in
set_option maxRecDepth 20000 in
theorem rg_X6_judge_0 (hG : fl G = false) (b : Nat) (x1 : Int32) (x2 : Int32) (h : Cal G mX6_isCell d [.int x2] sh ta m (fun v1 m2 => ∃ r3, v1 = some (.int r3) ∧ ((r3 = 0 → sh[b]? = some (.inl 6) ∧ Cal G mX6_error d [.ref b, .int 1] sh ta m2 (fun v7 m8 => ∃ r9, v7 = some (.int r9) ∧ K (some (.int r9)) m8)) ∧ (¬ r3 = 0 → sh[b]? = some (.inl 6) ∧ Cal G mX6_lacks d [.ref b, .int x1] sh ta m2 (fun v12 m13 => ∃ r14, v12 = some (.int r14) ∧ ((r14 ≤ 0 → WP G (rmD (d + 1) 0 0) mX6_judge (QC G sh ta K) 0 0 30 [(0, .ref b), (1, .int x1), (2, .int x2), (4, .int 0)] [] (sh, ta, m13)) ∧ (¬ r14 ≤ 0 → Cal G mX6_error d [.ref b, .int r14] sh ta m13 (fun v18 m19 => ∃ r20, v18 = some (.int r20) ∧ K (some (.int r20)) m19)))))))) : WP G (rmD (d + 1) 0 0) mX6_judge (QC G sh ta K) 0 0 0 [(0, .ref b), (1, .int x1), (2, .int x2)] [] (sh, ta, m) := by
  refine WP.iload_n 2 dX6_judge_0 rfl rfl ?_
  refine WP.callS (y := mX6_isCell) (As := [.int x2]) (st := []) dX6_judge_1 wm_X6_176 mw_X6_isCell rfl (Nat.le_of_ble_eq_true rfl) (rmok d) rfl h (fun v1 Sm2 h4 => ?_)
  obtain ⟨m2, rfl, r3, rfl, h⟩ := h4
  show WP G _ _ _ 0 0 4 [(0, .ref b), (1, .int x1), (2, .int x2)] [.int r3] (sh, ta, m2)
  refine WP.if_eq (tgt := 15) dX6_judge_4 (by decide) (fun c5 => ?_) (fun c5 => ?_)
  · have h := h.1 c5
    refine WP.iconst (v := 1) dX6_judge_15 rfl ?_
    refine WP.istore_n (lv2 := [(3, .int 1), (0, .ref b), (1, .int x1), (2, .int x2)]) dX6_judge_16 rfl (by decide) rfl ?_
    refine WP.iload_n 0 dX6_judge_17 rfl rfl ?_
    refine WP.if_le (tgt := 27) dX6_judge_18 (by decide) (fun c6 => absurd c6 (by decide)) (fun _ => ?_)
    refine WP.aload_n 1 dX6_judge_21 rfl rfl ?_
    refine WP.iload_n 0 dX6_judge_22 rfl rfl ?_
    obtain ⟨h11, h⟩ := h
    refine WP.callV (y := mX6_error) (As := [.int 1]) (st := []) dX6_judge_23 wm_X6_68 mw_X6_error rfl (Nat.le_of_ble_eq_true rfl) (rmok d) h11 (by decide) rfl h (fun v7 Sm8 h10 => ?_)
    obtain ⟨m8, rfl, r9, rfl, h⟩ := h10
    show WP G _ _ _ 0 0 26 [(3, .int 1), (0, .ref b), (1, .int x1), (2, .int x2)] [.int r9] (sh, ta, m8)
    exact WP.iret dX6_judge_26 rfl (Nat.le_refl _) (Nat.le_refl _) ⟨_, rfl, h⟩
  · have h := h.2 c5
    refine WP.aload_n 0 dX6_judge_7 rfl rfl ?_
    refine WP.iload_n 1 dX6_judge_8 rfl rfl ?_
    obtain ⟨h16, h⟩ := h
    refine WP.callV (y := mX6_lacks) (As := [.int x1]) (st := []) dX6_judge_9 wm_X6_186 mw_X6_lacks rfl (Nat.le_of_ble_eq_true rfl) (rmok d) h16 (by decide) rfl h (fun v12 Sm13 h15 => ?_)
    obtain ⟨m13, rfl, r14, rfl, h⟩ := h15
    show WP G _ _ _ 0 0 12 [(0, .ref b), (1, .int x1), (2, .int x2)] [.int r14] (sh, ta, m13)
    refine WP.goto (tgt := 16) dX6_judge_12 (by decide) ?_
    refine WP.istore_n (lv2 := [(3, .int r14), (0, .ref b), (1, .int x1), (2, .int x2)]) dX6_judge_16 rfl (by decide) rfl ?_
    refine WP.iload_n 0 dX6_judge_17 rfl rfl ?_
    refine WP.if_le (tgt := 27) dX6_judge_18 (by decide) (fun c17 => ?_) (fun c17 => ?_)
    · have h := h.1 c17
      refine WP.iconst (v := 0) dX6_judge_27 rfl ?_
      refine WP.istore (lv2 := [(4, .int 0), (3, .int r14), (0, .ref b), (1, .int x1), (2, .int x2)]) dX6_judge_28 (by decide) rfl ?_
      exact WP.pick [2, 3, 4, 0] rfl h
    · have h := h.2 c17
      refine WP.aload_n 1 dX6_judge_21 rfl rfl ?_
      refine WP.iload_n 0 dX6_judge_22 rfl rfl ?_
      refine WP.callV (y := mX6_error) (As := [.int r14]) (st := []) dX6_judge_23 wm_X6_68 mw_X6_error rfl (Nat.le_of_ble_eq_true rfl) (rmok d) h16 (by decide) rfl h (fun v18 Sm19 h21 => ?_)
      obtain ⟨m19, rfl, r20, rfl, h⟩ := h21
      show WP G _ _ _ 0 0 26 [(3, .int r14), (0, .ref b), (1, .int x1), (2, .int x2)] [.int r20] (sh, ta, m19)
      exact WP.iret dX6_judge_26 rfl (Nat.le_refl _) (Nat.le_refl _) ⟨_, rfl, h⟩
set_option maxHeartbeats 4000000 in
set_option maxRecDepth 20000 in
theorem rg_X6_judge_30 (hG : fl G = false) (b : Nat) (x1 : Int32) (x2 : Int32) (x4 : Int32) (h : sh[b]? = some (.inl 6) ∧ ∃ i2, ta b 19 = some i2 ∧ ∃ n5, sh[i2]? = some (.inr (0, n5)) ∧ InB x1 n5 ∧ (((rd (m i2) x1) ≤ x4 → InB x1 n5 ∧ ((¬ x4 = (rd (m i2) x1) → K (some (.int x4)) m) ∧ (x4 = (rd (m i2) x1) → Cal G mX6_size d [.ref b, .int x2] sh ta m (fun v10 m11 => ∃ r12, v10 = some (.int r12) ∧ ((¬ x4 = r12 → K (some (.int x4)) m11) ∧ (x4 = r12 → K (some (.int ((-1)))) m11)))))) ∧ (¬ (rd (m i2) x1) ≤ x4 → Cal G mX6_size d [.ref b, .int x2] sh ta m (fun v15 m16 => ∃ r17, v15 = some (.int r17) ∧ ((r17 ≤ x4 → InB x1 n5 ∧ ((¬ x4 = (rd (m16 i2) x1) → K (some (.int x4)) m16) ∧ (x4 = (rd (m16 i2) x1) → Cal G mX6_size d [.ref b, .int x2] sh ta m16 (fun v22 m23 => ∃ r24, v22 = some (.int r24) ∧ ((¬ x4 = r24 → K (some (.int x4)) m23) ∧ (x4 = r24 → K (some (.int ((-1)))) m23)))))) ∧ (¬ r17 ≤ x4 → ∃ i27, ta b 20 = some i27 ∧ ∃ n30, sh[i27]? = some (.inr (0, n30)) ∧ InB ((24 * x1) + x4) n30 ∧ Cal G mX6_at1 d [.ref b, .int x2, .int x4] sh ta m16 (fun v32 m33 => ∃ r34, v32 = some (.int r34) ∧ ((¬ (rd (m16 i27) ((24 * x1) + x4)) = r34 → InB x1 n5 ∧ ((¬ x4 = (rd (m33 i2) x1) → K (some (.int x4)) m33) ∧ (x4 = (rd (m33 i2) x1) → Cal G mX6_size d [.ref b, .int x2] sh ta m33 (fun v39 m40 => ∃ r41, v39 = some (.int r41) ∧ ((¬ x4 = r41 → K (some (.int x4)) m40) ∧ (x4 = r41 → K (some (.int ((-1)))) m40)))))) ∧ ((rd (m16 i27) ((24 * x1) + x4)) = r34 → WP G (rmD (d + 1) 0 0) mX6_judge (QC G sh ta K) 0 0 30 [(0, .ref b), (1, .int x1), (2, .int x2), (4, .int (x4 + 1))] [] (sh, ta, m33)))))))))) : WP G (rmD (d + 1) 0 0) mX6_judge (QC G sh ta K) 0 0 30 [(0, .ref b), (1, .int x1), (2, .int x2), (4, .int x4)] [] (sh, ta, m) := by
  refine WP.iload 3 dX6_judge_30 rfl ?_
  refine WP.aload_n 0 dX6_judge_32 rfl rfl ?_
  obtain ⟨h1, h⟩ := h
  obtain ⟨i2, h3, h⟩ := h
  refine WP.getR 6 19 wf_X6_40 (by decide) (by decide) rfl h1 h3 dX6_judge_33 ?_
  refine WP.iload_n 1 dX6_judge_36 rfl rfl ?_
  obtain ⟨n5, h4, h⟩ := h
  obtain ⟨h6, h⟩ := h
  refine WP.iald h4 h6 dX6_judge_37 ?_
  refine WP.icmp_ge (tgt := 79) dX6_judge_38 (by decide) (fun c7 => ?_) (fun c7 => ?_)
  · have h := h.1 c7
    refine WP.iload 3 dX6_judge_79 rfl ?_
    refine WP.aload_n 0 dX6_judge_81 rfl rfl ?_
    refine WP.getR 6 19 wf_X6_40 (by decide) (by decide) rfl h1 h3 dX6_judge_82 ?_
    refine WP.iload_n 1 dX6_judge_85 rfl rfl ?_
    obtain ⟨h8, h⟩ := h
    refine WP.iald h4 h8 dX6_judge_86 ?_
    refine WP.icmp_ne (tgt := 104) dX6_judge_87 (by decide) (fun c9 => ?_) (fun c9 => ?_)
    · have h := h.1 c9
      refine WP.iload 3 dX6_judge_104 rfl ?_
      exact WP.iret dX6_judge_106 rfl (Nat.le_refl _) (Nat.le_refl _) ⟨_, rfl, h⟩
    · have h := h.2 c9
      refine WP.iload 3 dX6_judge_90 rfl ?_
      refine WP.aload_n 0 dX6_judge_92 rfl rfl ?_
      refine WP.iload_n 2 dX6_judge_93 rfl rfl ?_
      refine WP.callV (y := mX6_size) (As := [.int x2]) (st := [.int x4]) dX6_judge_94 wm_X6_54 mw_X6_size rfl (Nat.le_of_ble_eq_true rfl) (rmok d) h1 (by decide) rfl h (fun v10 Sm11 h13 => ?_)
      obtain ⟨m11, rfl, r12, rfl, h⟩ := h13
      show WP G _ _ _ 0 0 97 [(0, .ref b), (1, .int x1), (2, .int x2), (4, .int x4)] [.int r12, .int x4] (sh, ta, m11)
      refine WP.icmp_ne (tgt := 104) dX6_judge_97 (by decide) (fun c14 => ?_) (fun c14 => ?_)
      · have h := h.1 c14
        refine WP.iload 3 dX6_judge_104 rfl ?_
        exact WP.iret dX6_judge_106 rfl (Nat.le_refl _) (Nat.le_refl _) ⟨_, rfl, h⟩
      · have h := h.2 c14
        refine WP.iconst (v := (-1)) dX6_judge_100 rfl ?_
        refine WP.goto (tgt := 106) dX6_judge_101 (by decide) ?_
        exact WP.iret dX6_judge_106 rfl (Nat.le_refl _) (Nat.le_refl _) ⟨_, rfl, h⟩
  · have h := h.2 c7
    refine WP.iload 3 dX6_judge_41 rfl ?_
    refine WP.aload_n 0 dX6_judge_43 rfl rfl ?_
    refine WP.iload_n 2 dX6_judge_44 rfl rfl ?_
    refine WP.callV (y := mX6_size) (As := [.int x2]) (st := [.int x4]) dX6_judge_45 wm_X6_54 mw_X6_size rfl (Nat.le_of_ble_eq_true rfl) (rmok d) h1 (by decide) rfl h (fun v15 Sm16 h18 => ?_)
    obtain ⟨m16, rfl, r17, rfl, h⟩ := h18
    show WP G _ _ _ 0 0 48 [(0, .ref b), (1, .int x1), (2, .int x2), (4, .int x4)] [.int r17, .int x4] (sh, ta, m16)
    refine WP.icmp_ge (tgt := 79) dX6_judge_48 (by decide) (fun c19 => ?_) (fun c19 => ?_)
    · have h := h.1 c19
      refine WP.iload 3 dX6_judge_79 rfl ?_
      refine WP.aload_n 0 dX6_judge_81 rfl rfl ?_
      refine WP.getR 6 19 wf_X6_40 (by decide) (by decide) rfl h1 h3 dX6_judge_82 ?_
      refine WP.iload_n 1 dX6_judge_85 rfl rfl ?_
      obtain ⟨h20, h⟩ := h
      refine WP.iald h4 h20 dX6_judge_86 ?_
      refine WP.icmp_ne (tgt := 104) dX6_judge_87 (by decide) (fun c21 => ?_) (fun c21 => ?_)
      · have h := h.1 c21
        refine WP.iload 3 dX6_judge_104 rfl ?_
        exact WP.iret dX6_judge_106 rfl (Nat.le_refl _) (Nat.le_refl _) ⟨_, rfl, h⟩
      · have h := h.2 c21
        refine WP.iload 3 dX6_judge_90 rfl ?_
        refine WP.aload_n 0 dX6_judge_92 rfl rfl ?_
        refine WP.iload_n 2 dX6_judge_93 rfl rfl ?_
        refine WP.callV (y := mX6_size) (As := [.int x2]) (st := [.int x4]) dX6_judge_94 wm_X6_54 mw_X6_size rfl (Nat.le_of_ble_eq_true rfl) (rmok d) h1 (by decide) rfl h (fun v22 Sm23 h25 => ?_)
        obtain ⟨m23, rfl, r24, rfl, h⟩ := h25
        show WP G _ _ _ 0 0 97 [(0, .ref b), (1, .int x1), (2, .int x2), (4, .int x4)] [.int r24, .int x4] (sh, ta, m23)
        refine WP.icmp_ne (tgt := 104) dX6_judge_97 (by decide) (fun c26 => ?_) (fun c26 => ?_)
        · have h := h.1 c26
          refine WP.iload 3 dX6_judge_104 rfl ?_
          exact WP.iret dX6_judge_106 rfl (Nat.le_refl _) (Nat.le_refl _) ⟨_, rfl, h⟩
        · have h := h.2 c26
          refine WP.iconst (v := (-1)) dX6_judge_100 rfl ?_
          refine WP.goto (tgt := 106) dX6_judge_101 (by decide) ?_
          exact WP.iret dX6_judge_106 rfl (Nat.le_refl _) (Nat.le_refl _) ⟨_, rfl, h⟩
    · have h := h.2 c19
      refine WP.aload_n 0 dX6_judge_51 rfl rfl ?_
      obtain ⟨i27, h28, h⟩ := h
      refine WP.getR 6 20 wf_X6_43 (by decide) (by decide) rfl h1 h28 dX6_judge_52 ?_
      refine WP.bipush (v := 24) dX6_judge_55 rfl ?_
      refine WP.iload_n 1 dX6_judge_57 rfl rfl ?_
      refine WP.imul dX6_judge_58 ?_
      refine WP.iload 3 dX6_judge_59 rfl ?_
      refine WP.iadd dX6_judge_61 ?_
      obtain ⟨n30, h29, h⟩ := h
      obtain ⟨h31, h⟩ := h
      refine WP.iald h29 h31 dX6_judge_62 ?_
      refine WP.aload_n 0 dX6_judge_63 rfl rfl ?_
      refine WP.iload_n 2 dX6_judge_64 rfl rfl ?_
      refine WP.iload 3 dX6_judge_65 rfl ?_
      refine WP.callV (y := mX6_at1) (As := [.int x2, .int x4]) (st := [.int (rd (m16 i27) ((24 * x1) + x4))]) dX6_judge_67 wm_X6_58 mw_X6_at1 rfl (Nat.le_of_ble_eq_true rfl) (rmok d) h1 (by decide) rfl h (fun v32 Sm33 h35 => ?_)
      obtain ⟨m33, rfl, r34, rfl, h⟩ := h35
      show WP G _ _ _ 0 0 70 [(0, .ref b), (1, .int x1), (2, .int x2), (4, .int x4)] [.int r34, .int (rd (m16 i27) ((24 * x1) + x4))] (sh, ta, m33)
      refine WP.icmp_ne (tgt := 79) dX6_judge_70 (by decide) (fun c36 => ?_) (fun c36 => ?_)
      · have h := h.1 c36
        refine WP.iload 3 dX6_judge_79 rfl ?_
        refine WP.aload_n 0 dX6_judge_81 rfl rfl ?_
        refine WP.getR 6 19 wf_X6_40 (by decide) (by decide) rfl h1 h3 dX6_judge_82 ?_
        refine WP.iload_n 1 dX6_judge_85 rfl rfl ?_
        obtain ⟨h37, h⟩ := h
        refine WP.iald h4 h37 dX6_judge_86 ?_
        refine WP.icmp_ne (tgt := 104) dX6_judge_87 (by decide) (fun c38 => ?_) (fun c38 => ?_)
        · have h := h.1 c38
          refine WP.iload 3 dX6_judge_104 rfl ?_
          exact WP.iret dX6_judge_106 rfl (Nat.le_refl _) (Nat.le_refl _) ⟨_, rfl, h⟩
        · have h := h.2 c38
          refine WP.iload 3 dX6_judge_90 rfl ?_
          refine WP.aload_n 0 dX6_judge_92 rfl rfl ?_
          refine WP.iload_n 2 dX6_judge_93 rfl rfl ?_
          refine WP.callV (y := mX6_size) (As := [.int x2]) (st := [.int x4]) dX6_judge_94 wm_X6_54 mw_X6_size rfl (Nat.le_of_ble_eq_true rfl) (rmok d) h1 (by decide) rfl h (fun v39 Sm40 h42 => ?_)
          obtain ⟨m40, rfl, r41, rfl, h⟩ := h42
          show WP G _ _ _ 0 0 97 [(0, .ref b), (1, .int x1), (2, .int x2), (4, .int x4)] [.int r41, .int x4] (sh, ta, m40)
          refine WP.icmp_ne (tgt := 104) dX6_judge_97 (by decide) (fun c43 => ?_) (fun c43 => ?_)
          · have h := h.1 c43
            refine WP.iload 3 dX6_judge_104 rfl ?_
            exact WP.iret dX6_judge_106 rfl (Nat.le_refl _) (Nat.le_refl _) ⟨_, rfl, h⟩
          · have h := h.2 c43
            refine WP.iconst (v := (-1)) dX6_judge_100 rfl ?_
            refine WP.goto (tgt := 106) dX6_judge_101 (by decide) ?_
            exact WP.iret dX6_judge_106 rfl (Nat.le_refl _) (Nat.le_refl _) ⟨_, rfl, h⟩
      · have h := h.2 c36
        refine WP.iinc (lv2 := [(4, .int (x4 + 1)), (0, .ref b), (1, .int x1), (2, .int x2)]) 3 1 dX6_judge_73 rfl rfl (by decide) rfl ?_
        refine WP.goto (tgt := 30) dX6_judge_76 (by decide) ?_
        exact WP.pick [1, 2, 3, 0] rfl h
set_option maxHeartbeats 4000000 in
set_option maxRecDepth 20000 in
theorem rg_X6_image_0 (hG : fl G = false) (b : Nat) (h : sh[b]? = some (.inl 6) ∧ ∃ i2, ta b 0 = some i2 ∧ ∃ i4, ta b 1 = some i4 ∧ Cal G mX6_carry d [.ref i2, .ref i4] sh ta m (fun v6 m7 => v6 = none ∧ ∀ m10, m10 = up2 m7 b 3 ((m7 b 3) + 1) → K (some (.int (m10 b 3))) m10)) : WP G (rmD (d + 1) 0 0) mX6_image (QC G sh ta K) 0 0 0 [(0, .ref b)] [] (sh, ta, m) := by
  refine WP.aload_n 0 dX6_image_0 rfl rfl ?_
  obtain ⟨h1, h⟩ := h
  obtain ⟨i2, h3, h⟩ := h
  refine WP.getR 6 0 wf_X6_7 (by decide) (by decide) rfl h1 h3 dX6_image_1 ?_
  refine WP.aload_n 0 dX6_image_4 rfl rfl ?_
  obtain ⟨i4, h5, h⟩ := h
  refine WP.getR 6 1 wf_X6_13 (by decide) (by decide) rfl h1 h5 dX6_image_5 ?_
  refine WP.callS (y := mX6_carry) (As := [.ref i2, .ref i4]) (st := []) dX6_image_8 wm_X6_264 mw_X6_carry rfl (Nat.le_of_ble_eq_true rfl) (rmok d) rfl h (fun v6 Sm7 h9 => ?_)
  obtain ⟨m7, rfl, rfl, h⟩ := h9
  show WP G _ _ _ 0 0 11 [(0, .ref b)] [] (sh, ta, m7)
  refine WP.aload_n 0 dX6_image_11 rfl rfl ?_
  refine WP.dup dX6_image_12 rfl ?_
  refine WP.getI 6 3 wf_X6_268 (by decide) (by decide) rfl h1 dX6_image_13 ?_
  refine WP.iconst (v := 1) dX6_image_16 rfl ?_
  refine WP.iadd dX6_image_17 ?_
  have h := h _ rfl
  refine WP.putI 6 3 wf_X6_268 (by decide) (by decide) rfl h1 rfl rfl rfl dX6_image_18 ?_
  generalize up2 m7 b 3 ((m7 b 3) + 1) = m10 at h ⊢
  refine WP.aload_n 0 dX6_image_21 rfl rfl ?_
  refine WP.getI 6 3 wf_X6_268 (by decide) (by decide) rfl h1 dX6_image_22 ?_
  exact WP.iret dX6_image_25 rfl (Nat.le_refl _) (Nat.le_refl _) ⟨_, rfl, h⟩
set_option maxHeartbeats 4000000 in
set_option maxRecDepth 20000 in
theorem rg_X6_restore_0 (hG : fl G = false) (b : Nat) (h : sh[b]? = some (.inl 6) ∧ ((¬ (m b 3) = 0 → ∃ i3, ta b 1 = some i3 ∧ ∃ i5, ta b 0 = some i5 ∧ Cal G mX6_carry d [.ref i3, .ref i5] sh ta m (fun v7 m8 => v7 = none ∧ ∃ n12, sh[i5]? = some (.inr (0, n12)) ∧ InB 1 n12 ∧ K (some (.int (rd (m8 i5) (1 : Int32)))) m8)) ∧ ((m b 3) = 0 → Cal G mX6_error d [.ref b, .int 2] sh ta m (fun v14 m15 => ∃ r16, v14 = some (.int r16) ∧ K (some (.int r16)) m15)))) : WP G (rmD (d + 1) 0 0) mX6_restore (QC G sh ta K) 0 0 0 [(0, .ref b)] [] (sh, ta, m) := by
  refine WP.aload_n 0 dX6_restore_0 rfl rfl ?_
  obtain ⟨h1, h⟩ := h
  refine WP.getI 6 3 wf_X6_268 (by decide) (by decide) rfl h1 dX6_restore_1 ?_
  refine WP.if_ne (tgt := 13) dX6_restore_4 (by decide) (fun c2 => ?_) (fun c2 => ?_)
  · have h := h.1 c2
    refine WP.aload_n 0 dX6_restore_13 rfl rfl ?_
    obtain ⟨i3, h4, h⟩ := h
    refine WP.getR 6 1 wf_X6_13 (by decide) (by decide) rfl h1 h4 dX6_restore_14 ?_
    refine WP.aload_n 0 dX6_restore_17 rfl rfl ?_
    obtain ⟨i5, h6, h⟩ := h
    refine WP.getR 6 0 wf_X6_7 (by decide) (by decide) rfl h1 h6 dX6_restore_18 ?_
    refine WP.callS (y := mX6_carry) (As := [.ref i3, .ref i5]) (st := []) dX6_restore_21 wm_X6_264 mw_X6_carry rfl (Nat.le_of_ble_eq_true rfl) (rmok d) rfl h (fun v7 Sm8 h10 => ?_)
    obtain ⟨m8, rfl, rfl, h⟩ := h10
    show WP G _ _ _ 0 0 24 [(0, .ref b)] [] (sh, ta, m8)
    refine WP.aload_n 0 dX6_restore_24 rfl rfl ?_
    refine WP.getR 6 0 wf_X6_7 (by decide) (by decide) rfl h1 h6 dX6_restore_25 ?_
    refine WP.iconst (v := 1) dX6_restore_28 rfl ?_
    obtain ⟨n12, h11, h⟩ := h
    obtain ⟨h13, h⟩ := h
    refine WP.iald h11 h13 dX6_restore_29 ?_
    exact WP.iret dX6_restore_30 rfl (Nat.le_refl _) (Nat.le_refl _) ⟨_, rfl, h⟩
  · have h := h.2 c2
    refine WP.aload_n 0 dX6_restore_7 rfl rfl ?_
    refine WP.iconst (v := 2) dX6_restore_8 rfl ?_
    refine WP.callV (y := mX6_error) (As := [.int 2]) (st := []) dX6_restore_9 wm_X6_68 mw_X6_error rfl (Nat.le_of_ble_eq_true rfl) (rmok d) h1 (by decide) rfl h (fun v14 Sm15 h17 => ?_)
    obtain ⟨m15, rfl, r16, rfl, h⟩ := h17
    show WP G _ _ _ 0 0 12 [(0, .ref b)] [.int r16] (sh, ta, m15)
    exact WP.iret dX6_restore_12 rfl (Nat.le_refl _) (Nat.le_refl _) ⟨_, rfl, h⟩
set_option maxHeartbeats 4000000 in
set_option maxRecDepth 20000 in
theorem rg_X6_tell_0 (hG : fl G = false) (b : Nat) (x1 : Int32) (h : sh[b]? = some (.inl 6) ∧ ∃ i2, ta b 0 = some i2 ∧ ∃ n5, sh[i2]? = some (.inr (0, n5)) ∧ InB 6 n5 ∧ ((¬ (rd (m i2) (6 : Int32)) = (24 : Int32) → InB 6 n5 ∧ InB (478 + (rd (m i2) (6 : Int32))) n5 ∧ ∀ m10, m10 = upa m i2 (478 + (rd (m i2) (6 : Int32))) x1 → InB 6 n5 ∧ InB 6 n5 ∧ ∀ m13, m13 = upa m10 i2 (6 : Int32) ((rd (m10 i2) (6 : Int32)) + 1) → InB 6 n5 ∧ K (some (.int (rd (m13 i2) (6 : Int32)))) m13) ∧ ((rd (m i2) (6 : Int32)) = (24 : Int32) → Cal G mX6_error d [.ref b, .int 4] sh ta m (fun v15 m16 => ∃ r17, v15 = some (.int r17) ∧ K (some (.int r17)) m16)))) : WP G (rmD (d + 1) 0 0) mX6_tell (QC G sh ta K) 0 0 0 [(0, .ref b), (1, .int x1)] [] (sh, ta, m) := by
  refine WP.aload_n 0 dX6_tell_0 rfl rfl ?_
  obtain ⟨h1, h⟩ := h
  obtain ⟨i2, h3, h⟩ := h
  refine WP.getR 6 0 wf_X6_7 (by decide) (by decide) rfl h1 h3 dX6_tell_1 ?_
  refine WP.bipush (v := 6) dX6_tell_4 rfl ?_
  obtain ⟨n5, h4, h⟩ := h
  obtain ⟨h6, h⟩ := h
  refine WP.iald h4 h6 dX6_tell_6 ?_
  refine WP.bipush (v := 24) dX6_tell_7 rfl ?_
  refine WP.icmp_ne (tgt := 18) dX6_tell_9 (by decide) (fun c7 => ?_) (fun c7 => ?_)
  · have h := h.1 c7
    refine WP.aload_n 0 dX6_tell_18 rfl rfl ?_
    refine WP.getR 6 0 wf_X6_7 (by decide) (by decide) rfl h1 h3 dX6_tell_19 ?_
    refine WP.sipush (v := 478) dX6_tell_22 rfl ?_
    refine WP.aload_n 0 dX6_tell_25 rfl rfl ?_
    refine WP.getR 6 0 wf_X6_7 (by decide) (by decide) rfl h1 h3 dX6_tell_26 ?_
    refine WP.bipush (v := 6) dX6_tell_29 rfl ?_
    obtain ⟨h8, h⟩ := h
    refine WP.iald h4 h8 dX6_tell_31 ?_
    refine WP.iadd dX6_tell_32 ?_
    refine WP.iload_n 1 dX6_tell_33 rfl rfl ?_
    obtain ⟨h9, h⟩ := h
    have h := h _ rfl
    refine WP.iast h4 h9 dX6_tell_34 ?_
    generalize upa m i2 (478 + (rd (m i2) (6 : Int32))) x1 = m10 at h ⊢
    refine WP.aload_n 0 dX6_tell_35 rfl rfl ?_
    refine WP.getR 6 0 wf_X6_7 (by decide) (by decide) rfl h1 h3 dX6_tell_36 ?_
    refine WP.bipush (v := 6) dX6_tell_39 rfl ?_
    refine WP.dup2 dX6_tell_41 rfl rfl ?_
    obtain ⟨h11, h⟩ := h
    refine WP.iald h4 h11 dX6_tell_42 ?_
    refine WP.iconst (v := 1) dX6_tell_43 rfl ?_
    refine WP.iadd dX6_tell_44 ?_
    obtain ⟨h12, h⟩ := h
    have h := h _ rfl
    refine WP.iast h4 h12 dX6_tell_45 ?_
    generalize upa m10 i2 (6 : Int32) ((rd (m10 i2) (6 : Int32)) + 1) = m13 at h ⊢
    refine WP.aload_n 0 dX6_tell_46 rfl rfl ?_
    refine WP.getR 6 0 wf_X6_7 (by decide) (by decide) rfl h1 h3 dX6_tell_47 ?_
    refine WP.bipush (v := 6) dX6_tell_50 rfl ?_
    obtain ⟨h14, h⟩ := h
    refine WP.iald h4 h14 dX6_tell_52 ?_
    exact WP.iret dX6_tell_53 rfl (Nat.le_refl _) (Nat.le_refl _) ⟨_, rfl, h⟩
  · have h := h.2 c7
    refine WP.aload_n 0 dX6_tell_12 rfl rfl ?_
    refine WP.iconst (v := 4) dX6_tell_13 rfl ?_
    refine WP.callV (y := mX6_error) (As := [.int 4]) (st := []) dX6_tell_14 wm_X6_68 mw_X6_error rfl (Nat.le_of_ble_eq_true rfl) (rmok d) h1 (by decide) rfl h (fun v15 Sm16 h18 => ?_)
    obtain ⟨m16, rfl, r17, rfl, h⟩ := h18
    show WP G _ _ _ 0 0 17 [(0, .ref b), (1, .int x1)] [.int r17] (sh, ta, m16)
    exact WP.iret dX6_tell_17 rfl (Nat.le_refl _) (Nat.le_refl _) ⟨_, rfl, h⟩
set_option maxHeartbeats 4000000 in
set_option maxRecDepth 20000 in
theorem rg_X6_check_0 (hG : fl G = false) (b : Nat) (x1 : Int32) (h : sh[b]? = some (.inl 6) ∧ ∃ i2, ta b 0 = some i2 ∧ ∃ n5, sh[i2]? = some (.inr (0, n5)) ∧ InB 6 n5 ∧ InB 6 n5 ∧ ∀ m8, m8 = upa m i2 (6 : Int32) (0 : Int32) → Cal G mX6_isOpen d [.int x1] sh ta m8 (fun v9 m10 => ∃ r11, v9 = some (.int r11) ∧ ((¬ r11 = 0 → Cal G mX6_layDown d [.ref b, .int 0] sh ta m10 (fun v14 m15 => v14 = none ∧ WP G (rmD (d + 1) 0 0) mX6_check (QC G sh ta K) 0 0 36 [(0, .ref b), (1, .int x1), (2, .int (rd (m i2) (6 : Int32))), (3, .int 0)] [] (sh, ta, m15))) ∧ (r11 = 0 → Cal G mX6_error d [.ref b, .int 1] sh ta m10 (fun v18 m19 => ∃ r20, v18 = some (.int r20) ∧ K (some (.int r20)) m19))))) : WP G (rmD (d + 1) 0 0) mX6_check (QC G sh ta K) 0 0 0 [(0, .ref b), (1, .int x1)] [] (sh, ta, m) := by
  refine WP.aload_n 0 dX6_check_0 rfl rfl ?_
  obtain ⟨h1, h⟩ := h
  obtain ⟨i2, h3, h⟩ := h
  refine WP.getR 6 0 wf_X6_7 (by decide) (by decide) rfl h1 h3 dX6_check_1 ?_
  refine WP.bipush (v := 6) dX6_check_4 rfl ?_
  obtain ⟨n5, h4, h⟩ := h
  obtain ⟨h6, h⟩ := h
  refine WP.iald h4 h6 dX6_check_6 ?_
  refine WP.istore_n (lv2 := [(2, .int (rd (m i2) (6 : Int32))), (0, .ref b), (1, .int x1)]) dX6_check_7 rfl (by decide) rfl ?_
  refine WP.aload_n 1 dX6_check_8 rfl rfl ?_
  refine WP.getR 6 0 wf_X6_7 (by decide) (by decide) rfl h1 h3 dX6_check_9 ?_
  refine WP.bipush (v := 6) dX6_check_12 rfl ?_
  refine WP.iconst (v := 0) dX6_check_14 rfl ?_
  obtain ⟨h7, h⟩ := h
  have h := h _ rfl
  refine WP.iast h4 h7 dX6_check_15 ?_
  generalize upa m i2 (6 : Int32) (0 : Int32) = m8 at h ⊢
  refine WP.iload_n 2 dX6_check_16 rfl rfl ?_
  refine WP.callS (y := mX6_isOpen) (As := [.int x1]) (st := []) dX6_check_17 wm_X6_142 mw_X6_isOpen rfl (Nat.le_of_ble_eq_true rfl) (rmok d) rfl h (fun v9 Sm10 h12 => ?_)
  obtain ⟨m10, rfl, r11, rfl, h⟩ := h12
  show WP G _ _ _ 0 0 20 [(2, .int (rd (m i2) (6 : Int32))), (0, .ref b), (1, .int x1)] [.int r11] (sh, ta, m10)
  refine WP.if_ne (tgt := 29) dX6_check_20 (by decide) (fun c13 => ?_) (fun c13 => ?_)
  · have h := h.1 c13
    refine WP.aload_n 1 dX6_check_29 rfl rfl ?_
    refine WP.iconst (v := 0) dX6_check_30 rfl ?_
    refine WP.callV (y := mX6_layDown) (As := [.int 0]) (st := []) dX6_check_31 wm_X6_196 mw_X6_layDown rfl (Nat.le_of_ble_eq_true rfl) (rmok d) h1 (by decide) rfl h (fun v14 Sm15 h17 => ?_)
    obtain ⟨m15, rfl, rfl, h⟩ := h17
    show WP G _ _ _ 0 0 34 [(2, .int (rd (m i2) (6 : Int32))), (0, .ref b), (1, .int x1)] [] (sh, ta, m15)
    refine WP.iconst (v := 0) dX6_check_34 rfl ?_
    refine WP.istore_n (lv2 := [(3, .int 0), (2, .int (rd (m i2) (6 : Int32))), (0, .ref b), (1, .int x1)]) dX6_check_35 rfl (by decide) rfl ?_
    exact WP.pick [2, 3, 1, 0] rfl h
  · have h := h.2 c13
    refine WP.aload_n 1 dX6_check_23 rfl rfl ?_
    refine WP.iconst (v := 1) dX6_check_24 rfl ?_
    refine WP.callV (y := mX6_error) (As := [.int 1]) (st := []) dX6_check_25 wm_X6_68 mw_X6_error rfl (Nat.le_of_ble_eq_true rfl) (rmok d) h1 (by decide) rfl h (fun v18 Sm19 h21 => ?_)
    obtain ⟨m19, rfl, r20, rfl, h⟩ := h21
    show WP G _ _ _ 0 0 28 [(2, .int (rd (m i2) (6 : Int32))), (0, .ref b), (1, .int x1)] [.int r20] (sh, ta, m19)
    exact WP.iret dX6_check_28 rfl (Nat.le_refl _) (Nat.le_refl _) ⟨_, rfl, h⟩
set_option maxHeartbeats 4000000 in
set_option maxRecDepth 20000 in
theorem rg_X6_check_36 (hG : fl G = false) (b : Nat) (x1 : Int32) (x2 : Int32) (x3 : Int32) (h : ((x2 ≤ x3 → sh[b]? = some (.inl 6) ∧ Cal G mX6_layBack d [.ref b, .int 0] sh ta m (fun v2 m3 => v2 = none ∧ ((¬ x3 = x2 → K (some (.int (1 + x3))) m3) ∧ (x3 = x2 → K (some (.int 0)) m3)))) ∧ (¬ x2 ≤ x3 → sh[b]? = some (.inl 6) ∧ ∃ i9, ta b 0 = some i9 ∧ ∃ n12, sh[i9]? = some (.inr (0, n12)) ∧ InB (478 + x3) n12 ∧ Cal G mX6_does d [.ref b, .int x1] sh ta m (fun v14 m15 => ∃ r16, v14 = some (.int r16) ∧ ((¬ (rd (m i9) (478 + x3)) = r16 → Cal G mX6_layBack d [.ref b, .int 0] sh ta m15 (fun v19 m20 => v19 = none ∧ ((¬ x3 = x2 → K (some (.int (1 + x3))) m20) ∧ (x3 = x2 → K (some (.int 0)) m20)))) ∧ ((rd (m i9) (478 + x3)) = r16 → Cal G mX6_pulls1 d [.ref b, .int x1] sh ta m15 (fun v24 m25 => ∃ r26, v24 = some (.int r26) ∧ WP G (rmD (d + 1) 0 0) mX6_check (QC G sh ta K) 0 0 36 [(0, .ref b), (1, .int x1), (2, .int x2), (3, .int (x3 + 1))] [] (sh, ta, m25)))))))) : WP G (rmD (d + 1) 0 0) mX6_check (QC G sh ta K) 0 0 36 [(0, .ref b), (1, .int x1), (2, .int x2), (3, .int x3)] [] (sh, ta, m) := by
  refine WP.iload_n 3 dX6_check_36 rfl rfl ?_
  refine WP.iload_n 2 dX6_check_37 rfl rfl ?_
  refine WP.icmp_ge (tgt := 72) dX6_check_38 (by decide) (fun c1 => ?_) (fun c1 => ?_)
  · have h := h.1 c1
    refine WP.aload_n 0 dX6_check_72 rfl rfl ?_
    refine WP.iconst (v := 0) dX6_check_73 rfl ?_
    obtain ⟨h6, h⟩ := h
    refine WP.callV (y := mX6_layBack) (As := [.int 0]) (st := []) dX6_check_74 wm_X6_203 mw_X6_layBack rfl (Nat.le_of_ble_eq_true rfl) (rmok d) h6 (by decide) rfl h (fun v2 Sm3 h5 => ?_)
    obtain ⟨m3, rfl, rfl, h⟩ := h5
    show WP G _ _ _ 0 0 77 [(0, .ref b), (1, .int x1), (2, .int x2), (3, .int x3)] [] (sh, ta, m3)
    refine WP.iload_n 3 dX6_check_77 rfl rfl ?_
    refine WP.iload_n 2 dX6_check_78 rfl rfl ?_
    refine WP.icmp_ne (tgt := 86) dX6_check_79 (by decide) (fun c7 => ?_) (fun c7 => ?_)
    · have h := h.1 c7
      refine WP.iconst (v := 1) dX6_check_86 rfl ?_
      refine WP.iload_n 3 dX6_check_87 rfl rfl ?_
      refine WP.iadd dX6_check_88 ?_
      exact WP.iret dX6_check_89 rfl (Nat.le_refl _) (Nat.le_refl _) ⟨_, rfl, h⟩
    · have h := h.2 c7
      refine WP.iconst (v := 0) dX6_check_82 rfl ?_
      refine WP.goto (tgt := 89) dX6_check_83 (by decide) ?_
      exact WP.iret dX6_check_89 rfl (Nat.le_refl _) (Nat.le_refl _) ⟨_, rfl, h⟩
  · have h := h.2 c1
    refine WP.aload_n 0 dX6_check_41 rfl rfl ?_
    obtain ⟨h8, h⟩ := h
    obtain ⟨i9, h10, h⟩ := h
    refine WP.getR 6 0 wf_X6_7 (by decide) (by decide) rfl h8 h10 dX6_check_42 ?_
    refine WP.sipush (v := 478) dX6_check_45 rfl ?_
    refine WP.iload_n 3 dX6_check_48 rfl rfl ?_
    refine WP.iadd dX6_check_49 ?_
    obtain ⟨n12, h11, h⟩ := h
    obtain ⟨h13, h⟩ := h
    refine WP.iald h11 h13 dX6_check_50 ?_
    refine WP.aload_n 0 dX6_check_51 rfl rfl ?_
    refine WP.iload_n 1 dX6_check_52 rfl rfl ?_
    refine WP.callV (y := mX6_does) (As := [.int x1]) (st := [.int (rd (m i9) (478 + x3))]) dX6_check_53 wm_X6_179 mw_X6_does rfl (Nat.le_of_ble_eq_true rfl) (rmok d) h8 (by decide) rfl h (fun v14 Sm15 h17 => ?_)
    obtain ⟨m15, rfl, r16, rfl, h⟩ := h17
    show WP G _ _ _ 0 0 56 [(0, .ref b), (1, .int x1), (2, .int x2), (3, .int x3)] [.int r16, .int (rd (m i9) (478 + x3))] (sh, ta, m15)
    refine WP.icmp_ne (tgt := 72) dX6_check_56 (by decide) (fun c18 => ?_) (fun c18 => ?_)
    · have h := h.1 c18
      refine WP.aload_n 0 dX6_check_72 rfl rfl ?_
      refine WP.iconst (v := 0) dX6_check_73 rfl ?_
      refine WP.callV (y := mX6_layBack) (As := [.int 0]) (st := []) dX6_check_74 wm_X6_203 mw_X6_layBack rfl (Nat.le_of_ble_eq_true rfl) (rmok d) h8 (by decide) rfl h (fun v19 Sm20 h22 => ?_)
      obtain ⟨m20, rfl, rfl, h⟩ := h22
      show WP G _ _ _ 0 0 77 [(0, .ref b), (1, .int x1), (2, .int x2), (3, .int x3)] [] (sh, ta, m20)
      refine WP.iload_n 3 dX6_check_77 rfl rfl ?_
      refine WP.iload_n 2 dX6_check_78 rfl rfl ?_
      refine WP.icmp_ne (tgt := 86) dX6_check_79 (by decide) (fun c23 => ?_) (fun c23 => ?_)
      · have h := h.1 c23
        refine WP.iconst (v := 1) dX6_check_86 rfl ?_
        refine WP.iload_n 3 dX6_check_87 rfl rfl ?_
        refine WP.iadd dX6_check_88 ?_
        exact WP.iret dX6_check_89 rfl (Nat.le_refl _) (Nat.le_refl _) ⟨_, rfl, h⟩
      · have h := h.2 c23
        refine WP.iconst (v := 0) dX6_check_82 rfl ?_
        refine WP.goto (tgt := 89) dX6_check_83 (by decide) ?_
        exact WP.iret dX6_check_89 rfl (Nat.le_refl _) (Nat.le_refl _) ⟨_, rfl, h⟩
    · have h := h.2 c18
      refine WP.aload_n 0 dX6_check_59 rfl rfl ?_
      refine WP.iload_n 1 dX6_check_60 rfl rfl ?_
      refine WP.callV (y := mX6_pulls1) (As := [.int x1]) (st := []) dX6_check_61 wm_X6_183 mw_X6_pulls1 rfl (Nat.le_of_ble_eq_true rfl) (rmok d) h8 (by decide) rfl h (fun v24 Sm25 h27 => ?_)
      obtain ⟨m25, rfl, r26, rfl, h⟩ := h27
      show WP G _ _ _ 0 0 64 [(0, .ref b), (1, .int x1), (2, .int x2), (3, .int x3)] [.int r26] (sh, ta, m25)
      refine WP.istore (lv2 := [(4, .int r26), (0, .ref b), (1, .int x1), (2, .int x2), (3, .int x3)]) dX6_check_64 (by decide) rfl ?_
      refine WP.iinc (lv2 := [(3, .int (x3 + 1)), (4, .int r26), (0, .ref b), (1, .int x1), (2, .int x2)]) 4 1 dX6_check_66 rfl rfl (by decide) rfl ?_
      refine WP.goto (tgt := 36) dX6_check_69 (by decide) ?_
      exact WP.pick [2, 3, 4, 0] rfl h
set_option maxHeartbeats 4000000 in
set_option maxRecDepth 20000 in
theorem rg_X6_ofWon_0 (hG : fl G = false) (b : Nat) (x1 : Int32) (h : WP G (rmD (d + 1) 0 0) mX6_ofWon (QC G sh ta K) 0 0 4 [(0, .ref b), (1, .int x1), (2, .int 0), (3, .int 0)] [] (sh, ta, m)) : WP G (rmD (d + 1) 0 0) mX6_ofWon (QC G sh ta K) 0 0 0 [(0, .ref b), (1, .int x1)] [] (sh, ta, m) := by
  refine WP.iconst (v := 0) dX6_ofWon_0 rfl ?_
  refine WP.istore_n (lv2 := [(2, .int 0), (0, .ref b), (1, .int x1)]) dX6_ofWon_1 rfl (by decide) rfl ?_
  refine WP.iconst (v := 0) dX6_ofWon_2 rfl ?_
  refine WP.istore_n (lv2 := [(3, .int 0), (2, .int 0), (0, .ref b), (1, .int x1)]) dX6_ofWon_3 rfl (by decide) rfl ?_
  exact WP.pick [2, 3, 1, 0] rfl h
set_option maxHeartbeats 4000000 in
set_option maxRecDepth 20000 in
theorem rg_X6_ofWon_4 (hG : fl G = false) (b : Nat) (x1 : Int32) (x2 : Int32) (x3 : Int32) (h : sh[b]? = some (.inl 6) ∧ ∃ i2, ta b 0 = some i2 ∧ ∃ n5, sh[i2]? = some (.inr (0, n5)) ∧ InB 0 n5 ∧ (((rd (m i2) (0 : Int32)) ≤ x3 → K (some (.int x2)) m) ∧ (¬ (rd (m i2) (0 : Int32)) ≤ x3 → Cal G mX6_its d [.ref b, .int x3, .int 3] sh ta m (fun v8 m9 => ∃ r10, v8 = some (.int r10) ∧ ((r10 = ((-1) : Int32) → ((x1 = 0 → WP G (rmD (d + 1) 0 0) mX6_ofWon (QC G sh ta K) 0 0 4 [(0, .ref b), (1, .int x1), (2, .int (x2 + 1)), (3, .int (x3 + 1))] [] (sh, ta, m9)) ∧ (¬ x1 = 0 → Cal G mX6_its d [.ref b, .int x3, .int 2] sh ta m9 (fun v14 m15 => ∃ r16, v14 = some (.int r16) ∧ WP G (rmD (d + 1) 0 0) mX6_ofWon (QC G sh ta K) 0 0 4 [(0, .ref b), (1, .int x1), (2, .int (x2 + r16)), (3, .int (x3 + 1))] [] (sh, ta, m15))))) ∧ (¬ r10 = ((-1) : Int32) → WP G (rmD (d + 1) 0 0) mX6_ofWon (QC G sh ta K) 0 0 4 [(0, .ref b), (1, .int x1), (2, .int (x2 + 0)), (3, .int (x3 + 1))] [] (sh, ta, m9))))))) : WP G (rmD (d + 1) 0 0) mX6_ofWon (QC G sh ta K) 0 0 4 [(0, .ref b), (1, .int x1), (2, .int x2), (3, .int x3)] [] (sh, ta, m) := by
  refine WP.iload_n 3 dX6_ofWon_4 rfl rfl ?_
  refine WP.aload_n 0 dX6_ofWon_5 rfl rfl ?_
  obtain ⟨h1, h⟩ := h
  obtain ⟨i2, h3, h⟩ := h
  refine WP.getR 6 0 wf_X6_7 (by decide) (by decide) rfl h1 h3 dX6_ofWon_6 ?_
  refine WP.iconst (v := 0) dX6_ofWon_9 rfl ?_
  obtain ⟨n5, h4, h⟩ := h
  obtain ⟨h6, h⟩ := h
  refine WP.iald h4 h6 dX6_ofWon_10 ?_
  refine WP.icmp_ge (tgt := 51) dX6_ofWon_11 (by decide) (fun c7 => ?_) (fun c7 => ?_)
  · have h := h.1 c7
    refine WP.iload_n 2 dX6_ofWon_51 rfl rfl ?_
    exact WP.iret dX6_ofWon_52 rfl (Nat.le_refl _) (Nat.le_refl _) ⟨_, rfl, h⟩
  · have h := h.2 c7
    refine WP.iload_n 2 dX6_ofWon_14 rfl rfl ?_
    refine WP.aload_n 0 dX6_ofWon_15 rfl rfl ?_
    refine WP.iload_n 3 dX6_ofWon_16 rfl rfl ?_
    refine WP.iconst (v := 3) dX6_ofWon_17 rfl ?_
    refine WP.callV (y := mX6_its) (As := [.int x3, .int 3]) (st := [.int x2]) dX6_ofWon_18 wm_X6_62 mw_X6_its rfl (Nat.le_of_ble_eq_true rfl) (rmok d) h1 (by decide) rfl h (fun v8 Sm9 h11 => ?_)
    obtain ⟨m9, rfl, r10, rfl, h⟩ := h11
    show WP G _ _ _ 0 0 21 [(0, .ref b), (1, .int x1), (2, .int x2), (3, .int x3)] [.int r10, .int x2] (sh, ta, m9)
    refine WP.iconst (v := (-1)) dX6_ofWon_21 rfl ?_
    refine WP.icmp_eq (tgt := 29) dX6_ofWon_22 (by decide) (fun c12 => ?_) (fun c12 => ?_)
    · have h := h.1 c12
      refine WP.iload_n 1 dX6_ofWon_29 rfl rfl ?_
      refine WP.if_eq (tgt := 42) dX6_ofWon_30 (by decide) (fun c13 => ?_) (fun c13 => ?_)
      · have h := h.1 c13
        refine WP.iconst (v := 1) dX6_ofWon_42 rfl ?_
        refine WP.iadd dX6_ofWon_43 ?_
        refine WP.istore_n (lv2 := [(2, .int (x2 + 1)), (0, .ref b), (1, .int x1), (3, .int x3)]) dX6_ofWon_44 rfl (by decide) rfl ?_
        refine WP.iinc (lv2 := [(3, .int (x3 + 1)), (2, .int (x2 + 1)), (0, .ref b), (1, .int x1)]) 3 1 dX6_ofWon_45 rfl rfl (by decide) rfl ?_
        refine WP.goto (tgt := 4) dX6_ofWon_48 (by decide) ?_
        exact WP.pick [2, 3, 1, 0] rfl h
      · have h := h.2 c13
        refine WP.aload_n 0 dX6_ofWon_33 rfl rfl ?_
        refine WP.iload_n 3 dX6_ofWon_34 rfl rfl ?_
        refine WP.iconst (v := 2) dX6_ofWon_35 rfl ?_
        refine WP.callV (y := mX6_its) (As := [.int x3, .int 2]) (st := [.int x2]) dX6_ofWon_36 wm_X6_62 mw_X6_its rfl (Nat.le_of_ble_eq_true rfl) (rmok d) h1 (by decide) rfl h (fun v14 Sm15 h17 => ?_)
        obtain ⟨m15, rfl, r16, rfl, h⟩ := h17
        show WP G _ _ _ 0 0 39 [(0, .ref b), (1, .int x1), (2, .int x2), (3, .int x3)] [.int r16, .int x2] (sh, ta, m15)
        refine WP.goto (tgt := 43) dX6_ofWon_39 (by decide) ?_
        refine WP.iadd dX6_ofWon_43 ?_
        refine WP.istore_n (lv2 := [(2, .int (x2 + r16)), (0, .ref b), (1, .int x1), (3, .int x3)]) dX6_ofWon_44 rfl (by decide) rfl ?_
        refine WP.iinc (lv2 := [(3, .int (x3 + 1)), (2, .int (x2 + r16)), (0, .ref b), (1, .int x1)]) 3 1 dX6_ofWon_45 rfl rfl (by decide) rfl ?_
        refine WP.goto (tgt := 4) dX6_ofWon_48 (by decide) ?_
        exact WP.pick [2, 3, 1, 0] rfl h
    · have h := h.2 c12
      refine WP.iconst (v := 0) dX6_ofWon_25 rfl ?_
      refine WP.goto (tgt := 43) dX6_ofWon_26 (by decide) ?_
      refine WP.iadd dX6_ofWon_43 ?_
      refine WP.istore_n (lv2 := [(2, .int (x2 + 0)), (0, .ref b), (1, .int x1), (3, .int x3)]) dX6_ofWon_44 rfl (by decide) rfl ?_
      refine WP.iinc (lv2 := [(3, .int (x3 + 1)), (2, .int (x2 + 0)), (0, .ref b), (1, .int x1)]) 3 1 dX6_ofWon_45 rfl rfl (by decide) rfl ?_
      refine WP.goto (tgt := 4) dX6_ofWon_48 (by decide) ?_
      exact WP.pick [2, 3, 1, 0] rfl h
set_option maxHeartbeats 4000000 in
set_option maxRecDepth 20000 in
theorem rg_X6_count_0 (hG : fl G = false) (b : Nat) (x1 : Int32) (h : (((x1.toInt < 0 ∨ 11 < x1.toInt) → sh[b]? = some (.inl 6) ∧ Cal G mX6_error d [.ref b, .int 1] sh ta m (fun v2 m3 => ∃ r4, v2 = some (.int r4) ∧ K (some (.int r4)) m3)) ∧ (x1 = 0 → sh[b]? = some (.inl 6) ∧ ∃ i8, ta b 0 = some i8 ∧ ∃ n11, sh[i8]? = some (.inr (0, n11)) ∧ InB 0 n11 ∧ K (some (.int (rd (m i8) (0 : Int32)))) m) ∧ (x1 = 1 → sh[b]? = some (.inl 6) ∧ ∃ i14, ta b 0 = some i14 ∧ ∃ n17, sh[i14]? = some (.inr (0, n17)) ∧ InB 1 n17 ∧ K (some (.int (rd (m i14) (1 : Int32)))) m) ∧ (x1 = 2 → sh[b]? = some (.inl 6) ∧ ∃ i20, ta b 0 = some i20 ∧ ∃ n23, sh[i20]? = some (.inr (0, n23)) ∧ InB 2 n23 ∧ K (some (.int (rd (m i20) (2 : Int32)))) m) ∧ (x1 = 3 → sh[b]? = some (.inl 6) ∧ Cal G mX6_strengthBehind d [.ref b, .int 0] sh ta m (fun v25 m26 => ∃ r27, v25 = some (.int r27) ∧ K (some (.int r27)) m26)) ∧ (x1 = 4 → sh[b]? = some (.inl 6) ∧ ∃ i31, ta b 0 = some i31 ∧ ∃ n34, sh[i31]? = some (.inr (0, n34)) ∧ InB 3 n34 ∧ K (some (.int (rd (m i31) (3 : Int32)))) m) ∧ (x1 = 5 → sh[b]? = some (.inl 6) ∧ ∃ i37, ta b 0 = some i37 ∧ ∃ n40, sh[i37]? = some (.inr (0, n40)) ∧ InB 4 n40 ∧ K (some (.int (rd (m i37) (4 : Int32)))) m) ∧ (x1 = 6 → sh[b]? = some (.inl 6) ∧ Cal G mX6_ofWon d [.ref b, .int 0] sh ta m (fun v42 m43 => ∃ r44, v42 = some (.int r44) ∧ K (some (.int r44)) m43)) ∧ (x1 = 7 → sh[b]? = some (.inl 6) ∧ Cal G mX6_ofWon d [.ref b, .int 1] sh ta m (fun v47 m48 => ∃ r49, v47 = some (.int r49) ∧ K (some (.int r49)) m48)) ∧ (x1 = 8 → sh[b]? = some (.inl 6) ∧ ∃ i53, ta b 0 = some i53 ∧ ∃ n56, sh[i53]? = some (.inr (0, n56)) ∧ InB 5 n56 ∧ K (some (.int (rd (m i53) (5 : Int32)))) m) ∧ (x1 = 9 → sh[b]? = some (.inl 6) ∧ ∃ i59, ta b 0 = some i59 ∧ ∃ n62, sh[i59]? = some (.inr (0, n62)) ∧ InB 6 n62 ∧ K (some (.int (rd (m i59) (6 : Int32)))) m) ∧ (x1 = 10 → sh[b]? = some (.inl 6) ∧ K (some (.int (m b 15))) m) ∧ (x1 = 11 → sh[b]? = some (.inl 6) ∧ ∃ i66, ta b 0 = some i66 ∧ ∃ n69, sh[i66]? = some (.inr (0, n69)) ∧ InB 7 n69 ∧ K (some (.int (rd (m i66) (7 : Int32)))) m))) : WP G (rmD (d + 1) 0 0) mX6_count (QC G sh ta K) 0 0 0 [(0, .ref b), (1, .int x1)] [] (sh, ta, m) := by
  refine WP.iload_n 1 dX6_count_0 rfl rfl ?_
  by_cases c1 : (x1 : Int32).toInt < 0 ∨ 11 < (x1 : Int32).toInt
  · have h := h.1 c1
    refine WP.tswO (td := 145) dX6_count_1 c1 (by decide) ?_
    refine WP.aload_n 0 dX6_count_145 rfl rfl ?_
    refine WP.iconst (v := 1) dX6_count_146 rfl ?_
    obtain ⟨h6, h⟩ := h
    refine WP.callV (y := mX6_error) (As := [.int 1]) (st := []) dX6_count_147 wm_X6_68 mw_X6_error rfl (Nat.le_of_ble_eq_true rfl) (rmok d) h6 (by decide) rfl h (fun v2 Sm3 h5 => ?_)
    obtain ⟨m3, rfl, r4, rfl, h⟩ := h5
    show WP G _ _ _ 0 0 150 [(0, .ref b), (1, .int x1)] [.int r4] (sh, ta, m3)
    exact WP.iret dX6_count_150 rfl (Nat.le_refl _) (Nat.le_refl _) ⟨_, rfl, h⟩
  rcases (show (x1 : Int32).toInt = 0 ∨ (x1 : Int32).toInt = 1 ∨ (x1 : Int32).toInt = 2 ∨ (x1 : Int32).toInt = 3 ∨ (x1 : Int32).toInt = 4 ∨ (x1 : Int32).toInt = 5 ∨ (x1 : Int32).toInt = 6 ∨ (x1 : Int32).toInt = 7 ∨ (x1 : Int32).toInt = 8 ∨ (x1 : Int32).toInt = 9 ∨ (x1 : Int32).toInt = 10 ∨ (x1 : Int32).toInt = 11 by omega) with c1 | c1 | c1 | c1 | c1 | c1 | c1 | c1 | c1 | c1 | c1 | c1
  · have h := h.2.1 (i32_of c1 rfl)
    refine WP.tswI (td := 64) 0 dX6_count_1 c1 (by decide) rfl (by decide) ?_
    refine WP.aload_n 0 dX6_count_64 rfl rfl ?_
    obtain ⟨h7, h⟩ := h
    obtain ⟨i8, h9, h⟩ := h
    refine WP.getR 6 0 wf_X6_7 (by decide) (by decide) rfl h7 h9 dX6_count_65 ?_
    refine WP.iconst (v := 0) dX6_count_68 rfl ?_
    obtain ⟨n11, h10, h⟩ := h
    obtain ⟨h12, h⟩ := h
    refine WP.iald h10 h12 dX6_count_69 ?_
    exact WP.iret dX6_count_70 rfl (Nat.le_refl _) (Nat.le_refl _) ⟨_, rfl, h⟩
  · have h := h.2.2.1 (i32_of c1 rfl)
    refine WP.tswI (td := 71) 1 dX6_count_1 c1 (by decide) rfl (by decide) ?_
    refine WP.aload_n 0 dX6_count_71 rfl rfl ?_
    obtain ⟨h13, h⟩ := h
    obtain ⟨i14, h15, h⟩ := h
    refine WP.getR 6 0 wf_X6_7 (by decide) (by decide) rfl h13 h15 dX6_count_72 ?_
    refine WP.iconst (v := 1) dX6_count_75 rfl ?_
    obtain ⟨n17, h16, h⟩ := h
    obtain ⟨h18, h⟩ := h
    refine WP.iald h16 h18 dX6_count_76 ?_
    exact WP.iret dX6_count_77 rfl (Nat.le_refl _) (Nat.le_refl _) ⟨_, rfl, h⟩
  · have h := h.2.2.2.1 (i32_of c1 rfl)
    refine WP.tswI (td := 78) 2 dX6_count_1 c1 (by decide) rfl (by decide) ?_
    refine WP.aload_n 0 dX6_count_78 rfl rfl ?_
    obtain ⟨h19, h⟩ := h
    obtain ⟨i20, h21, h⟩ := h
    refine WP.getR 6 0 wf_X6_7 (by decide) (by decide) rfl h19 h21 dX6_count_79 ?_
    refine WP.iconst (v := 2) dX6_count_82 rfl ?_
    obtain ⟨n23, h22, h⟩ := h
    obtain ⟨h24, h⟩ := h
    refine WP.iald h22 h24 dX6_count_83 ?_
    exact WP.iret dX6_count_84 rfl (Nat.le_refl _) (Nat.le_refl _) ⟨_, rfl, h⟩
  · have h := h.2.2.2.2.1 (i32_of c1 rfl)
    refine WP.tswI (td := 85) 3 dX6_count_1 c1 (by decide) rfl (by decide) ?_
    refine WP.aload_n 0 dX6_count_85 rfl rfl ?_
    refine WP.iconst (v := 0) dX6_count_86 rfl ?_
    obtain ⟨h29, h⟩ := h
    refine WP.callV (y := mX6_strengthBehind) (As := [.int 0]) (st := []) dX6_count_87 wm_X6_170 mw_X6_strengthBehind rfl (Nat.le_of_ble_eq_true rfl) (rmok d) h29 (by decide) rfl h (fun v25 Sm26 h28 => ?_)
    obtain ⟨m26, rfl, r27, rfl, h⟩ := h28
    show WP G _ _ _ 0 0 90 [(0, .ref b), (1, .int x1)] [.int r27] (sh, ta, m26)
    exact WP.iret dX6_count_90 rfl (Nat.le_refl _) (Nat.le_refl _) ⟨_, rfl, h⟩
  · have h := h.2.2.2.2.2.1 (i32_of c1 rfl)
    refine WP.tswI (td := 91) 4 dX6_count_1 c1 (by decide) rfl (by decide) ?_
    refine WP.aload_n 0 dX6_count_91 rfl rfl ?_
    obtain ⟨h30, h⟩ := h
    obtain ⟨i31, h32, h⟩ := h
    refine WP.getR 6 0 wf_X6_7 (by decide) (by decide) rfl h30 h32 dX6_count_92 ?_
    refine WP.iconst (v := 3) dX6_count_95 rfl ?_
    obtain ⟨n34, h33, h⟩ := h
    obtain ⟨h35, h⟩ := h
    refine WP.iald h33 h35 dX6_count_96 ?_
    exact WP.iret dX6_count_97 rfl (Nat.le_refl _) (Nat.le_refl _) ⟨_, rfl, h⟩
  · have h := h.2.2.2.2.2.2.1 (i32_of c1 rfl)
    refine WP.tswI (td := 98) 5 dX6_count_1 c1 (by decide) rfl (by decide) ?_
    refine WP.aload_n 0 dX6_count_98 rfl rfl ?_
    obtain ⟨h36, h⟩ := h
    obtain ⟨i37, h38, h⟩ := h
    refine WP.getR 6 0 wf_X6_7 (by decide) (by decide) rfl h36 h38 dX6_count_99 ?_
    refine WP.iconst (v := 4) dX6_count_102 rfl ?_
    obtain ⟨n40, h39, h⟩ := h
    obtain ⟨h41, h⟩ := h
    refine WP.iald h39 h41 dX6_count_103 ?_
    exact WP.iret dX6_count_104 rfl (Nat.le_refl _) (Nat.le_refl _) ⟨_, rfl, h⟩
  · have h := h.2.2.2.2.2.2.2.1 (i32_of c1 rfl)
    refine WP.tswI (td := 105) 6 dX6_count_1 c1 (by decide) rfl (by decide) ?_
    refine WP.aload_n 0 dX6_count_105 rfl rfl ?_
    refine WP.iconst (v := 0) dX6_count_106 rfl ?_
    obtain ⟨h46, h⟩ := h
    refine WP.callV (y := mX6_ofWon) (As := [.int 0]) (st := []) dX6_count_107 wm_X6_271 mw_X6_ofWon rfl (Nat.le_of_ble_eq_true rfl) (rmok d) h46 (by decide) rfl h (fun v42 Sm43 h45 => ?_)
    obtain ⟨m43, rfl, r44, rfl, h⟩ := h45
    show WP G _ _ _ 0 0 110 [(0, .ref b), (1, .int x1)] [.int r44] (sh, ta, m43)
    exact WP.iret dX6_count_110 rfl (Nat.le_refl _) (Nat.le_refl _) ⟨_, rfl, h⟩
  · have h := h.2.2.2.2.2.2.2.2.1 (i32_of c1 rfl)
    refine WP.tswI (td := 111) 7 dX6_count_1 c1 (by decide) rfl (by decide) ?_
    refine WP.aload_n 0 dX6_count_111 rfl rfl ?_
    refine WP.iconst (v := 1) dX6_count_112 rfl ?_
    obtain ⟨h51, h⟩ := h
    refine WP.callV (y := mX6_ofWon) (As := [.int 1]) (st := []) dX6_count_113 wm_X6_271 mw_X6_ofWon rfl (Nat.le_of_ble_eq_true rfl) (rmok d) h51 (by decide) rfl h (fun v47 Sm48 h50 => ?_)
    obtain ⟨m48, rfl, r49, rfl, h⟩ := h50
    show WP G _ _ _ 0 0 116 [(0, .ref b), (1, .int x1)] [.int r49] (sh, ta, m48)
    exact WP.iret dX6_count_116 rfl (Nat.le_refl _) (Nat.le_refl _) ⟨_, rfl, h⟩
  · have h := h.2.2.2.2.2.2.2.2.2.1 (i32_of c1 rfl)
    refine WP.tswI (td := 117) 8 dX6_count_1 c1 (by decide) rfl (by decide) ?_
    refine WP.aload_n 0 dX6_count_117 rfl rfl ?_
    obtain ⟨h52, h⟩ := h
    obtain ⟨i53, h54, h⟩ := h
    refine WP.getR 6 0 wf_X6_7 (by decide) (by decide) rfl h52 h54 dX6_count_118 ?_
    refine WP.iconst (v := 5) dX6_count_121 rfl ?_
    obtain ⟨n56, h55, h⟩ := h
    obtain ⟨h57, h⟩ := h
    refine WP.iald h55 h57 dX6_count_122 ?_
    exact WP.iret dX6_count_123 rfl (Nat.le_refl _) (Nat.le_refl _) ⟨_, rfl, h⟩
  · have h := h.2.2.2.2.2.2.2.2.2.2.1 (i32_of c1 rfl)
    refine WP.tswI (td := 124) 9 dX6_count_1 c1 (by decide) rfl (by decide) ?_
    refine WP.aload_n 0 dX6_count_124 rfl rfl ?_
    obtain ⟨h58, h⟩ := h
    obtain ⟨i59, h60, h⟩ := h
    refine WP.getR 6 0 wf_X6_7 (by decide) (by decide) rfl h58 h60 dX6_count_125 ?_
    refine WP.bipush (v := 6) dX6_count_128 rfl ?_
    obtain ⟨n62, h61, h⟩ := h
    obtain ⟨h63, h⟩ := h
    refine WP.iald h61 h63 dX6_count_130 ?_
    exact WP.iret dX6_count_131 rfl (Nat.le_refl _) (Nat.le_refl _) ⟨_, rfl, h⟩
  · have h := h.2.2.2.2.2.2.2.2.2.2.2.1 (i32_of c1 rfl)
    refine WP.tswI (td := 132) 10 dX6_count_1 c1 (by decide) rfl (by decide) ?_
    refine WP.aload_n 0 dX6_count_132 rfl rfl ?_
    obtain ⟨h64, h⟩ := h
    refine WP.getI 6 15 wf_X6_227 (by decide) (by decide) rfl h64 dX6_count_133 ?_
    exact WP.iret dX6_count_136 rfl (Nat.le_refl _) (Nat.le_refl _) ⟨_, rfl, h⟩
  · have h := h.2.2.2.2.2.2.2.2.2.2.2.2 (i32_of c1 rfl)
    refine WP.tswI (td := 137) 11 dX6_count_1 c1 (by decide) rfl (by decide) ?_
    refine WP.aload_n 0 dX6_count_137 rfl rfl ?_
    obtain ⟨h65, h⟩ := h
    obtain ⟨i66, h67, h⟩ := h
    refine WP.getR 6 0 wf_X6_7 (by decide) (by decide) rfl h65 h67 dX6_count_138 ?_
    refine WP.bipush (v := 7) dX6_count_141 rfl ?_
    obtain ⟨n69, h68, h⟩ := h
    obtain ⟨h70, h⟩ := h
    refine WP.iald h68 h70 dX6_count_143 ?_
    exact WP.iret dX6_count_144 rfl (Nat.le_refl _) (Nat.le_refl _) ⟨_, rfl, h⟩
set_option maxHeartbeats 4000000 in
set_option maxRecDepth 20000 in
theorem rg_X6_told_0 (hG : fl G = false) (b : Nat) (x1 : Int32) (h : Cal G mX6_in d [.int x1, .int 1, .int 6] sh ta m (fun v1 m2 => ∃ r3, v1 = some (.int r3) ∧ ((r3 = 0 → sh[b]? = some (.inl 6) ∧ Cal G mX6_error d [.ref b, .int 1] sh ta m2 (fun v6 m7 => ∃ r8, v6 = some (.int r8) ∧ K (some (.int r8)) m7)) ∧ (¬ r3 = 0 → sh[b]? = some (.inl 6) ∧ ∃ i12, ta b 4 = some i12 ∧ ∃ n15, sh[i12]? = some (.inr (0, n15)) ∧ InB x1 n15 ∧ K (some (.int (rd (m2 i12) x1))) m2)))) : WP G (rmD (d + 1) 0 0) mX6_told (QC G sh ta K) 0 0 0 [(0, .ref b), (1, .int x1)] [] (sh, ta, m) := by
  refine WP.iload_n 1 dX6_told_0 rfl rfl ?_
  refine WP.iconst (v := 1) dX6_told_1 rfl ?_
  refine WP.bipush (v := 6) dX6_told_2 rfl ?_
  refine WP.callS (y := mX6_in) (As := [.int x1, .int 1, .int 6]) (st := []) dX6_told_4 wm_X6_50 mw_X6_in rfl (Nat.le_of_ble_eq_true rfl) (rmok d) rfl h (fun v1 Sm2 h4 => ?_)
  obtain ⟨m2, rfl, r3, rfl, h⟩ := h4
  show WP G _ _ _ 0 0 7 [(0, .ref b), (1, .int x1)] [.int r3] (sh, ta, m2)
  refine WP.if_eq (tgt := 19) dX6_told_7 (by decide) (fun c5 => ?_) (fun c5 => ?_)
  · have h := h.1 c5
    refine WP.aload_n 0 dX6_told_19 rfl rfl ?_
    refine WP.iconst (v := 1) dX6_told_20 rfl ?_
    obtain ⟨h10, h⟩ := h
    refine WP.callV (y := mX6_error) (As := [.int 1]) (st := []) dX6_told_21 wm_X6_68 mw_X6_error rfl (Nat.le_of_ble_eq_true rfl) (rmok d) h10 (by decide) rfl h (fun v6 Sm7 h9 => ?_)
    obtain ⟨m7, rfl, r8, rfl, h⟩ := h9
    show WP G _ _ _ 0 0 24 [(0, .ref b), (1, .int x1)] [.int r8] (sh, ta, m7)
    exact WP.iret dX6_told_24 rfl (Nat.le_refl _) (Nat.le_refl _) ⟨_, rfl, h⟩
  · have h := h.2 c5
    refine WP.aload_n 0 dX6_told_10 rfl rfl ?_
    obtain ⟨h11, h⟩ := h
    obtain ⟨i12, h13, h⟩ := h
    refine WP.getR 6 4 wf_X6_19 (by decide) (by decide) rfl h11 h13 dX6_told_11 ?_
    refine WP.iload_n 1 dX6_told_14 rfl rfl ?_
    obtain ⟨n15, h14, h⟩ := h
    obtain ⟨h16, h⟩ := h
    refine WP.iald h14 h16 dX6_told_15 ?_
    refine WP.goto (tgt := 24) dX6_told_16 (by decide) ?_
    exact WP.iret dX6_told_24 rfl (Nat.le_refl _) (Nat.le_refl _) ⟨_, rfl, h⟩
end
