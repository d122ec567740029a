section
variable {G : Gm} {d : Nat} {sh : List Shp} {ta : Nat → Nat → Option Nat} {m : Mem} {K : Option Value → Mem → Prop}
set_option maxHeartbeats 4000000 in
set_option maxRecDepth 20000 in
theorem rg_X3_isThere_0 (hG : fl G = false) (b : Nat) (h : sh[b]? = some (.inl 3) ∧ ∃ i2, ta b 0 = some i2 ∧ sh[i2]? = some (.inl 2) ∧ (((m i2 1) ≤ 0 → K (some (.int 0)) m) ∧ (¬ (m i2 1) ≤ 0 → K (some (.int 1)) m))) : WP G (rmD (d + 1) 0 0) mX3_isThere (QC G sh ta K) 0 0 0 [(0, .ref b)] [] (sh, ta, m) := by
  refine WP.aload_n 0 dX3_isThere_0 rfl rfl ?_
  obtain ⟨h1, h⟩ := h
  obtain ⟨i2, h3, h⟩ := h
  refine WP.getR 3 0 wf_X3_14 (by decide) (by decide) rfl h1 h3 dX3_isThere_1 ?_
  obtain ⟨h4, h⟩ := h
  refine WP.getIN 2 1 wf_X3_24 (by decide) (by decide) rfl h4 dX3_isThere_4 ?_
  refine WP.if_le (tgt := 14) dX3_isThere_7 (by decide) (fun c5 => ?_) (fun c5 => ?_)
  · have h := h.1 c5
    refine WP.iconst (v := 0) dX3_isThere_14 rfl ?_
    exact WP.zret dX3_isThere_15 rfl (Nat.le_refl _) (Nat.le_refl _) rfl ⟨_, rfl, h⟩
  · have h := h.2 c5
    refine WP.iconst (v := 1) dX3_isThere_10 rfl ?_
    refine WP.goto (tgt := 15) dX3_isThere_11 (by decide) ?_
    exact WP.zret dX3_isThere_15 rfl (Nat.le_refl _) (Nat.le_refl _) rfl ⟨_, rfl, h⟩
set_option maxHeartbeats 4000000 in
set_option maxRecDepth 20000 in
theorem rg_X3_clear_0 (hG : fl G = false) (b : Nat) (h : sh[b]? = some (.inl 3) ∧ ∃ i2, ta b 0 = some i2 ∧ sh[i2]? = some (.inl 2) ∧ Cal G mX2_clear d [.ref i2] sh ta m (fun v4 m5 => v4 = none ∧ K none m5)) : WP G (rmD (d + 1) 0 0) mX3_clear (QC G sh ta K) 0 0 0 [(0, .ref b)] [] (sh, ta, m) := by
  refine WP.aload_n 0 dX3_clear_0 rfl rfl ?_
  obtain ⟨h1, h⟩ := h
  obtain ⟨i2, h3, h⟩ := h
  refine WP.getR 3 0 wf_X3_14 (by decide) (by decide) rfl h1 h3 dX3_clear_1 ?_
  obtain ⟨h8, h⟩ := h
  refine WP.callV (y := mX2_clear) (As := []) (st := []) dX3_clear_4 wm_X3_28 mw_X2_clear rfl (Nat.le_of_ble_eq_true rfl) (rmok d) h8 (by decide) rfl h (fun v4 Sm5 h7 => ?_)
  obtain ⟨m5, rfl, rfl, h⟩ := h7
  show WP G _ _ _ 0 0 7 [(0, .ref b)] [] (sh, ta, m5)
  exact WP.vret dX3_clear_7 rfl (Nat.le_refl _) (Nat.le_refl _) ⟨_, rfl, h⟩
set_option maxHeartbeats 4000000 in
set_option maxRecDepth 20000 in
theorem rg_X3_copyFrom_0 (hG : fl G = false) (b : Nat) (b1 : Nat) (h : sh[b]? = some (.inl 3) ∧ ∃ i2, ta b 0 = some i2 ∧ sh[b1]? = some (.inl 3) ∧ ∃ i5, ta b1 0 = some i5 ∧ sh[i2]? = some (.inl 2) ∧ Cal G mX2_copyFrom d [.ref i2, .ref i5] sh ta m (fun v7 m8 => v7 = none ∧ K none m8)) : WP G (rmD (d + 1) 0 0) mX3_copyFrom (QC G sh ta K) 0 0 0 [(0, .ref b), (1, .ref b1)] [] (sh, ta, m) := by
  refine WP.aload_n 0 dX3_copyFrom_0 rfl rfl ?_
  obtain ⟨h1, h⟩ := h
  obtain ⟨i2, h3, h⟩ := h
  refine WP.getR 3 0 wf_X3_14 (by decide) (by decide) rfl h1 h3 dX3_copyFrom_1 ?_
  refine WP.aload_n 1 dX3_copyFrom_4 rfl rfl ?_
  obtain ⟨h4, h⟩ := h
  obtain ⟨i5, h6, h⟩ := h
  refine WP.getR 3 0 wf_X3_14 (by decide) (by decide) rfl h4 h6 dX3_copyFrom_5 ?_
  obtain ⟨h11, h⟩ := h
  refine WP.callV (y := mX2_copyFrom) (As := [.ref i5]) (st := []) dX3_copyFrom_8 wm_X3_31 mw_X2_copyFrom rfl (Nat.le_of_ble_eq_true rfl) (rmok d) h11 (by decide) rfl h (fun v7 Sm8 h10 => ?_)
  obtain ⟨m8, rfl, rfl, h⟩ := h10
  show WP G _ _ _ 0 0 11 [(0, .ref b), (1, .ref b1)] [] (sh, ta, m8)
  exact WP.vret dX3_copyFrom_11 rfl (Nat.le_refl _) (Nat.le_refl _) ⟨_, rfl, h⟩
set_option maxHeartbeats 4000000 in
set_option maxRecDepth 20000 in
theorem rg_X3_addNumber_0 (hG : fl G = false) (b : Nat) (x1 : Int32) (h : sh[b]? = some (.inl 3) ∧ ∃ i2, ta b 0 = some i2 ∧ sh[i2]? = some (.inl 2) ∧ Cal G mX2_add d [.ref i2, .int x1] sh ta m (fun v4 m5 => v4 = none ∧ K none m5)) : WP G (rmD (d + 1) 0 0) mX3_addNumber (QC G sh ta K) 0 0 0 [(0, .ref b), (1, .int x1)] [] (sh, ta, m) := by
  refine WP.aload_n 0 dX3_addNumber_0 rfl rfl ?_
  obtain ⟨h1, h⟩ := h
  obtain ⟨i2, h3, h⟩ := h
  refine WP.getR 3 0 wf_X3_14 (by decide) (by decide) rfl h1 h3 dX3_addNumber_1 ?_
  refine WP.iload_n 1 dX3_addNumber_4 rfl rfl ?_
  obtain ⟨h8, h⟩ := h
  refine WP.callV (y := mX2_add) (As := [.int x1]) (st := []) dX3_addNumber_5 wm_X3_35 mw_X2_add rfl (Nat.le_of_ble_eq_true rfl) (rmok d) h8 (by decide) rfl h (fun v4 Sm5 h7 => ?_)
  obtain ⟨m5, rfl, rfl, h⟩ := h7
  show WP G _ _ _ 0 0 8 [(0, .ref b), (1, .int x1)] [] (sh, ta, m5)
  exact WP.vret dX3_addNumber_8 rfl (Nat.le_refl _) (Nat.le_refl _) ⟨_, rfl, h⟩
set_option maxHeartbeats 4000000 in
set_option maxRecDepth 20000 in
theorem rg_X3_addName_0 (hG : fl G = false) (b : Nat) (x1 : Int32) (h : sh[b]? = some (.inl 3) ∧ ∃ i2, ta b 0 = some i2 ∧ sh[i2]? = some (.inl 2) ∧ Cal G mX2_add d [.ref i2, .int (((-1)) - x1)] sh ta m (fun v4 m5 => v4 = none ∧ K none m5)) : WP G (rmD (d + 1) 0 0) mX3_addName (QC G sh ta K) 0 0 0 [(0, .ref b), (1, .int x1)] [] (sh, ta, m) := by
  refine WP.aload_n 0 dX3_addName_0 rfl rfl ?_
  obtain ⟨h1, h⟩ := h
  obtain ⟨i2, h3, h⟩ := h
  refine WP.getR 3 0 wf_X3_14 (by decide) (by decide) rfl h1 h3 dX3_addName_1 ?_
  refine WP.iconst (v := (-1)) dX3_addName_4 rfl ?_
  refine WP.iload_n 1 dX3_addName_5 rfl rfl ?_
  refine WP.isub dX3_addName_6 ?_
  obtain ⟨h8, h⟩ := h
  refine WP.callV (y := mX2_add) (As := [.int (((-1)) - x1)]) (st := []) dX3_addName_7 wm_X3_35 mw_X2_add rfl (Nat.le_of_ble_eq_true rfl) (rmok d) h8 (by decide) rfl h (fun v4 Sm5 h7 => ?_)
  obtain ⟨m5, rfl, rfl, h⟩ := h7
  show WP G _ _ _ 0 0 10 [(0, .ref b), (1, .int x1)] [] (sh, ta, m5)
  exact WP.vret dX3_addName_10 rfl (Nat.le_refl _) (Nat.le_refl _) ⟨_, rfl, h⟩
set_option maxHeartbeats 4000000 in
set_option maxRecDepth 20000 in
theorem rg_X3_addSign_0 (hG : fl G = false) (b : Nat) (x1 : Int32) (h : sh[b]? = some (.inl 3) ∧ ∃ i2, ta b 0 = some i2 ∧ sh[i2]? = some (.inl 2) ∧ Cal G mX2_add d [.ref i2, .int (-x1)] sh ta m (fun v4 m5 => v4 = none ∧ K none m5)) : WP G (rmD (d + 1) 0 0) mX3_addSign (QC G sh ta K) 0 0 0 [(0, .ref b), (1, .int x1)] [] (sh, ta, m) := by
  refine WP.aload_n 0 dX3_addSign_0 rfl rfl ?_
  obtain ⟨h1, h⟩ := h
  obtain ⟨i2, h3, h⟩ := h
  refine WP.getR 3 0 wf_X3_14 (by decide) (by decide) rfl h1 h3 dX3_addSign_1 ?_
  refine WP.iload_n 1 dX3_addSign_4 rfl rfl ?_
  refine WP.ineg dX3_addSign_5 ?_
  obtain ⟨h8, h⟩ := h
  refine WP.callV (y := mX2_add) (As := [.int (-x1)]) (st := []) dX3_addSign_6 wm_X3_35 mw_X2_add rfl (Nat.le_of_ble_eq_true rfl) (rmok d) h8 (by decide) rfl h (fun v4 Sm5 h7 => ?_)
  obtain ⟨m5, rfl, rfl, h⟩ := h7
  show WP G _ _ _ 0 0 9 [(0, .ref b), (1, .int x1)] [] (sh, ta, m5)
  exact WP.vret dX3_addSign_9 rfl (Nat.le_refl _) (Nat.le_refl _) ⟨_, rfl, h⟩
set_option maxHeartbeats 4000000 in
set_option maxRecDepth 20000 in
theorem rg_X3_value_0 (hG : fl G = false) (b : Nat) (x1 : Int32) (x2 : Int32) (x3 : Int32) (x4 : Int32) (h : sh[b]? = some (.inl 3) ∧ ∀ m2, m2 = up2 m b 2 0 → WP G (rmD (d + 1) 0 0) mX3_value (QC G sh ta K) 0 0 8 [(0, .ref b), (1, .int x1), (2, .int x2), (3, .int x3), (4, .int x4), (5, .int 0)] [] (sh, ta, m2)) : WP G (rmD (d + 1) 0 0) mX3_value (QC G sh ta K) 0 0 0 [(0, .ref b), (1, .int x1), (2, .int x2), (3, .int x3), (4, .int x4)] [] (sh, ta, m) := by
  refine WP.aload_n 0 dX3_value_0 rfl rfl ?_
  refine WP.iconst (v := 0) dX3_value_1 rfl ?_
  obtain ⟨h1, h⟩ := h
  have h := h _ rfl
  refine WP.putI 3 2 wf_X3_38 (by decide) (by decide) rfl h1 rfl rfl rfl dX3_value_2 ?_
  generalize up2 m b 2 0 = m2 at h ⊢
  refine WP.iconst (v := 0) dX3_value_5 rfl ?_
  refine WP.istore (lv2 := [(5, .int 0), (0, .ref b), (1, .int x1), (2, .int x2), (3, .int x3), (4, .int x4)]) dX3_value_6 (by decide) rfl ?_
  exact WP.pick [1, 2, 3, 4, 5, 0] rfl h
set_option maxHeartbeats 4000000 in
set_option maxRecDepth 20000 in
theorem rg_X3_value_8 (hG : fl G = false) (b : Nat) (x1 : Int32) (x2 : Int32) (x3 : Int32) (x4 : Int32) (x5 : Int32) (h : sh[b]? = some (.inl 3) ∧ ∃ i2, ta b 0 = some i2 ∧ sh[i2]? = some (.inl 2) ∧ (((m i2 1) ≤ x5 → Cal G mX3_pop d [.ref b] sh ta m (fun v6 m7 => ∃ r8, v6 = some (.int r8) ∧ K (some (.int r8)) m7)) ∧ (¬ (m i2 1) ≤ x5 → Cal G mX2_at d [.ref i2, .int x5] sh ta m (fun v10 m11 => ∃ r12, v10 = some (.int r12) ∧ ((r12 < 0 → ((r12 < ((-4) : Int32) → ((¬ r12 = ((-33) : Int32) → Cal G mX3_pop d [.ref b] sh ta m11 (fun v17 m18 => ∃ r19, v17 = some (.int r19) ∧ Cal G mX3_pop d [.ref b] sh ta m18 (fun v21 m22 => ∃ r23, v21 = some (.int r23) ∧ Cal G mX3_joined d [.int (-r12), .int r23, .int r19] sh ta m22 (fun v25 m26 => ∃ r27, v25 = some (.int r27) ∧ Cal G mX3_push d [.ref b, .int r27] sh ta m26 (fun v29 m30 => v29 = none ∧ WP G (rmD (d + 1) 0 0) mX3_value (QC G sh ta K) 0 0 8 [(0, .ref b), (1, .int x1), (2, .int x2), (3, .int x3), (4, .int x4), (5, .int (x5 + 1))] [] (sh, ta, m30)))))) ∧ (r12 = ((-33) : Int32) → Cal G mX3_pop d [.ref b] sh ta m11 (fun v33 m34 => ∃ r35, v33 = some (.int r35) ∧ ((¬ r35 = 0 → Cal G mX3_push d [.ref b, .int 0] sh ta m34 (fun v38 m39 => v38 = none ∧ WP G (rmD (d + 1) 0 0) mX3_value (QC G sh ta K) 0 0 8 [(0, .ref b), (1, .int x1), (2, .int x2), (3, .int x3), (4, .int x4), (5, .int (x5 + 1))] [] (sh, ta, m39))) ∧ (r35 = 0 → Cal G mX3_push d [.ref b, .int 1] sh ta m34 (fun v42 m43 => v42 = none ∧ WP G (rmD (d + 1) 0 0) mX3_value (QC G sh ta K) 0 0 8 [(0, .ref b), (1, .int x1), (2, .int x2), (3, .int x3), (4, .int x4), (5, .int (x5 + 1))] [] (sh, ta, m43)))))))) ∧ (¬ r12 < ((-4) : Int32) → Cal G mX3_named d [.int r12, .int x1, .int x2, .int x3, .int x4] sh ta m11 (fun v46 m47 => ∃ r48, v46 = some (.int r48) ∧ Cal G mX3_push d [.ref b, .int r48] sh ta m47 (fun v50 m51 => v50 = none ∧ WP G (rmD (d + 1) 0 0) mX3_value (QC G sh ta K) 0 0 8 [(0, .ref b), (1, .int x1), (2, .int x2), (3, .int x3), (4, .int x4), (5, .int (x5 + 1))] [] (sh, ta, m51)))))) ∧ (¬ r12 < 0 → Cal G mX3_push d [.ref b, .int r12] sh ta m11 (fun v54 m55 => v54 = none ∧ WP G (rmD (d + 1) 0 0) mX3_value (QC G sh ta K) 0 0 8 [(0, .ref b), (1, .int x1), (2, .int x2), (3, .int x3), (4, .int x4), (5, .int (x5 + 1))] [] (sh, ta, m55)))))))) : WP G (rmD (d + 1) 0 0) mX3_value (QC G sh ta K) 0 0 8 [(0, .ref b), (1, .int x1), (2, .int x2), (3, .int x3), (4, .int x4), (5, .int x5)] [] (sh, ta, m) := by
  refine WP.iload 5 dX3_value_8 rfl ?_
  refine WP.aload_n 0 dX3_value_10 rfl rfl ?_
  obtain ⟨h1, h⟩ := h
  obtain ⟨i2, h3, h⟩ := h
  refine WP.getR 3 0 wf_X3_14 (by decide) (by decide) rfl h1 h3 dX3_value_11 ?_
  obtain ⟨h4, h⟩ := h
  refine WP.getIN 2 1 wf_X3_24 (by decide) (by decide) rfl h4 dX3_value_14 ?_
  refine WP.icmp_ge (tgt := 123) dX3_value_17 (by decide) (fun c5 => ?_) (fun c5 => ?_)
  · have h := h.1 c5
    refine WP.aload_n 0 dX3_value_123 rfl rfl ?_
    refine WP.callV (y := mX3_pop) (As := []) (st := []) dX3_value_124 wm_X3_52 mw_X3_pop rfl (Nat.le_of_ble_eq_true rfl) (rmok d) h1 (by decide) rfl h (fun v6 Sm7 h9 => ?_)
    obtain ⟨m7, rfl, r8, rfl, h⟩ := h9
    show WP G _ _ _ 0 0 127 [(0, .ref b), (1, .int x1), (2, .int x2), (3, .int x3), (4, .int x4), (5, .int x5)] [.int r8] (sh, ta, m7)
    exact WP.iret dX3_value_127 rfl (Nat.le_refl _) (Nat.le_refl _) ⟨_, rfl, h⟩
  · have h := h.2 c5
    refine WP.aload_n 0 dX3_value_20 rfl rfl ?_
    refine WP.getR 3 0 wf_X3_14 (by decide) (by decide) rfl h1 h3 dX3_value_21 ?_
    refine WP.iload 5 dX3_value_24 rfl ?_
    refine WP.callV (y := mX2_at) (As := [.int x5]) (st := []) dX3_value_26 wm_X3_41 mw_X2_at rfl (Nat.le_of_ble_eq_true rfl) (rmok d) h4 (by decide) rfl h (fun v10 Sm11 h13 => ?_)
    obtain ⟨m11, rfl, r12, rfl, h⟩ := h13
    show WP G _ _ _ 0 0 29 [(0, .ref b), (1, .int x1), (2, .int x2), (3, .int x3), (4, .int x4), (5, .int x5)] [.int r12] (sh, ta, m11)
    refine WP.istore (lv2 := [(6, .int r12), (0, .ref b), (1, .int x1), (2, .int x2), (3, .int x3), (4, .int x4), (5, .int x5)]) dX3_value_29 (by decide) rfl ?_
    refine WP.iload 0 dX3_value_31 rfl ?_
    refine WP.if_lt (tgt := 45) dX3_value_33 (by decide) (fun c14 => ?_) (fun c14 => ?_)
    · have h := h.1 c14
      refine WP.iload 0 dX3_value_45 rfl ?_
      refine WP.bipush (v := (-4)) dX3_value_47 rfl ?_
      refine WP.icmp_lt (tgt := 69) dX3_value_49 (by decide) (fun c15 => ?_) (fun c15 => ?_)
      · have h := h.1 c15
        refine WP.iload 0 dX3_value_69 rfl ?_
        refine WP.bipush (v := (-33)) dX3_value_71 rfl ?_
        refine WP.icmp_ne (tgt := 95) dX3_value_73 (by decide) (fun c16 => ?_) (fun c16 => ?_)
        · have h := h.1 c16
          refine WP.aload_n 1 dX3_value_95 rfl rfl ?_
          refine WP.callV (y := mX3_pop) (As := []) (st := []) dX3_value_96 wm_X3_52 mw_X3_pop rfl (Nat.le_of_ble_eq_true rfl) (rmok d) h1 (by decide) rfl h (fun v17 Sm18 h20 => ?_)
          obtain ⟨m18, rfl, r19, rfl, h⟩ := h20
          show WP G _ _ _ 0 0 99 [(6, .int r12), (0, .ref b), (1, .int x1), (2, .int x2), (3, .int x3), (4, .int x4), (5, .int x5)] [.int r19] (sh, ta, m18)
          refine WP.istore (lv2 := [(7, .int r19), (6, .int r12), (0, .ref b), (1, .int x1), (2, .int x2), (3, .int x3), (4, .int x4), (5, .int x5)]) dX3_value_99 (by decide) rfl ?_
          refine WP.aload_n 2 dX3_value_101 rfl rfl ?_
          refine WP.iload 1 dX3_value_102 rfl ?_
          refine WP.ineg dX3_value_104 ?_
          refine WP.aload_n 2 dX3_value_105 rfl rfl ?_
          refine WP.callV (y := mX3_pop) (As := []) (st := [.int (-r12), .ref b]) dX3_value_106 wm_X3_52 mw_X3_pop rfl (Nat.le_of_ble_eq_true rfl) (rmok d) h1 (by decide) rfl h (fun v21 Sm22 h24 => ?_)
          obtain ⟨m22, rfl, r23, rfl, h⟩ := h24
          show WP G _ _ _ 0 0 109 [(7, .int r19), (6, .int r12), (0, .ref b), (1, .int x1), (2, .int x2), (3, .int x3), (4, .int x4), (5, .int x5)] [.int r23, .int (-r12), .ref b] (sh, ta, m22)
          refine WP.iload 0 dX3_value_109 rfl ?_
          refine WP.callS (y := mX3_joined) (As := [.int (-r12), .int r23, .int r19]) (st := [.ref b]) dX3_value_111 wm_X3_56 mw_X3_joined rfl (Nat.le_of_ble_eq_true rfl) (rmok d) rfl h (fun v25 Sm26 h28 => ?_)
          obtain ⟨m26, rfl, r27, rfl, h⟩ := h28
          show WP G _ _ _ 0 0 114 [(7, .int r19), (6, .int r12), (0, .ref b), (1, .int x1), (2, .int x2), (3, .int x3), (4, .int x4), (5, .int x5)] [.int r27, .ref b] (sh, ta, m26)
          refine WP.callV (y := mX3_push) (As := [.int r27]) (st := []) dX3_value_114 wm_X3_45 mw_X3_push rfl (Nat.le_of_ble_eq_true rfl) (rmok d) h1 (by decide) rfl h (fun v29 Sm30 h32 => ?_)
          obtain ⟨m30, rfl, rfl, h⟩ := h32
          show WP G _ _ _ 0 0 117 [(7, .int r19), (6, .int r12), (0, .ref b), (1, .int x1), (2, .int x2), (3, .int x3), (4, .int x4), (5, .int x5)] [] (sh, ta, m30)
          refine WP.iinc (lv2 := [(5, .int (x5 + 1)), (7, .int r19), (6, .int r12), (0, .ref b), (1, .int x1), (2, .int x2), (3, .int x3), (4, .int x4)]) 7 1 dX3_value_117 rfl rfl (by decide) rfl ?_
          refine WP.goto (tgt := 8) dX3_value_120 (by decide) ?_
          exact WP.pick [3, 4, 5, 6, 7, 0] rfl h
        · have h := h.2 c16
          refine WP.aload_n 1 dX3_value_76 rfl rfl ?_
          refine WP.aload_n 1 dX3_value_77 rfl rfl ?_
          refine WP.callV (y := mX3_pop) (As := []) (st := [.ref b]) dX3_value_78 wm_X3_52 mw_X3_pop rfl (Nat.le_of_ble_eq_true rfl) (rmok d) h1 (by decide) rfl h (fun v33 Sm34 h36 => ?_)
          obtain ⟨m34, rfl, r35, rfl, h⟩ := h36
          show WP G _ _ _ 0 0 81 [(6, .int r12), (0, .ref b), (1, .int x1), (2, .int x2), (3, .int x3), (4, .int x4), (5, .int x5)] [.int r35, .ref b] (sh, ta, m34)
          refine WP.if_ne (tgt := 88) dX3_value_81 (by decide) (fun c37 => ?_) (fun c37 => ?_)
          · have h := h.1 c37
            refine WP.iconst (v := 0) dX3_value_88 rfl ?_
            refine WP.callV (y := mX3_push) (As := [.int 0]) (st := []) dX3_value_89 wm_X3_45 mw_X3_push rfl (Nat.le_of_ble_eq_true rfl) (rmok d) h1 (by decide) rfl h (fun v38 Sm39 h41 => ?_)
            obtain ⟨m39, rfl, rfl, h⟩ := h41
            show WP G _ _ _ 0 0 92 [(6, .int r12), (0, .ref b), (1, .int x1), (2, .int x2), (3, .int x3), (4, .int x4), (5, .int x5)] [] (sh, ta, m39)
            refine WP.goto (tgt := 117) dX3_value_92 (by decide) ?_
            refine WP.iinc (lv2 := [(5, .int (x5 + 1)), (6, .int r12), (0, .ref b), (1, .int x1), (2, .int x2), (3, .int x3), (4, .int x4)]) 6 1 dX3_value_117 rfl rfl (by decide) rfl ?_
            refine WP.goto (tgt := 8) dX3_value_120 (by decide) ?_
            exact WP.pick [2, 3, 4, 5, 6, 0] rfl h
          · have h := h.2 c37
            refine WP.iconst (v := 1) dX3_value_84 rfl ?_
            refine WP.goto (tgt := 89) dX3_value_85 (by decide) ?_
            refine WP.callV (y := mX3_push) (As := [.int 1]) (st := []) dX3_value_89 wm_X3_45 mw_X3_push rfl (Nat.le_of_ble_eq_true rfl) (rmok d) h1 (by decide) rfl h (fun v42 Sm43 h45 => ?_)
            obtain ⟨m43, rfl, rfl, h⟩ := h45
            show WP G _ _ _ 0 0 92 [(6, .int r12), (0, .ref b), (1, .int x1), (2, .int x2), (3, .int x3), (4, .int x4), (5, .int x5)] [] (sh, ta, m43)
            refine WP.goto (tgt := 117) dX3_value_92 (by decide) ?_
            refine WP.iinc (lv2 := [(5, .int (x5 + 1)), (6, .int r12), (0, .ref b), (1, .int x1), (2, .int x2), (3, .int x3), (4, .int x4)]) 6 1 dX3_value_117 rfl rfl (by decide) rfl ?_
            refine WP.goto (tgt := 8) dX3_value_120 (by decide) ?_
            exact WP.pick [2, 3, 4, 5, 6, 0] rfl h
      · have h := h.2 c15
        refine WP.aload_n 1 dX3_value_52 rfl rfl ?_
        refine WP.iload 0 dX3_value_53 rfl ?_
        refine WP.iload_n 2 dX3_value_55 rfl rfl ?_
        refine WP.iload_n 3 dX3_value_56 rfl rfl ?_
        refine WP.iload_n 4 dX3_value_57 rfl rfl ?_
        refine WP.iload 5 dX3_value_58 rfl ?_
        refine WP.callS (y := mX3_named) (As := [.int r12, .int x1, .int x2, .int x3, .int x4]) (st := [.ref b]) dX3_value_60 wm_X3_48 mw_X3_named rfl (Nat.le_of_ble_eq_true rfl) (rmok d) rfl h (fun v46 Sm47 h49 => ?_)
        obtain ⟨m47, rfl, r48, rfl, h⟩ := h49
        show WP G _ _ _ 0 0 63 [(6, .int r12), (0, .ref b), (1, .int x1), (2, .int x2), (3, .int x3), (4, .int x4), (5, .int x5)] [.int r48, .ref b] (sh, ta, m47)
        refine WP.callV (y := mX3_push) (As := [.int r48]) (st := []) dX3_value_63 wm_X3_45 mw_X3_push rfl (Nat.le_of_ble_eq_true rfl) (rmok d) h1 (by decide) rfl h (fun v50 Sm51 h53 => ?_)
        obtain ⟨m51, rfl, rfl, h⟩ := h53
        show WP G _ _ _ 0 0 66 [(6, .int r12), (0, .ref b), (1, .int x1), (2, .int x2), (3, .int x3), (4, .int x4), (5, .int x5)] [] (sh, ta, m51)
        refine WP.goto (tgt := 117) dX3_value_66 (by decide) ?_
        refine WP.iinc (lv2 := [(5, .int (x5 + 1)), (6, .int r12), (0, .ref b), (1, .int x1), (2, .int x2), (3, .int x3), (4, .int x4)]) 6 1 dX3_value_117 rfl rfl (by decide) rfl ?_
        refine WP.goto (tgt := 8) dX3_value_120 (by decide) ?_
        exact WP.pick [2, 3, 4, 5, 6, 0] rfl h
    · have h := h.2 c14
      refine WP.aload_n 1 dX3_value_36 rfl rfl ?_
      refine WP.iload 0 dX3_value_37 rfl ?_
      refine WP.callV (y := mX3_push) (As := [.int r12]) (st := []) dX3_value_39 wm_X3_45 mw_X3_push rfl (Nat.le_of_ble_eq_true rfl) (rmok d) h1 (by decide) rfl h (fun v54 Sm55 h57 => ?_)
      obtain ⟨m55, rfl, rfl, h⟩ := h57
      show WP G _ _ _ 0 0 42 [(6, .int r12), (0, .ref b), (1, .int x1), (2, .int x2), (3, .int x3), (4, .int x4), (5, .int x5)] [] (sh, ta, m55)
      refine WP.goto (tgt := 117) dX3_value_42 (by decide) ?_
      refine WP.iinc (lv2 := [(5, .int (x5 + 1)), (6, .int r12), (0, .ref b), (1, .int x1), (2, .int x2), (3, .int x3), (4, .int x4)]) 6 1 dX3_value_117 rfl rfl (by decide) rfl ?_
      refine WP.goto (tgt := 8) dX3_value_120 (by decide) ?_
      exact WP.pick [2, 3, 4, 5, 6, 0] rfl h
set_option maxHeartbeats 4000000 in
set_option maxRecDepth 20000 in
theorem rg_X3_push_0 (hG : fl G = false) (b : Nat) (x1 : Int32) (h : sh[b]? = some (.inl 3) ∧ ∃ i2, ta b 1 = some i2 ∧ ∃ n5, sh[i2]? = some (.inr (0, n5)) ∧ (((Int32.ofNat n5) ≤ (m b 2) → K none m) ∧ (¬ (Int32.ofNat n5) ≤ (m b 2) → InB (m b 2) n5 ∧ ∀ m8, m8 = upa m i2 (m b 2) x1 → ∀ m9, m9 = up2 m8 b 2 ((m8 b 2) + 1) → K none m9))) : WP G (rmD (d + 1) 0 0) mX3_push (QC G sh ta K) 0 0 0 [(0, .ref b), (1, .int x1)] [] (sh, ta, m) := by
  refine WP.aload_n 0 dX3_push_0 rfl rfl ?_
  obtain ⟨h1, h⟩ := h
  refine WP.getI 3 2 wf_X3_38 (by decide) (by decide) rfl h1 dX3_push_1 ?_
  refine WP.aload_n 0 dX3_push_4 rfl rfl ?_
  obtain ⟨i2, h3, h⟩ := h
  refine WP.getR 3 1 wf_X3_20 (by decide) (by decide) rfl h1 h3 dX3_push_5 ?_
  obtain ⟨n5, h4, h⟩ := h
  refine WP.alen (Int32.ofNat n5) h4 rfl dX3_push_8 ?_
  refine WP.icmp_ge (tgt := 32) dX3_push_9 (by decide) (fun c6 => ?_) (fun c6 => ?_)
  · have h := h.1 c6
    exact WP.vret dX3_push_32 rfl (Nat.le_refl _) (Nat.le_refl _) ⟨_, rfl, h⟩
  · have h := h.2 c6
    refine WP.aload_n 0 dX3_push_12 rfl rfl ?_
    refine WP.getR 3 1 wf_X3_20 (by decide) (by decide) rfl h1 h3 dX3_push_13 ?_
    refine WP.aload_n 0 dX3_push_16 rfl rfl ?_
    refine WP.getI 3 2 wf_X3_38 (by decide) (by decide) rfl h1 dX3_push_17 ?_
    refine WP.iload_n 1 dX3_push_20 rfl rfl ?_
    obtain ⟨h7, h⟩ := h
    have h := h _ rfl
    refine WP.iast h4 h7 dX3_push_21 ?_
    generalize upa m i2 (m b 2) x1 = m8 at h ⊢
    refine WP.aload_n 0 dX3_push_22 rfl rfl ?_
    refine WP.dup dX3_push_23 rfl ?_
    refine WP.getI 3 2 wf_X3_38 (by decide) (by decide) rfl h1 dX3_push_24 ?_
    refine WP.iconst (v := 1) dX3_push_27 rfl ?_
    refine WP.iadd dX3_push_28 ?_
    have h := h _ rfl
    refine WP.putI 3 2 wf_X3_38 (by decide) (by decide) rfl h1 rfl rfl rfl dX3_push_29 ?_
    generalize up2 m8 b 2 ((m8 b 2) + 1) = m9 at h ⊢
    exact WP.vret dX3_push_32 rfl (Nat.le_refl _) (Nat.le_refl _) ⟨_, rfl, h⟩
set_option maxHeartbeats 4000000 in
set_option maxRecDepth 20000 in
theorem rg_X3_pop_0 (hG : fl G = false) (b : Nat) (h : sh[b]? = some (.inl 3) ∧ ((0 < (m b 2) → ∀ m3, m3 = up2 m b 2 ((m b 2) - 1) → ∃ i4, ta b 1 = some i4 ∧ ∃ n7, sh[i4]? = some (.inr (0, n7)) ∧ InB (m3 b 2) n7 ∧ K (some (.int (rd (m3 i4) (m3 b 2)))) m3) ∧ (¬ 0 < (m b 2) → K (some (.int 0)) m))) : WP G (rmD (d + 1) 0 0) mX3_pop (QC G sh ta K) 0 0 0 [(0, .ref b)] [] (sh, ta, m) := by
  refine WP.aload_n 0 dX3_pop_0 rfl rfl ?_
  obtain ⟨h1, h⟩ := h
  refine WP.getI 3 2 wf_X3_38 (by decide) (by decide) rfl h1 dX3_pop_1 ?_
  refine WP.if_gt (tgt := 9) dX3_pop_4 (by decide) (fun c2 => ?_) (fun c2 => ?_)
  · have h := h.1 c2
    refine WP.aload_n 0 dX3_pop_9 rfl rfl ?_
    refine WP.dup dX3_pop_10 rfl ?_
    refine WP.getI 3 2 wf_X3_38 (by decide) (by decide) rfl h1 dX3_pop_11 ?_
    refine WP.iconst (v := 1) dX3_pop_14 rfl ?_
    refine WP.isub dX3_pop_15 ?_
    have h := h _ rfl
    refine WP.putI 3 2 wf_X3_38 (by decide) (by decide) rfl h1 rfl rfl rfl dX3_pop_16 ?_
    generalize up2 m b 2 ((m b 2) - 1) = m3 at h ⊢
    refine WP.aload_n 0 dX3_pop_19 rfl rfl ?_
    obtain ⟨i4, h5, h⟩ := h
    refine WP.getR 3 1 wf_X3_20 (by decide) (by decide) rfl h1 h5 dX3_pop_20 ?_
    refine WP.aload_n 0 dX3_pop_23 rfl rfl ?_
    refine WP.getI 3 2 wf_X3_38 (by decide) (by decide) rfl h1 dX3_pop_24 ?_
    obtain ⟨n7, h6, h⟩ := h
    obtain ⟨h8, h⟩ := h
    refine WP.iald h6 h8 dX3_pop_27 ?_
    exact WP.iret dX3_pop_28 rfl (Nat.le_refl _) (Nat.le_refl _) ⟨_, rfl, h⟩
  · have h := h.2 c2
    refine WP.iconst (v := 0) dX3_pop_7 rfl ?_
    exact WP.iret dX3_pop_8 rfl (Nat.le_refl _) (Nat.le_refl _) ⟨_, rfl, h⟩
set_option maxHeartbeats 4000000 in
set_option maxRecDepth 20000 in
theorem rg_X3_named_0 (hG : fl G = false) (x0 : Int32) (x1 : Int32) (x2 : Int32) (x3 : Int32) (x4 : Int32) (h : (((x0.toInt < -3 ∨ -1 < x0.toInt) → K (some (.int x4)) m) ∧ (x0 = (-3) → K (some (.int x3)) m) ∧ (x0 = (-2) → K (some (.int x2)) m) ∧ (x0 = (-1) → K (some (.int x1)) m))) : WP G (rmD (d + 1) 0 0) mX3_named (QC G sh ta K) 0 0 0 [(0, .int x0), (1, .int x1), (2, .int x2), (3, .int x3), (4, .int x4)] [] (sh, ta, m) := by
  refine WP.iload_n 0 dX3_named_0 rfl rfl ?_
  by_cases c1 : (x0 : Int32).toInt < -3 ∨ -1 < (x0 : Int32).toInt
  · have h := h.1 c1
    refine WP.tswO (td := 34) dX3_named_1 c1 (by decide) ?_
    refine WP.iload 4 dX3_named_34 rfl ?_
    exact WP.iret dX3_named_36 rfl (Nat.le_refl _) (Nat.le_refl _) ⟨_, rfl, h⟩
  rcases (show (x0 : Int32).toInt = -3 ∨ (x0 : Int32).toInt = -2 ∨ (x0 : Int32).toInt = -1 by omega) with c1 | c1 | c1
  · have h := h.2.1 (i32_of c1 rfl)
    refine WP.tswI (td := 32) 0 dX3_named_1 c1 (by decide) rfl (by decide) ?_
    refine WP.iload_n 3 dX3_named_32 rfl rfl ?_
    exact WP.iret dX3_named_33 rfl (Nat.le_refl _) (Nat.le_refl _) ⟨_, rfl, h⟩
  · have h := h.2.2.1 (i32_of c1 rfl)
    refine WP.tswI (td := 30) 1 dX3_named_1 c1 (by decide) rfl (by decide) ?_
    refine WP.iload_n 2 dX3_named_30 rfl rfl ?_
    exact WP.iret dX3_named_31 rfl (Nat.le_refl _) (Nat.le_refl _) ⟨_, rfl, h⟩
  · have h := h.2.2.2 (i32_of c1 rfl)
    refine WP.tswI (td := 28) 2 dX3_named_1 c1 (by decide) rfl (by decide) ?_
    refine WP.iload_n 1 dX3_named_28 rfl rfl ?_
    exact WP.iret dX3_named_29 rfl (Nat.le_refl _) (Nat.le_refl _) ⟨_, rfl, h⟩
set_option maxHeartbeats 4000000 in
set_option maxRecDepth 20000 in
theorem rg_X3_joined_0 (hG : fl G = false) (x0 : Int32) (x1 : Int32) (x2 : Int32) (h : ((x0 = 38 → ((x1 = 0 → K (some (.int 0)) m) ∧ (¬ x1 = 0 → ((x2 = 0 → K (some (.int 0)) m) ∧ (¬ x2 = 0 → K (some (.int 1)) m))))) ∧ (x0 = 42 → K (some (.int (x1 * x2))) m) ∧ (x0 = 43 → K (some (.int (x1 + x2))) m) ∧ (x0 = 45 → K (some (.int (x1 - x2))) m) ∧ (x0 = 47 → ((¬ x2 = 0 → ¬ (x2 : Int32) = 0 ∧ K (some (.int (x1 / x2))) m) ∧ (x2 = 0 → K (some (.int 0)) m))) ∧ (x0 = 60 → ((x2 ≤ x1 → K (some (.int 0)) m) ∧ (¬ x2 ≤ x1 → K (some (.int 1)) m))) ∧ (x0 = 61 → ((¬ x1 = x2 → K (some (.int 0)) m) ∧ (x1 = x2 → K (some (.int 1)) m))) ∧ (x0 = 62 → ((x1 ≤ x2 → K (some (.int 0)) m) ∧ (¬ x1 ≤ x2 → K (some (.int 1)) m))) ∧ (x0 = 124 → ((¬ x1 = 0 → K (some (.int 1)) m) ∧ (x1 = 0 → ((x2 = 0 → K (some (.int 0)) m) ∧ (¬ x2 = 0 → K (some (.int 1)) m))))) ∧ (¬ x0 = 38 → ¬ x0 = 42 → ¬ x0 = 43 → ¬ x0 = 45 → ¬ x0 = 47 → ¬ x0 = 60 → ¬ x0 = 61 → ¬ x0 = 62 → ¬ x0 = 124 → ((¬ x2 = 0 → ¬ (x2 : Int32) = 0 ∧ K (some (.int (x1 - x1 / x2 * x2))) m) ∧ (x2 = 0 → K (some (.int 0)) m))))) : WP G (rmD (d + 1) 0 0) mX3_joined (QC G sh ta K) 0 0 0 [(0, .int x0), (1, .int x1), (2, .int x2)] [] (sh, ta, m) := by
  refine WP.iload_n 0 dX3_joined_0 rfl rfl ?_
  by_cases c1 : x0 = 38
  · have h := h.1 c1
    refine WP.lsw (off := 97) (tgt := 98) dX3_joined_1 (by decide +kernel) (by rw [c1]; rfl) (by decide) ?_
    refine WP.iload_n 1 dX3_joined_98 rfl rfl ?_
    refine WP.if_eq (tgt := 110) dX3_joined_99 (by decide) (fun c2 => ?_) (fun c2 => ?_)
    · have h := h.1 c2
      refine WP.iconst (v := 0) dX3_joined_110 rfl ?_
      exact WP.iret dX3_joined_111 rfl (Nat.le_refl _) (Nat.le_refl _) ⟨_, rfl, h⟩
    · have h := h.2 c2
      refine WP.iload_n 2 dX3_joined_102 rfl rfl ?_
      refine WP.if_eq (tgt := 110) dX3_joined_103 (by decide) (fun c3 => ?_) (fun c3 => ?_)
      · have h := h.1 c3
        refine WP.iconst (v := 0) dX3_joined_110 rfl ?_
        exact WP.iret dX3_joined_111 rfl (Nat.le_refl _) (Nat.le_refl _) ⟨_, rfl, h⟩
      · have h := h.2 c3
        refine WP.iconst (v := 1) dX3_joined_106 rfl ?_
        refine WP.goto (tgt := 111) dX3_joined_107 (by decide) ?_
        exact WP.iret dX3_joined_111 rfl (Nat.le_refl _) (Nat.le_refl _) ⟨_, rfl, h⟩
  by_cases c4 : x0 = 42
  · have h := h.2.1 c4
    refine WP.lsw (off := 152) (tgt := 153) dX3_joined_1 (by decide +kernel) (by rw [c4]; rfl) (by decide) ?_
    refine WP.iload_n 1 dX3_joined_153 rfl rfl ?_
    refine WP.iload_n 2 dX3_joined_154 rfl rfl ?_
    refine WP.imul dX3_joined_155 ?_
    exact WP.iret dX3_joined_156 rfl (Nat.le_refl _) (Nat.le_refl _) ⟨_, rfl, h⟩
  by_cases c5 : x0 = 43
  · have h := h.2.2.1 c5
    refine WP.lsw (off := 144) (tgt := 145) dX3_joined_1 (by decide +kernel) (by rw [c5]; rfl) (by decide) ?_
    refine WP.iload_n 1 dX3_joined_145 rfl rfl ?_
    refine WP.iload_n 2 dX3_joined_146 rfl rfl ?_
    refine WP.iadd dX3_joined_147 ?_
    exact WP.iret dX3_joined_148 rfl (Nat.le_refl _) (Nat.le_refl _) ⟨_, rfl, h⟩
  by_cases c6 : x0 = 45
  · have h := h.2.2.2.1 c6
    refine WP.lsw (off := 148) (tgt := 149) dX3_joined_1 (by decide +kernel) (by rw [c6]; rfl) (by decide) ?_
    refine WP.iload_n 1 dX3_joined_149 rfl rfl ?_
    refine WP.iload_n 2 dX3_joined_150 rfl rfl ?_
    refine WP.isub dX3_joined_151 ?_
    exact WP.iret dX3_joined_152 rfl (Nat.le_refl _) (Nat.le_refl _) ⟨_, rfl, h⟩
  by_cases c7 : x0 = 47
  · have h := h.2.2.2.2.1 c7
    refine WP.lsw (off := 156) (tgt := 157) dX3_joined_1 (by decide +kernel) (by rw [c7]; rfl) (by decide) ?_
    refine WP.iload_n 2 dX3_joined_157 rfl rfl ?_
    refine WP.if_ne (tgt := 165) dX3_joined_158 (by decide) (fun c8 => ?_) (fun c8 => ?_)
    · have h := h.1 c8
      refine WP.iload_n 1 dX3_joined_165 rfl rfl ?_
      refine WP.iload_n 2 dX3_joined_166 rfl rfl ?_
      obtain ⟨h9, h⟩ := h
      refine WP.idiv dX3_joined_167 h9 ?_
      exact WP.iret dX3_joined_168 rfl (Nat.le_refl _) (Nat.le_refl _) ⟨_, rfl, h⟩
    · have h := h.2 c8
      refine WP.iconst (v := 0) dX3_joined_161 rfl ?_
      refine WP.goto (tgt := 168) dX3_joined_162 (by decide) ?_
      exact WP.iret dX3_joined_168 rfl (Nat.le_refl _) (Nat.le_refl _) ⟨_, rfl, h⟩
  by_cases c10 : x0 = 60
  · have h := h.2.2.2.2.2.1 c10
    refine WP.lsw (off := 111) (tgt := 112) dX3_joined_1 (by decide +kernel) (by rw [c10]; rfl) (by decide) ?_
    refine WP.iload_n 1 dX3_joined_112 rfl rfl ?_
    refine WP.iload_n 2 dX3_joined_113 rfl rfl ?_
    refine WP.icmp_ge (tgt := 121) dX3_joined_114 (by decide) (fun c11 => ?_) (fun c11 => ?_)
    · have h := h.1 c11
      refine WP.iconst (v := 0) dX3_joined_121 rfl ?_
      exact WP.iret dX3_joined_122 rfl (Nat.le_refl _) (Nat.le_refl _) ⟨_, rfl, h⟩
    · have h := h.2 c11
      refine WP.iconst (v := 1) dX3_joined_117 rfl ?_
      refine WP.goto (tgt := 122) dX3_joined_118 (by decide) ?_
      exact WP.iret dX3_joined_122 rfl (Nat.le_refl _) (Nat.le_refl _) ⟨_, rfl, h⟩
  by_cases c12 : x0 = 61
  · have h := h.2.2.2.2.2.2.1 c12
    refine WP.lsw (off := 122) (tgt := 123) dX3_joined_1 (by decide +kernel) (by rw [c12]; rfl) (by decide) ?_
    refine WP.iload_n 1 dX3_joined_123 rfl rfl ?_
    refine WP.iload_n 2 dX3_joined_124 rfl rfl ?_
    refine WP.icmp_ne (tgt := 132) dX3_joined_125 (by decide) (fun c13 => ?_) (fun c13 => ?_)
    · have h := h.1 c13
      refine WP.iconst (v := 0) dX3_joined_132 rfl ?_
      exact WP.iret dX3_joined_133 rfl (Nat.le_refl _) (Nat.le_refl _) ⟨_, rfl, h⟩
    · have h := h.2 c13
      refine WP.iconst (v := 1) dX3_joined_128 rfl ?_
      refine WP.goto (tgt := 133) dX3_joined_129 (by decide) ?_
      exact WP.iret dX3_joined_133 rfl (Nat.le_refl _) (Nat.le_refl _) ⟨_, rfl, h⟩
  by_cases c14 : x0 = 62
  · have h := h.2.2.2.2.2.2.2.1 c14
    refine WP.lsw (off := 133) (tgt := 134) dX3_joined_1 (by decide +kernel) (by rw [c14]; rfl) (by decide) ?_
    refine WP.iload_n 1 dX3_joined_134 rfl rfl ?_
    refine WP.iload_n 2 dX3_joined_135 rfl rfl ?_
    refine WP.icmp_le (tgt := 143) dX3_joined_136 (by decide) (fun c15 => ?_) (fun c15 => ?_)
    · have h := h.1 c15
      refine WP.iconst (v := 0) dX3_joined_143 rfl ?_
      exact WP.iret dX3_joined_144 rfl (Nat.le_refl _) (Nat.le_refl _) ⟨_, rfl, h⟩
    · have h := h.2 c15
      refine WP.iconst (v := 1) dX3_joined_139 rfl ?_
      refine WP.goto (tgt := 144) dX3_joined_140 (by decide) ?_
      exact WP.iret dX3_joined_144 rfl (Nat.le_refl _) (Nat.le_refl _) ⟨_, rfl, h⟩
  by_cases c16 : x0 = 124
  · have h := h.2.2.2.2.2.2.2.2.1 c16
    refine WP.lsw (off := 83) (tgt := 84) dX3_joined_1 (by decide +kernel) (by rw [c16]; rfl) (by decide) ?_
    refine WP.iload_n 1 dX3_joined_84 rfl rfl ?_
    refine WP.if_ne (tgt := 92) dX3_joined_85 (by decide) (fun c17 => ?_) (fun c17 => ?_)
    · have h := h.1 c17
      refine WP.iconst (v := 1) dX3_joined_92 rfl ?_
      refine WP.goto (tgt := 97) dX3_joined_93 (by decide) ?_
      exact WP.iret dX3_joined_97 rfl (Nat.le_refl _) (Nat.le_refl _) ⟨_, rfl, h⟩
    · have h := h.2 c17
      refine WP.iload_n 2 dX3_joined_88 rfl rfl ?_
      refine WP.if_eq (tgt := 96) dX3_joined_89 (by decide) (fun c18 => ?_) (fun c18 => ?_)
      · have h := h.1 c18
        refine WP.iconst (v := 0) dX3_joined_96 rfl ?_
        exact WP.iret dX3_joined_97 rfl (Nat.le_refl _) (Nat.le_refl _) ⟨_, rfl, h⟩
      · have h := h.2 c18
        refine WP.iconst (v := 1) dX3_joined_92 rfl ?_
        refine WP.goto (tgt := 97) dX3_joined_93 (by decide) ?_
        exact WP.iret dX3_joined_97 rfl (Nat.le_refl _) (Nat.le_refl _) ⟨_, rfl, h⟩
  have h := h.2.2.2.2.2.2.2.2.2 c1 c4 c5 c6 c7 c10 c12 c14 c16
  refine WP.lsw (off := 168) (tgt := 169) dX3_joined_1 (by decide +kernel) (by show Op.lookupswitch.offset [(38, 97), (42, 152), (43, 144), (45, 148), (47, 156), (60, 111), (61, 122), (62, 133), (124, 83)] 168 (x0 : Int32).toInt = _; rw [lv_osw (k := 38) (a := 38) c1 rfl, lv_osw (k := 42) (a := 42) c4 rfl, lv_osw (k := 43) (a := 43) c5 rfl, lv_osw (k := 45) (a := 45) c6 rfl, lv_osw (k := 47) (a := 47) c7 rfl, lv_osw (k := 60) (a := 60) c10 rfl, lv_osw (k := 61) (a := 61) c12 rfl, lv_osw (k := 62) (a := 62) c14 rfl, lv_osw (k := 124) (a := 124) c16 rfl]; rfl) (by decide) ?_
  refine WP.iload_n 2 dX3_joined_169 rfl rfl ?_
  refine WP.if_ne (tgt := 177) dX3_joined_170 (by decide) (fun c19 => ?_) (fun c19 => ?_)
  · have h := h.1 c19
    refine WP.iload_n 1 dX3_joined_177 rfl rfl ?_
    refine WP.iload_n 2 dX3_joined_178 rfl rfl ?_
    obtain ⟨h20, h⟩ := h
    refine WP.irem dX3_joined_179 h20 ?_
    exact WP.iret dX3_joined_180 rfl (Nat.le_refl _) (Nat.le_refl _) ⟨_, rfl, h⟩
  · have h := h.2 c19
    refine WP.iconst (v := 0) dX3_joined_173 rfl ?_
    refine WP.goto (tgt := 180) dX3_joined_174 (by decide) ?_
    exact WP.iret dX3_joined_180 rfl (Nat.le_refl _) (Nat.le_refl _) ⟨_, rfl, h⟩
end
