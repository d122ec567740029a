section
variable {G : Gm} {d : Nat} {sh : List Shp} {ta : Nat → Nat → Option Nat} {m : Mem} {K : Option Value → Mem → Prop}
set_option maxHeartbeats 4000000 in
set_option maxRecDepth 20000 in
theorem rg_X4_begin_0 (hG : fl G = false) (b : Nat) (x1 : Int32) (x2 : Int32) (x3 : Int32) (x4 : Int32) (x5 : Int32) (h : sh[b]? = some (.inl 4) ∧ ∀ m2, m2 = up2 m b 1 x1 → ∀ m3, m3 = up2 m2 b 2 x2 → ∀ m4, m4 = up2 m3 b 3 x3 → ∀ m5, m5 = up2 m4 b 4 0 → ∃ i6, ta b 0 = some i6 ∧ sh[i6]? = some (.inl 2) ∧ Cal G mX2_clear d [.ref i6] sh ta m5 (fun v8 m9 => v8 = none ∧ Cal G mX4_speak d [.ref b, .int x1, .int x4, .int x5, .int 0] sh ta m9 (fun v13 m14 => ∃ r15, v13 = some (.int r15) ∧ ∀ m17, m17 = up2 m14 b 5 r15 → ((¬ (m17 b 4) = 0 → K (some (.int 0)) m17) ∧ ((m17 b 4) = 0 → K (some (.int 1)) m17))))) : WP G (rmD (d + 1) 0 0) mX4_begin (QC G sh ta K) 0 0 0 [(0, .ref b), (1, .int x1), (2, .int x2), (3, .int x3), (4, .int x4), (5, .int x5)] [] (sh, ta, m) := by
  refine WP.aload_n 0 dX4_begin_0 rfl rfl ?_
  refine WP.iload_n 1 dX4_begin_1 rfl rfl ?_
  obtain ⟨h1, h⟩ := h
  have h := h _ rfl
  refine WP.putI 4 1 wf_X4_20 (by decide) (by decide) rfl h1 rfl rfl rfl dX4_begin_2 ?_
  generalize up2 m b 1 x1 = m2 at h ⊢
  refine WP.aload_n 0 dX4_begin_5 rfl rfl ?_
  refine WP.iload_n 2 dX4_begin_6 rfl rfl ?_
  have h := h _ rfl
  refine WP.putI 4 2 wf_X4_24 (by decide) (by decide) rfl h1 rfl rfl rfl dX4_begin_7 ?_
  generalize up2 m2 b 2 x2 = m3 at h ⊢
  refine WP.aload_n 0 dX4_begin_10 rfl rfl ?_
  refine WP.iload_n 3 dX4_begin_11 rfl rfl ?_
  have h := h _ rfl
  refine WP.putI 4 3 wf_X4_27 (by decide) (by decide) rfl h1 rfl rfl rfl dX4_begin_12 ?_
  generalize up2 m3 b 3 x3 = m4 at h ⊢
  refine WP.aload_n 0 dX4_begin_15 rfl rfl ?_
  refine WP.iconst (v := 0) dX4_begin_16 rfl ?_
  have h := h _ rfl
  refine WP.putI 4 4 wf_X4_30 (by decide) (by decide) rfl h1 rfl rfl rfl dX4_begin_17 ?_
  generalize up2 m4 b 4 0 = m5 at h ⊢
  refine WP.aload_n 0 dX4_begin_20 rfl rfl ?_
  obtain ⟨i6, h7, h⟩ := h
  refine WP.getR 4 0 wf_X4_14 (by decide) (by decide) rfl h1 h7 dX4_begin_21 ?_
  obtain ⟨h12, h⟩ := h
  refine WP.callV (y := mX2_clear) (As := []) (st := []) dX4_begin_24 wm_X4_34 mw_X2_clear rfl (Nat.le_of_ble_eq_true rfl) (rmok d) h12 (by decide) rfl h (fun v8 Sm9 h11 => ?_)
  obtain ⟨m9, rfl, rfl, h⟩ := h11
  show WP G _ _ _ 0 0 27 [(0, .ref b), (1, .int x1), (2, .int x2), (3, .int x3), (4, .int x4), (5, .int x5)] [] (sh, ta, m9)
  refine WP.aload_n 0 dX4_begin_27 rfl rfl ?_
  refine WP.aload_n 0 dX4_begin_28 rfl rfl ?_
  refine WP.iload_n 1 dX4_begin_29 rfl rfl ?_
  refine WP.iload 4 dX4_begin_30 rfl ?_
  refine WP.iload 5 dX4_begin_32 rfl ?_
  refine WP.iconst (v := 0) dX4_begin_34 rfl ?_
  refine WP.callV (y := mX4_speak) (As := [.int x1, .int x4, .int x5, .int 0]) (st := [.ref b]) dX4_begin_35 wm_X4_37 mw_X4_speak rfl (Nat.le_of_ble_eq_true rfl) (rmok d) h1 (by decide) rfl h (fun v13 Sm14 h16 => ?_)
  obtain ⟨m14, rfl, r15, rfl, h⟩ := h16
  show WP G _ _ _ 0 0 38 [(0, .ref b), (1, .int x1), (2, .int x2), (3, .int x3), (4, .int x4), (5, .int x5)] [.int r15, .ref b] (sh, ta, m14)
  have h := h _ rfl
  refine WP.putI 4 5 wf_X4_41 (by decide) (by decide) rfl h1 rfl rfl rfl dX4_begin_38 ?_
  generalize up2 m14 b 5 r15 = m17 at h ⊢
  refine WP.aload_n 0 dX4_begin_41 rfl rfl ?_
  refine WP.getI 4 4 wf_X4_30 (by decide) (by decide) rfl h1 dX4_begin_42 ?_
  refine WP.if_ne (tgt := 52) dX4_begin_45 (by decide) (fun c18 => ?_) (fun c18 => ?_)
  · have h := h.1 c18
    refine WP.iconst (v := 0) dX4_begin_52 rfl ?_
    exact WP.zret dX4_begin_53 rfl (Nat.le_refl _) (Nat.le_refl _) rfl ⟨_, rfl, h⟩
  · have h := h.2 c18
    refine WP.iconst (v := 1) dX4_begin_48 rfl ?_
    refine WP.goto (tgt := 53) dX4_begin_49 (by decide) ?_
    exact WP.zret dX4_begin_53 rfl (Nat.le_refl _) (Nat.le_refl _) rfl ⟨_, rfl, h⟩
set_option maxHeartbeats 4000000 in
set_option maxRecDepth 20000 in
theorem rg_X4_bodyOf_0 (hG : fl G = false) (x0 : Int32) (x1 : Int32) (h : ((((4 * x0) + x1) < 0 → K (some (.int 0)) m) ∧ (¬ ((4 * x0) + x1) < 0 → (((28 : Int32) ≤ ((4 * x0) + x1) → K (some (.int 0)) m) ∧ (¬ (28 : Int32) ≤ ((4 * x0) + x1) → InB ((4 * x0) + x1) 28 ∧ K (some (.int (bodiesT ((4 * x0) + x1 : Int32).toNatClampNeg))) m))))) : WP G (rmD (d + 1) 0 0) mX4_bodyOf (QC G sh ta K) 0 0 0 [(0, .int x0), (1, .int x1)] [] (sh, ta, m) := by
  refine WP.iconst (v := 4) dX4_bodyOf_0 rfl ?_
  refine WP.iload_n 0 dX4_bodyOf_1 rfl rfl ?_
  refine WP.imul dX4_bodyOf_2 ?_
  refine WP.iload_n 1 dX4_bodyOf_3 rfl rfl ?_
  refine WP.iadd dX4_bodyOf_4 ?_
  refine WP.istore_n (lv2 := [(2, .int ((4 * x0) + x1)), (0, .int x0), (1, .int x1)]) dX4_bodyOf_5 rfl (by decide) rfl ?_
  refine WP.iload_n 0 dX4_bodyOf_6 rfl rfl ?_
  refine WP.if_lt (tgt := 26) dX4_bodyOf_7 (by decide) (fun c1 => ?_) (fun c1 => ?_)
  · have h := h.1 c1
    refine WP.iconst (v := 0) dX4_bodyOf_26 rfl ?_
    exact WP.iret dX4_bodyOf_27 rfl (Nat.le_refl _) (Nat.le_refl _) ⟨_, rfl, h⟩
  · have h := h.2 c1
    refine WP.iload_n 0 dX4_bodyOf_10 rfl rfl ?_
    refine WP.getBodies wf_X4_44 dX4_bodyOf_11 ?_
    refine WP.alenBodies dX4_bodyOf_14 ?_
    refine WP.icmp_ge (tgt := 26) dX4_bodyOf_15 (by decide) (fun c2 => ?_) (fun c2 => ?_)
    · have h := h.1 c2
      refine WP.iconst (v := 0) dX4_bodyOf_26 rfl ?_
      exact WP.iret dX4_bodyOf_27 rfl (Nat.le_refl _) (Nat.le_refl _) ⟨_, rfl, h⟩
    · have h := h.2 c2
      refine WP.getBodies wf_X4_44 dX4_bodyOf_18 ?_
      refine WP.iload_n 0 dX4_bodyOf_21 rfl rfl ?_
      obtain ⟨h3, h⟩ := h
      refine WP.ialdBodies h3 dX4_bodyOf_22 ?_
      refine WP.goto (tgt := 27) dX4_bodyOf_23 (by decide) ?_
      exact WP.iret dX4_bodyOf_27 rfl (Nat.le_refl _) (Nat.le_refl _) ⟨_, rfl, h⟩
set_option maxHeartbeats 4000000 in
set_option maxRecDepth 20000 in
theorem rg_X4_speak_0 (hG : fl G = false) (b : Nat) (x1 : Int32) (x2 : Int32) (x3 : Int32) (x4 : Int32) (h : WP G (rmD (d + 1) 0 0) mX4_speak (QC G sh ta K) 0 0 6 [(0, .ref b), (2, .int x2), (3, .int x3), (4, .int x4), (5, .int x1), (6, .int 0)] [] (sh, ta, m)) : WP G (rmD (d + 1) 0 0) mX4_speak (QC G sh ta K) 0 0 0 [(0, .ref b), (1, .int x1), (2, .int x2), (3, .int x3), (4, .int x4)] [] (sh, ta, m) := by
  refine WP.iload_n 1 dX4_speak_0 rfl rfl ?_
  refine WP.istore (lv2 := [(5, .int x1), (0, .ref b), (1, .int x1), (2, .int x2), (3, .int x3), (4, .int x4)]) dX4_speak_1 (by decide) rfl ?_
  refine WP.iconst (v := 0) dX4_speak_3 rfl ?_
  refine WP.istore (lv2 := [(6, .int 0), (5, .int x1), (0, .ref b), (1, .int x1), (2, .int x2), (3, .int x3), (4, .int x4)]) dX4_speak_4 (by decide) rfl ?_
  exact WP.pick [2, 4, 5, 6, 1, 0] rfl h
set_option maxHeartbeats 4000000 in
set_option maxRecDepth 20000 in
theorem rg_X4_speak_6 (hG : fl G = false) (b : Nat) (x2 : Int32) (x3 : Int32) (x4 : Int32) (x5 : Int32) (x6 : Int32) (h : (((7 : Int32) ≤ x6 → sh[b]? = some (.inl 4) ∧ ((¬ (m b 4) = 0 → K (some (.int 0)) m) ∧ ((m b 4) = 0 → ((x4 ≤ (12 : Int32) → Cal G mX4_bodyOf d [.int x5, .int x2] sh ta m (fun v5 m6 => ∃ r7, v5 = some (.int r7) ∧ ∃ i9, ta b 0 = some i9 ∧ sh[i9]? = some (.inl 2) ∧ Cal G mX2_add d [.ref i9, .int r7] sh ta m6 (fun v11 m12 => v11 = none ∧ Cal G mX5_kindAbove d [.int x5] sh ta m12 (fun v16 m17 => ∃ r18, v16 = some (.int r18) ∧ Cal G mX4_say d [.ref b, .int r7, .int r18, .int x3, .int (x4 + 1)] sh ta m17 (fun v20 m21 => ∃ r22, v20 = some (.int r22) ∧ K (some (.int r22)) m21))))) ∧ (¬ x4 ≤ (12 : Int32) → K (some (.int 0)) m))))) ∧ (¬ (7 : Int32) ≤ x6 → ((x5 ≤ 0 → sh[b]? = some (.inl 4) ∧ ((¬ (m b 4) = 0 → K (some (.int 0)) m) ∧ ((m b 4) = 0 → ((x4 ≤ (12 : Int32) → Cal G mX4_bodyOf d [.int x5, .int x2] sh ta m (fun v28 m29 => ∃ r30, v28 = some (.int r30) ∧ ∃ i32, ta b 0 = some i32 ∧ sh[i32]? = some (.inl 2) ∧ Cal G mX2_add d [.ref i32, .int r30] sh ta m29 (fun v34 m35 => v34 = none ∧ Cal G mX5_kindAbove d [.int x5] sh ta m35 (fun v39 m40 => ∃ r41, v39 = some (.int r41) ∧ Cal G mX4_say d [.ref b, .int r30, .int r41, .int x3, .int (x4 + 1)] sh ta m40 (fun v43 m44 => ∃ r45, v43 = some (.int r45) ∧ K (some (.int r45)) m44))))) ∧ (¬ x4 ≤ (12 : Int32) → K (some (.int 0)) m))))) ∧ (¬ x5 ≤ 0 → Cal G mX4_bodyOf d [.int x5, .int x2] sh ta m (fun v47 m48 => ∃ r49, v47 = some (.int r49) ∧ ((¬ r49 = 0 → sh[b]? = some (.inl 4) ∧ ((¬ (m48 b 4) = 0 → K (some (.int 0)) m48) ∧ ((m48 b 4) = 0 → ((x4 ≤ (12 : Int32) → Cal G mX4_bodyOf d [.int x5, .int x2] sh ta m48 (fun v55 m56 => ∃ r57, v55 = some (.int r57) ∧ ∃ i59, ta b 0 = some i59 ∧ sh[i59]? = some (.inl 2) ∧ Cal G mX2_add d [.ref i59, .int r57] sh ta m56 (fun v61 m62 => v61 = none ∧ Cal G mX5_kindAbove d [.int x5] sh ta m62 (fun v66 m67 => ∃ r68, v66 = some (.int r68) ∧ Cal G mX4_say d [.ref b, .int r57, .int r68, .int x3, .int (x4 + 1)] sh ta m67 (fun v70 m71 => ∃ r72, v70 = some (.int r72) ∧ K (some (.int r72)) m71))))) ∧ (¬ x4 ≤ (12 : Int32) → K (some (.int 0)) m48))))) ∧ (r49 = 0 → Cal G mX5_kindAbove d [.int x5] sh ta m48 (fun v74 m75 => ∃ r76, v74 = some (.int r76) ∧ WP G (rmD (d + 1) 0 0) mX4_speak (QC G sh ta K) 0 0 6 [(0, .ref b), (2, .int x2), (3, .int x3), (4, .int x4), (5, .int r76), (6, .int (x6 + 1))] [] (sh, ta, m75)))))))))) : WP G (rmD (d + 1) 0 0) mX4_speak (QC G sh ta K) 0 0 6 [(0, .ref b), (2, .int x2), (3, .int x3), (4, .int x4), (5, .int x5), (6, .int x6)] [] (sh, ta, m) := by
  refine WP.iload 5 dX4_speak_6 rfl ?_
  refine WP.bipush (v := 7) dX4_speak_8 rfl ?_
  refine WP.icmp_ge (tgt := 40) dX4_speak_10 (by decide) (fun c1 => ?_) (fun c1 => ?_)
  · have h := h.1 c1
    refine WP.aload_n 0 dX4_speak_40 rfl rfl ?_
    obtain ⟨h2, h⟩ := h
    refine WP.getI 4 4 wf_X4_30 (by decide) (by decide) rfl h2 dX4_speak_41 ?_
    refine WP.if_ne (tgt := 54) dX4_speak_44 (by decide) (fun c3 => ?_) (fun c3 => ?_)
    · have h := h.1 c3
      refine WP.iconst (v := 0) dX4_speak_54 rfl ?_
      exact WP.iret dX4_speak_55 rfl (Nat.le_refl _) (Nat.le_refl _) ⟨_, rfl, h⟩
    · have h := h.2 c3
      refine WP.iload 3 dX4_speak_47 rfl ?_
      refine WP.bipush (v := 12) dX4_speak_49 rfl ?_
      refine WP.icmp_le (tgt := 56) dX4_speak_51 (by decide) (fun c4 => ?_) (fun c4 => ?_)
      · have h := h.1 c4
        refine WP.iload 4 dX4_speak_56 rfl ?_
        refine WP.iload_n 1 dX4_speak_58 rfl rfl ?_
        refine WP.callS (y := mX4_bodyOf) (As := [.int x5, .int x2]) (st := []) dX4_speak_59 wm_X4_48 mw_X4_bodyOf rfl (Nat.le_of_ble_eq_true rfl) (rmok d) rfl h (fun v5 Sm6 h8 => ?_)
        obtain ⟨m6, rfl, r7, rfl, h⟩ := h8
        show WP G _ _ _ 0 0 62 [(0, .ref b), (2, .int x2), (3, .int x3), (4, .int x4), (5, .int x5), (6, .int x6)] [.int r7] (sh, ta, m6)
        refine WP.istore (lv2 := [(6, .int r7), (0, .ref b), (2, .int x2), (3, .int x3), (4, .int x4), (5, .int x5)]) dX4_speak_62 (by decide) rfl ?_
        refine WP.aload_n 1 dX4_speak_64 rfl rfl ?_
        obtain ⟨i9, h10, h⟩ := h
        refine WP.getR 4 0 wf_X4_14 (by decide) (by decide) rfl h2 h10 dX4_speak_65 ?_
        refine WP.iload 0 dX4_speak_68 rfl ?_
        obtain ⟨h15, h⟩ := h
        refine WP.callV (y := mX2_add) (As := [.int r7]) (st := []) dX4_speak_70 wm_X4_56 mw_X2_add rfl (Nat.le_of_ble_eq_true rfl) (rmok d) h15 (by decide) rfl h (fun v11 Sm12 h14 => ?_)
        obtain ⟨m12, rfl, rfl, h⟩ := h14
        show WP G _ _ _ 0 0 73 [(6, .int r7), (0, .ref b), (2, .int x2), (3, .int x3), (4, .int x4), (5, .int x5)] [] (sh, ta, m12)
        refine WP.aload_n 1 dX4_speak_73 rfl rfl ?_
        refine WP.iload 0 dX4_speak_74 rfl ?_
        refine WP.iload 5 dX4_speak_76 rfl ?_
        refine WP.callSN (y := mX5_kindAbove) (As := [.int x5]) (st := [.int r7, .ref b]) dX4_speak_78 wm_X4_52 mw_X5_kindAbove rfl (Nat.le_of_ble_eq_true rfl) (rmok d) h (fun v16 Sm17 h19 => ?_)
        obtain ⟨m17, rfl, r18, rfl, h⟩ := h19
        show WP G _ _ _ 0 0 81 [(6, .int r7), (0, .ref b), (2, .int x2), (3, .int x3), (4, .int x4), (5, .int x5)] [.int r18, .int r7, .ref b] (sh, ta, m17)
        refine WP.iload_n 3 dX4_speak_81 rfl rfl ?_
        refine WP.iload 4 dX4_speak_82 rfl ?_
        refine WP.iconst (v := 1) dX4_speak_84 rfl ?_
        refine WP.iadd dX4_speak_85 ?_
        refine WP.callV (y := mX4_say) (As := [.int r7, .int r18, .int x3, .int (x4 + 1)]) (st := []) dX4_speak_86 wm_X4_59 mw_X4_say rfl (Nat.le_of_ble_eq_true rfl) (rmok d) h2 (by decide) rfl h (fun v20 Sm21 h23 => ?_)
        obtain ⟨m21, rfl, r22, rfl, h⟩ := h23
        show WP G _ _ _ 0 0 89 [(6, .int r7), (0, .ref b), (2, .int x2), (3, .int x3), (4, .int x4), (5, .int x5)] [.int r22] (sh, ta, m21)
        exact WP.iret dX4_speak_89 rfl (Nat.le_refl _) (Nat.le_refl _) ⟨_, rfl, h⟩
      · have h := h.2 c4
        refine WP.iconst (v := 0) dX4_speak_54 rfl ?_
        exact WP.iret dX4_speak_55 rfl (Nat.le_refl _) (Nat.le_refl _) ⟨_, rfl, h⟩
  · have h := h.2 c1
    refine WP.iload 4 dX4_speak_13 rfl ?_
    refine WP.if_le (tgt := 40) dX4_speak_15 (by decide) (fun c24 => ?_) (fun c24 => ?_)
    · have h := h.1 c24
      refine WP.aload_n 0 dX4_speak_40 rfl rfl ?_
      obtain ⟨h25, h⟩ := h
      refine WP.getI 4 4 wf_X4_30 (by decide) (by decide) rfl h25 dX4_speak_41 ?_
      refine WP.if_ne (tgt := 54) dX4_speak_44 (by decide) (fun c26 => ?_) (fun c26 => ?_)
      · have h := h.1 c26
        refine WP.iconst (v := 0) dX4_speak_54 rfl ?_
        exact WP.iret dX4_speak_55 rfl (Nat.le_refl _) (Nat.le_refl _) ⟨_, rfl, h⟩
      · have h := h.2 c26
        refine WP.iload 3 dX4_speak_47 rfl ?_
        refine WP.bipush (v := 12) dX4_speak_49 rfl ?_
        refine WP.icmp_le (tgt := 56) dX4_speak_51 (by decide) (fun c27 => ?_) (fun c27 => ?_)
        · have h := h.1 c27
          refine WP.iload 4 dX4_speak_56 rfl ?_
          refine WP.iload_n 1 dX4_speak_58 rfl rfl ?_
          refine WP.callS (y := mX4_bodyOf) (As := [.int x5, .int x2]) (st := []) dX4_speak_59 wm_X4_48 mw_X4_bodyOf rfl (Nat.le_of_ble_eq_true rfl) (rmok d) rfl h (fun v28 Sm29 h31 => ?_)
          obtain ⟨m29, rfl, r30, rfl, h⟩ := h31
          show WP G _ _ _ 0 0 62 [(0, .ref b), (2, .int x2), (3, .int x3), (4, .int x4), (5, .int x5), (6, .int x6)] [.int r30] (sh, ta, m29)
          refine WP.istore (lv2 := [(6, .int r30), (0, .ref b), (2, .int x2), (3, .int x3), (4, .int x4), (5, .int x5)]) dX4_speak_62 (by decide) rfl ?_
          refine WP.aload_n 1 dX4_speak_64 rfl rfl ?_
          obtain ⟨i32, h33, h⟩ := h
          refine WP.getR 4 0 wf_X4_14 (by decide) (by decide) rfl h25 h33 dX4_speak_65 ?_
          refine WP.iload 0 dX4_speak_68 rfl ?_
          obtain ⟨h38, h⟩ := h
          refine WP.callV (y := mX2_add) (As := [.int r30]) (st := []) dX4_speak_70 wm_X4_56 mw_X2_add rfl (Nat.le_of_ble_eq_true rfl) (rmok d) h38 (by decide) rfl h (fun v34 Sm35 h37 => ?_)
          obtain ⟨m35, rfl, rfl, h⟩ := h37
          show WP G _ _ _ 0 0 73 [(6, .int r30), (0, .ref b), (2, .int x2), (3, .int x3), (4, .int x4), (5, .int x5)] [] (sh, ta, m35)
          refine WP.aload_n 1 dX4_speak_73 rfl rfl ?_
          refine WP.iload 0 dX4_speak_74 rfl ?_
          refine WP.iload 5 dX4_speak_76 rfl ?_
          refine WP.callSN (y := mX5_kindAbove) (As := [.int x5]) (st := [.int r30, .ref b]) dX4_speak_78 wm_X4_52 mw_X5_kindAbove rfl (Nat.le_of_ble_eq_true rfl) (rmok d) h (fun v39 Sm40 h42 => ?_)
          obtain ⟨m40, rfl, r41, rfl, h⟩ := h42
          show WP G _ _ _ 0 0 81 [(6, .int r30), (0, .ref b), (2, .int x2), (3, .int x3), (4, .int x4), (5, .int x5)] [.int r41, .int r30, .ref b] (sh, ta, m40)
          refine WP.iload_n 3 dX4_speak_81 rfl rfl ?_
          refine WP.iload 4 dX4_speak_82 rfl ?_
          refine WP.iconst (v := 1) dX4_speak_84 rfl ?_
          refine WP.iadd dX4_speak_85 ?_
          refine WP.callV (y := mX4_say) (As := [.int r30, .int r41, .int x3, .int (x4 + 1)]) (st := []) dX4_speak_86 wm_X4_59 mw_X4_say rfl (Nat.le_of_ble_eq_true rfl) (rmok d) h25 (by decide) rfl h (fun v43 Sm44 h46 => ?_)
          obtain ⟨m44, rfl, r45, rfl, h⟩ := h46
          show WP G _ _ _ 0 0 89 [(6, .int r30), (0, .ref b), (2, .int x2), (3, .int x3), (4, .int x4), (5, .int x5)] [.int r45] (sh, ta, m44)
          exact WP.iret dX4_speak_89 rfl (Nat.le_refl _) (Nat.le_refl _) ⟨_, rfl, h⟩
        · have h := h.2 c27
          refine WP.iconst (v := 0) dX4_speak_54 rfl ?_
          exact WP.iret dX4_speak_55 rfl (Nat.le_refl _) (Nat.le_refl _) ⟨_, rfl, h⟩
    · have h := h.2 c24
      refine WP.iload 4 dX4_speak_18 rfl ?_
      refine WP.iload_n 1 dX4_speak_20 rfl rfl ?_
      refine WP.callS (y := mX4_bodyOf) (As := [.int x5, .int x2]) (st := []) dX4_speak_21 wm_X4_48 mw_X4_bodyOf rfl (Nat.le_of_ble_eq_true rfl) (rmok d) rfl h (fun v47 Sm48 h50 => ?_)
      obtain ⟨m48, rfl, r49, rfl, h⟩ := h50
      show WP G _ _ _ 0 0 24 [(0, .ref b), (2, .int x2), (3, .int x3), (4, .int x4), (5, .int x5), (6, .int x6)] [.int r49] (sh, ta, m48)
      refine WP.if_ne (tgt := 40) dX4_speak_24 (by decide) (fun c51 => ?_) (fun c51 => ?_)
      · have h := h.1 c51
        refine WP.aload_n 0 dX4_speak_40 rfl rfl ?_
        obtain ⟨h52, h⟩ := h
        refine WP.getI 4 4 wf_X4_30 (by decide) (by decide) rfl h52 dX4_speak_41 ?_
        refine WP.if_ne (tgt := 54) dX4_speak_44 (by decide) (fun c53 => ?_) (fun c53 => ?_)
        · have h := h.1 c53
          refine WP.iconst (v := 0) dX4_speak_54 rfl ?_
          exact WP.iret dX4_speak_55 rfl (Nat.le_refl _) (Nat.le_refl _) ⟨_, rfl, h⟩
        · have h := h.2 c53
          refine WP.iload 3 dX4_speak_47 rfl ?_
          refine WP.bipush (v := 12) dX4_speak_49 rfl ?_
          refine WP.icmp_le (tgt := 56) dX4_speak_51 (by decide) (fun c54 => ?_) (fun c54 => ?_)
          · have h := h.1 c54
            refine WP.iload 4 dX4_speak_56 rfl ?_
            refine WP.iload_n 1 dX4_speak_58 rfl rfl ?_
            refine WP.callS (y := mX4_bodyOf) (As := [.int x5, .int x2]) (st := []) dX4_speak_59 wm_X4_48 mw_X4_bodyOf rfl (Nat.le_of_ble_eq_true rfl) (rmok d) rfl h (fun v55 Sm56 h58 => ?_)
            obtain ⟨m56, rfl, r57, rfl, h⟩ := h58
            show WP G _ _ _ 0 0 62 [(0, .ref b), (2, .int x2), (3, .int x3), (4, .int x4), (5, .int x5), (6, .int x6)] [.int r57] (sh, ta, m56)
            refine WP.istore (lv2 := [(6, .int r57), (0, .ref b), (2, .int x2), (3, .int x3), (4, .int x4), (5, .int x5)]) dX4_speak_62 (by decide) rfl ?_
            refine WP.aload_n 1 dX4_speak_64 rfl rfl ?_
            obtain ⟨i59, h60, h⟩ := h
            refine WP.getR 4 0 wf_X4_14 (by decide) (by decide) rfl h52 h60 dX4_speak_65 ?_
            refine WP.iload 0 dX4_speak_68 rfl ?_
            obtain ⟨h65, h⟩ := h
            refine WP.callV (y := mX2_add) (As := [.int r57]) (st := []) dX4_speak_70 wm_X4_56 mw_X2_add rfl (Nat.le_of_ble_eq_true rfl) (rmok d) h65 (by decide) rfl h (fun v61 Sm62 h64 => ?_)
            obtain ⟨m62, rfl, rfl, h⟩ := h64
            show WP G _ _ _ 0 0 73 [(6, .int r57), (0, .ref b), (2, .int x2), (3, .int x3), (4, .int x4), (5, .int x5)] [] (sh, ta, m62)
            refine WP.aload_n 1 dX4_speak_73 rfl rfl ?_
            refine WP.iload 0 dX4_speak_74 rfl ?_
            refine WP.iload 5 dX4_speak_76 rfl ?_
            refine WP.callSN (y := mX5_kindAbove) (As := [.int x5]) (st := [.int r57, .ref b]) dX4_speak_78 wm_X4_52 mw_X5_kindAbove rfl (Nat.le_of_ble_eq_true rfl) (rmok d) h (fun v66 Sm67 h69 => ?_)
            obtain ⟨m67, rfl, r68, rfl, h⟩ := h69
            show WP G _ _ _ 0 0 81 [(6, .int r57), (0, .ref b), (2, .int x2), (3, .int x3), (4, .int x4), (5, .int x5)] [.int r68, .int r57, .ref b] (sh, ta, m67)
            refine WP.iload_n 3 dX4_speak_81 rfl rfl ?_
            refine WP.iload 4 dX4_speak_82 rfl ?_
            refine WP.iconst (v := 1) dX4_speak_84 rfl ?_
            refine WP.iadd dX4_speak_85 ?_
            refine WP.callV (y := mX4_say) (As := [.int r57, .int r68, .int x3, .int (x4 + 1)]) (st := []) dX4_speak_86 wm_X4_59 mw_X4_say rfl (Nat.le_of_ble_eq_true rfl) (rmok d) h52 (by decide) rfl h (fun v70 Sm71 h73 => ?_)
            obtain ⟨m71, rfl, r72, rfl, h⟩ := h73
            show WP G _ _ _ 0 0 89 [(6, .int r57), (0, .ref b), (2, .int x2), (3, .int x3), (4, .int x4), (5, .int x5)] [.int r72] (sh, ta, m71)
            exact WP.iret dX4_speak_89 rfl (Nat.le_refl _) (Nat.le_refl _) ⟨_, rfl, h⟩
          · have h := h.2 c54
            refine WP.iconst (v := 0) dX4_speak_54 rfl ?_
            exact WP.iret dX4_speak_55 rfl (Nat.le_refl _) (Nat.le_refl _) ⟨_, rfl, h⟩
      · have h := h.2 c51
        refine WP.iload 4 dX4_speak_27 rfl ?_
        refine WP.callSN (y := mX5_kindAbove) (As := [.int x5]) (st := []) dX4_speak_29 wm_X4_52 mw_X5_kindAbove rfl (Nat.le_of_ble_eq_true rfl) (rmok d) h (fun v74 Sm75 h77 => ?_)
        obtain ⟨m75, rfl, r76, rfl, h⟩ := h77
        show WP G _ _ _ 0 0 32 [(0, .ref b), (2, .int x2), (3, .int x3), (4, .int x4), (5, .int x5), (6, .int x6)] [.int r76] (sh, ta, m75)
        refine WP.istore (lv2 := [(5, .int r76), (0, .ref b), (2, .int x2), (3, .int x3), (4, .int x4), (6, .int x6)]) dX4_speak_32 (by decide) rfl ?_
        refine WP.iinc (lv2 := [(6, .int (x6 + 1)), (5, .int r76), (0, .ref b), (2, .int x2), (3, .int x3), (4, .int x4)]) 5 1 dX4_speak_34 rfl rfl (by decide) rfl ?_
        refine WP.goto (tgt := 6) dX4_speak_37 (by decide) ?_
        exact WP.pick [2, 3, 4, 5, 1, 0] rfl h
set_option maxHeartbeats 4000000 in
set_option maxRecDepth 20000 in
theorem rg_X4_say_0 (hG : fl G = false) (b : Nat) (x1 : Int32) (x2 : Int32) (x3 : Int32) (x4 : Int32) (h : ((x1 = 10 → sh[b]? = some (.inl 4) ∧ K (some (.int (x3 + (m b 2)))) m) ∧ (x1 = 11 → sh[b]? = some (.inl 4) ∧ Cal G mX4_speak d [.ref b, .int (m b 1), .int 0, .int x3, .int x4] sh ta m (fun v5 m6 => ∃ r7, v5 = some (.int r7) ∧ K (some (.int (r7 * 2))) m6)) ∧ (x1 = 12 → sh[b]? = some (.inl 4) ∧ Cal G mX4_speak d [.ref b, .int (m b 1), .int 1, .int x3, .int x4] sh ta m (fun v11 m12 => ∃ r13, v11 = some (.int r13) ∧ K (some (.int (r13 - (m12 b 3)))) m12)) ∧ (x1 = 13 → sh[b]? = some (.inl 4) ∧ Cal G mX4_part d [.ref b, .int x3] sh ta m (fun v16 m17 => ∃ r18, v16 = some (.int r18) ∧ K (some (.int r18)) m17)) ∧ (x1 = 20 → sh[b]? = some (.inl 4) ∧ Cal G mX4_speak d [.ref b, .int x2, .int 0, .int x3, .int x4] sh ta m (fun v22 m23 => ∃ r24, v22 = some (.int r24) ∧ K (some (.int (r24 - 3))) m23)) ∧ (x1 = 21 → sh[b]? = some (.inl 4) ∧ Cal G mX4_speak d [.ref b, .int x2, .int 3, .int x3, .int x4] sh ta m (fun v28 m29 => ∃ r30, v28 = some (.int r30) ∧ Cal G mX4_speak d [.ref b, .int (m29 b 1), .int 1, .int 1, .int x4] sh ta m29 (fun v33 m34 => ∃ r35, v33 = some (.int r35) ∧ K (some (.int (r30 + r35))) m34))) ∧ (x1 = 30 → sh[b]? = some (.inl 4) ∧ Cal G mX4_speak d [.ref b, .int x2, .int 1, .int x3, .int x4] sh ta m (fun v38 m39 => ∃ r40, v38 = some (.int r40) ∧ K (some (.int (0 - r40))) m39)) ∧ (x1 = 40 → ¬ (2 : Int32) = 0 ∧ sh[b]? = some (.inl 4) ∧ Cal G mX4_speak d [.ref b, .int x2, .int 2, .int (x3 / 2), .int x4] sh ta m (fun v45 m46 => ∃ r47, v45 = some (.int r47) ∧ K (some (.int r47)) m46)) ∧ (x1 = 50 → sh[b]? = some (.inl 4) ∧ Cal G mX4_speak d [.ref b, .int x2, .int 0, .int x3, .int x4] sh ta m (fun v51 m52 => ∃ r53, v51 = some (.int r53) ∧ K (some (.int (r53 * 3))) m52)) ∧ (x1 = 51 → sh[b]? = some (.inl 4) ∧ Cal G mX4_speak d [.ref b, .int x2, .int 2, .int x3, .int x4] sh ta m (fun v57 m58 => ∃ r59, v57 = some (.int r59) ∧ K (some (.int (r59 ^^^ (m58 b 2)))) m58)) ∧ (x1 = 60 → sh[b]? = some (.inl 4) ∧ Cal G mX4_speak d [.ref b, .int x2, .int 1, .int (x3 + 1), .int x4] sh ta m (fun v63 m64 => ∃ r65, v63 = some (.int r65) ∧ K (some (.int r65)) m64)) ∧ (x1 = 70 → K (some (.int 4)) m) ∧ (x1 = 71 → sh[b]? = some (.inl 4) ∧ Cal G mX4_speak d [.ref b, .int x2, .int 1, .int x3, .int x4] sh ta m (fun v70 m71 => ∃ r72, v70 = some (.int r72) ∧ K (some (.int (r72 + (m71 b 3)))) m71)) ∧ (¬ x1 = 10 → ¬ x1 = 11 → ¬ x1 = 12 → ¬ x1 = 13 → ¬ x1 = 20 → ¬ x1 = 21 → ¬ x1 = 30 → ¬ x1 = 40 → ¬ x1 = 50 → ¬ x1 = 51 → ¬ x1 = 60 → ¬ x1 = 70 → ¬ x1 = 71 → K (some (.int 0)) m))) : WP G (rmD (d + 1) 0 0) mX4_say (QC G sh ta K) 0 0 0 [(0, .ref b), (1, .int x1), (2, .int x2), (3, .int x3), (4, .int x4)] [] (sh, ta, m) := by
  refine WP.iload_n 1 dX4_say_0 rfl rfl ?_
  by_cases c1 : x1 = 10
  · have h := h.1 c1
    refine WP.lsw (off := 115) (tgt := 116) dX4_say_1 (by decide +kernel) (by rw [c1]; rfl) (by decide) ?_
    refine WP.iload_n 3 dX4_say_116 rfl rfl ?_
    refine WP.aload_n 0 dX4_say_117 rfl rfl ?_
    obtain ⟨h2, h⟩ := h
    refine WP.getI 4 2 wf_X4_24 (by decide) (by decide) rfl h2 dX4_say_118 ?_
    refine WP.iadd dX4_say_121 ?_
    exact WP.iret dX4_say_122 rfl (Nat.le_refl _) (Nat.le_refl _) ⟨_, rfl, h⟩
  by_cases c3 : x1 = 11
  · have h := h.2.1 c3
    refine WP.lsw (off := 122) (tgt := 123) dX4_say_1 (by decide +kernel) (by rw [c3]; rfl) (by decide) ?_
    refine WP.aload_n 0 dX4_say_123 rfl rfl ?_
    refine WP.aload_n 0 dX4_say_124 rfl rfl ?_
    obtain ⟨h4, h⟩ := h
    refine WP.getI 4 1 wf_X4_20 (by decide) (by decide) rfl h4 dX4_say_125 ?_
    refine WP.iconst (v := 0) dX4_say_128 rfl ?_
    refine WP.iload_n 3 dX4_say_129 rfl rfl ?_
    refine WP.iload 4 dX4_say_130 rfl ?_
    refine WP.callV (y := mX4_speak) (As := [.int (m b 1), .int 0, .int x3, .int x4]) (st := []) dX4_say_132 wm_X4_37 mw_X4_speak rfl (Nat.le_of_ble_eq_true rfl) (rmok d) h4 (by decide) rfl h (fun v5 Sm6 h8 => ?_)
    obtain ⟨m6, rfl, r7, rfl, h⟩ := h8
    show WP G _ _ _ 0 0 135 [(0, .ref b), (1, .int x1), (2, .int x2), (3, .int x3), (4, .int x4)] [.int r7] (sh, ta, m6)
    refine WP.iconst (v := 2) dX4_say_135 rfl ?_
    refine WP.imul dX4_say_136 ?_
    exact WP.iret dX4_say_137 rfl (Nat.le_refl _) (Nat.le_refl _) ⟨_, rfl, h⟩
  by_cases c9 : x1 = 12
  · have h := h.2.2.1 c9
    refine WP.lsw (off := 137) (tgt := 138) dX4_say_1 (by decide +kernel) (by rw [c9]; rfl) (by decide) ?_
    refine WP.aload_n 0 dX4_say_138 rfl rfl ?_
    refine WP.aload_n 0 dX4_say_139 rfl rfl ?_
    obtain ⟨h10, h⟩ := h
    refine WP.getI 4 1 wf_X4_20 (by decide) (by decide) rfl h10 dX4_say_140 ?_
    refine WP.iconst (v := 1) dX4_say_143 rfl ?_
    refine WP.iload_n 3 dX4_say_144 rfl rfl ?_
    refine WP.iload 4 dX4_say_145 rfl ?_
    refine WP.callV (y := mX4_speak) (As := [.int (m b 1), .int 1, .int x3, .int x4]) (st := []) dX4_say_147 wm_X4_37 mw_X4_speak rfl (Nat.le_of_ble_eq_true rfl) (rmok d) h10 (by decide) rfl h (fun v11 Sm12 h14 => ?_)
    obtain ⟨m12, rfl, r13, rfl, h⟩ := h14
    show WP G _ _ _ 0 0 150 [(0, .ref b), (1, .int x1), (2, .int x2), (3, .int x3), (4, .int x4)] [.int r13] (sh, ta, m12)
    refine WP.aload_n 0 dX4_say_150 rfl rfl ?_
    refine WP.getI 4 3 wf_X4_27 (by decide) (by decide) rfl h10 dX4_say_151 ?_
    refine WP.isub dX4_say_154 ?_
    exact WP.iret dX4_say_155 rfl (Nat.le_refl _) (Nat.le_refl _) ⟨_, rfl, h⟩
  by_cases c15 : x1 = 13
  · have h := h.2.2.2.1 c15
    refine WP.lsw (off := 155) (tgt := 156) dX4_say_1 (by decide +kernel) (by rw [c15]; rfl) (by decide) ?_
    refine WP.aload_n 0 dX4_say_156 rfl rfl ?_
    refine WP.iload_n 3 dX4_say_157 rfl rfl ?_
    obtain ⟨h20, h⟩ := h
    refine WP.callV (y := mX4_part) (As := [.int x3]) (st := []) dX4_say_158 wm_X4_62 mw_X4_part rfl (Nat.le_of_ble_eq_true rfl) (rmok d) h20 (by decide) rfl h (fun v16 Sm17 h19 => ?_)
    obtain ⟨m17, rfl, r18, rfl, h⟩ := h19
    show WP G _ _ _ 0 0 161 [(0, .ref b), (1, .int x1), (2, .int x2), (3, .int x3), (4, .int x4)] [.int r18] (sh, ta, m17)
    exact WP.iret dX4_say_161 rfl (Nat.le_refl _) (Nat.le_refl _) ⟨_, rfl, h⟩
  by_cases c21 : x1 = 20
  · have h := h.2.2.2.2.1 c21
    refine WP.lsw (off := 161) (tgt := 162) dX4_say_1 (by decide +kernel) (by rw [c21]; rfl) (by decide) ?_
    refine WP.aload_n 0 dX4_say_162 rfl rfl ?_
    refine WP.iload_n 2 dX4_say_163 rfl rfl ?_
    refine WP.iconst (v := 0) dX4_say_164 rfl ?_
    refine WP.iload_n 3 dX4_say_165 rfl rfl ?_
    refine WP.iload 4 dX4_say_166 rfl ?_
    obtain ⟨h26, h⟩ := h
    refine WP.callV (y := mX4_speak) (As := [.int x2, .int 0, .int x3, .int x4]) (st := []) dX4_say_168 wm_X4_37 mw_X4_speak rfl (Nat.le_of_ble_eq_true rfl) (rmok d) h26 (by decide) rfl h (fun v22 Sm23 h25 => ?_)
    obtain ⟨m23, rfl, r24, rfl, h⟩ := h25
    show WP G _ _ _ 0 0 171 [(0, .ref b), (1, .int x1), (2, .int x2), (3, .int x3), (4, .int x4)] [.int r24] (sh, ta, m23)
    refine WP.iconst (v := 3) dX4_say_171 rfl ?_
    refine WP.isub dX4_say_172 ?_
    exact WP.iret dX4_say_173 rfl (Nat.le_refl _) (Nat.le_refl _) ⟨_, rfl, h⟩
  by_cases c27 : x1 = 21
  · have h := h.2.2.2.2.2.1 c27
    refine WP.lsw (off := 173) (tgt := 174) dX4_say_1 (by decide +kernel) (by rw [c27]; rfl) (by decide) ?_
    refine WP.aload_n 0 dX4_say_174 rfl rfl ?_
    refine WP.iload_n 2 dX4_say_175 rfl rfl ?_
    refine WP.iconst (v := 3) dX4_say_176 rfl ?_
    refine WP.iload_n 3 dX4_say_177 rfl rfl ?_
    refine WP.iload 4 dX4_say_178 rfl ?_
    obtain ⟨h32, h⟩ := h
    refine WP.callV (y := mX4_speak) (As := [.int x2, .int 3, .int x3, .int x4]) (st := []) dX4_say_180 wm_X4_37 mw_X4_speak rfl (Nat.le_of_ble_eq_true rfl) (rmok d) h32 (by decide) rfl h (fun v28 Sm29 h31 => ?_)
    obtain ⟨m29, rfl, r30, rfl, h⟩ := h31
    show WP G _ _ _ 0 0 183 [(0, .ref b), (1, .int x1), (2, .int x2), (3, .int x3), (4, .int x4)] [.int r30] (sh, ta, m29)
    refine WP.istore (lv2 := [(5, .int r30), (0, .ref b), (1, .int x1), (2, .int x2), (3, .int x3), (4, .int x4)]) dX4_say_183 (by decide) rfl ?_
    refine WP.iload 0 dX4_say_185 rfl ?_
    refine WP.aload_n 1 dX4_say_187 rfl rfl ?_
    refine WP.aload_n 1 dX4_say_188 rfl rfl ?_
    refine WP.getI 4 1 wf_X4_20 (by decide) (by decide) rfl h32 dX4_say_189 ?_
    refine WP.iconst (v := 1) dX4_say_192 rfl ?_
    refine WP.iconst (v := 1) dX4_say_193 rfl ?_
    refine WP.iload 5 dX4_say_194 rfl ?_
    refine WP.callV (y := mX4_speak) (As := [.int (m29 b 1), .int 1, .int 1, .int x4]) (st := [.int r30]) dX4_say_196 wm_X4_37 mw_X4_speak rfl (Nat.le_of_ble_eq_true rfl) (rmok d) h32 (by decide) rfl h (fun v33 Sm34 h36 => ?_)
    obtain ⟨m34, rfl, r35, rfl, h⟩ := h36
    show WP G _ _ _ 0 0 199 [(5, .int r30), (0, .ref b), (1, .int x1), (2, .int x2), (3, .int x3), (4, .int x4)] [.int r35, .int r30] (sh, ta, m34)
    refine WP.iadd dX4_say_199 ?_
    exact WP.iret dX4_say_200 rfl (Nat.le_refl _) (Nat.le_refl _) ⟨_, rfl, h⟩
  by_cases c37 : x1 = 30
  · have h := h.2.2.2.2.2.2.1 c37
    refine WP.lsw (off := 200) (tgt := 201) dX4_say_1 (by decide +kernel) (by rw [c37]; rfl) (by decide) ?_
    refine WP.iconst (v := 0) dX4_say_201 rfl ?_
    refine WP.aload_n 0 dX4_say_202 rfl rfl ?_
    refine WP.iload_n 2 dX4_say_203 rfl rfl ?_
    refine WP.iconst (v := 1) dX4_say_204 rfl ?_
    refine WP.iload_n 3 dX4_say_205 rfl rfl ?_
    refine WP.iload 4 dX4_say_206 rfl ?_
    obtain ⟨h42, h⟩ := h
    refine WP.callV (y := mX4_speak) (As := [.int x2, .int 1, .int x3, .int x4]) (st := [.int 0]) dX4_say_208 wm_X4_37 mw_X4_speak rfl (Nat.le_of_ble_eq_true rfl) (rmok d) h42 (by decide) rfl h (fun v38 Sm39 h41 => ?_)
    obtain ⟨m39, rfl, r40, rfl, h⟩ := h41
    show WP G _ _ _ 0 0 211 [(0, .ref b), (1, .int x1), (2, .int x2), (3, .int x3), (4, .int x4)] [.int r40, .int 0] (sh, ta, m39)
    refine WP.isub dX4_say_211 ?_
    exact WP.iret dX4_say_212 rfl (Nat.le_refl _) (Nat.le_refl _) ⟨_, rfl, h⟩
  by_cases c43 : x1 = 40
  · have h := h.2.2.2.2.2.2.2.1 c43
    refine WP.lsw (off := 212) (tgt := 213) dX4_say_1 (by decide +kernel) (by rw [c43]; rfl) (by decide) ?_
    refine WP.aload_n 0 dX4_say_213 rfl rfl ?_
    refine WP.iload_n 2 dX4_say_214 rfl rfl ?_
    refine WP.iconst (v := 2) dX4_say_215 rfl ?_
    refine WP.iload_n 3 dX4_say_216 rfl rfl ?_
    refine WP.iconst (v := 2) dX4_say_217 rfl ?_
    obtain ⟨h44, h⟩ := h
    refine WP.idiv dX4_say_218 h44 ?_
    refine WP.iload 4 dX4_say_219 rfl ?_
    obtain ⟨h49, h⟩ := h
    refine WP.callV (y := mX4_speak) (As := [.int x2, .int 2, .int (x3 / 2), .int x4]) (st := []) dX4_say_221 wm_X4_37 mw_X4_speak rfl (Nat.le_of_ble_eq_true rfl) (rmok d) h49 (by decide) rfl h (fun v45 Sm46 h48 => ?_)
    obtain ⟨m46, rfl, r47, rfl, h⟩ := h48
    show WP G _ _ _ 0 0 224 [(0, .ref b), (1, .int x1), (2, .int x2), (3, .int x3), (4, .int x4)] [.int r47] (sh, ta, m46)
    exact WP.iret dX4_say_224 rfl (Nat.le_refl _) (Nat.le_refl _) ⟨_, rfl, h⟩
  by_cases c50 : x1 = 50
  · have h := h.2.2.2.2.2.2.2.2.1 c50
    refine WP.lsw (off := 224) (tgt := 225) dX4_say_1 (by decide +kernel) (by rw [c50]; rfl) (by decide) ?_
    refine WP.aload_n 0 dX4_say_225 rfl rfl ?_
    refine WP.iload_n 2 dX4_say_226 rfl rfl ?_
    refine WP.iconst (v := 0) dX4_say_227 rfl ?_
    refine WP.iload_n 3 dX4_say_228 rfl rfl ?_
    refine WP.iload 4 dX4_say_229 rfl ?_
    obtain ⟨h55, h⟩ := h
    refine WP.callV (y := mX4_speak) (As := [.int x2, .int 0, .int x3, .int x4]) (st := []) dX4_say_231 wm_X4_37 mw_X4_speak rfl (Nat.le_of_ble_eq_true rfl) (rmok d) h55 (by decide) rfl h (fun v51 Sm52 h54 => ?_)
    obtain ⟨m52, rfl, r53, rfl, h⟩ := h54
    show WP G _ _ _ 0 0 234 [(0, .ref b), (1, .int x1), (2, .int x2), (3, .int x3), (4, .int x4)] [.int r53] (sh, ta, m52)
    refine WP.iconst (v := 3) dX4_say_234 rfl ?_
    refine WP.imul dX4_say_235 ?_
    exact WP.iret dX4_say_236 rfl (Nat.le_refl _) (Nat.le_refl _) ⟨_, rfl, h⟩
  by_cases c56 : x1 = 51
  · have h := h.2.2.2.2.2.2.2.2.2.1 c56
    refine WP.lsw (off := 236) (tgt := 237) dX4_say_1 (by decide +kernel) (by rw [c56]; rfl) (by decide) ?_
    refine WP.aload_n 0 dX4_say_237 rfl rfl ?_
    refine WP.iload_n 2 dX4_say_238 rfl rfl ?_
    refine WP.iconst (v := 2) dX4_say_239 rfl ?_
    refine WP.iload_n 3 dX4_say_240 rfl rfl ?_
    refine WP.iload 4 dX4_say_241 rfl ?_
    obtain ⟨h61, h⟩ := h
    refine WP.callV (y := mX4_speak) (As := [.int x2, .int 2, .int x3, .int x4]) (st := []) dX4_say_243 wm_X4_37 mw_X4_speak rfl (Nat.le_of_ble_eq_true rfl) (rmok d) h61 (by decide) rfl h (fun v57 Sm58 h60 => ?_)
    obtain ⟨m58, rfl, r59, rfl, h⟩ := h60
    show WP G _ _ _ 0 0 246 [(0, .ref b), (1, .int x1), (2, .int x2), (3, .int x3), (4, .int x4)] [.int r59] (sh, ta, m58)
    refine WP.aload_n 0 dX4_say_246 rfl rfl ?_
    refine WP.getI 4 2 wf_X4_24 (by decide) (by decide) rfl h61 dX4_say_247 ?_
    refine WP.ixor dX4_say_250 ?_
    exact WP.iret dX4_say_251 rfl (Nat.le_refl _) (Nat.le_refl _) ⟨_, rfl, h⟩
  by_cases c62 : x1 = 60
  · have h := h.2.2.2.2.2.2.2.2.2.2.1 c62
    refine WP.lsw (off := 251) (tgt := 252) dX4_say_1 (by decide +kernel) (by rw [c62]; rfl) (by decide) ?_
    refine WP.aload_n 0 dX4_say_252 rfl rfl ?_
    refine WP.iload_n 2 dX4_say_253 rfl rfl ?_
    refine WP.iconst (v := 1) dX4_say_254 rfl ?_
    refine WP.iload_n 3 dX4_say_255 rfl rfl ?_
    refine WP.iconst (v := 1) dX4_say_256 rfl ?_
    refine WP.iadd dX4_say_257 ?_
    refine WP.iload 4 dX4_say_258 rfl ?_
    obtain ⟨h67, h⟩ := h
    refine WP.callV (y := mX4_speak) (As := [.int x2, .int 1, .int (x3 + 1), .int x4]) (st := []) dX4_say_260 wm_X4_37 mw_X4_speak rfl (Nat.le_of_ble_eq_true rfl) (rmok d) h67 (by decide) rfl h (fun v63 Sm64 h66 => ?_)
    obtain ⟨m64, rfl, r65, rfl, h⟩ := h66
    show WP G _ _ _ 0 0 263 [(0, .ref b), (1, .int x1), (2, .int x2), (3, .int x3), (4, .int x4)] [.int r65] (sh, ta, m64)
    exact WP.iret dX4_say_263 rfl (Nat.le_refl _) (Nat.le_refl _) ⟨_, rfl, h⟩
  by_cases c68 : x1 = 70
  · have h := h.2.2.2.2.2.2.2.2.2.2.2.1 c68
    refine WP.lsw (off := 263) (tgt := 264) dX4_say_1 (by decide +kernel) (by rw [c68]; rfl) (by decide) ?_
    refine WP.iconst (v := 4) dX4_say_264 rfl ?_
    exact WP.iret dX4_say_265 rfl (Nat.le_refl _) (Nat.le_refl _) ⟨_, rfl, h⟩
  by_cases c69 : x1 = 71
  · have h := h.2.2.2.2.2.2.2.2.2.2.2.2.1 c69
    refine WP.lsw (off := 265) (tgt := 266) dX4_say_1 (by decide +kernel) (by rw [c69]; rfl) (by decide) ?_
    refine WP.aload_n 0 dX4_say_266 rfl rfl ?_
    refine WP.iload_n 2 dX4_say_267 rfl rfl ?_
    refine WP.iconst (v := 1) dX4_say_268 rfl ?_
    refine WP.iload_n 3 dX4_say_269 rfl rfl ?_
    refine WP.iload 4 dX4_say_270 rfl ?_
    obtain ⟨h74, h⟩ := h
    refine WP.callV (y := mX4_speak) (As := [.int x2, .int 1, .int x3, .int x4]) (st := []) dX4_say_272 wm_X4_37 mw_X4_speak rfl (Nat.le_of_ble_eq_true rfl) (rmok d) h74 (by decide) rfl h (fun v70 Sm71 h73 => ?_)
    obtain ⟨m71, rfl, r72, rfl, h⟩ := h73
    show WP G _ _ _ 0 0 275 [(0, .ref b), (1, .int x1), (2, .int x2), (3, .int x3), (4, .int x4)] [.int r72] (sh, ta, m71)
    refine WP.aload_n 0 dX4_say_275 rfl rfl ?_
    refine WP.getI 4 3 wf_X4_27 (by decide) (by decide) rfl h74 dX4_say_276 ?_
    refine WP.iadd dX4_say_279 ?_
    exact WP.iret dX4_say_280 rfl (Nat.le_refl _) (Nat.le_refl _) ⟨_, rfl, h⟩
  have h := h.2.2.2.2.2.2.2.2.2.2.2.2.2 c1 c3 c9 c15 c21 c27 c37 c43 c50 c56 c62 c68 c69
  refine WP.lsw (off := 280) (tgt := 281) dX4_say_1 (by decide +kernel) (by show Op.lookupswitch.offset [(10, 115), (11, 122), (12, 137), (13, 155), (20, 161), (21, 173), (30, 200), (40, 212), (50, 224), (51, 236), (60, 251), (70, 263), (71, 265)] 280 (x1 : Int32).toInt = _; rw [lv_osw (k := 10) (a := 10) c1 rfl, lv_osw (k := 11) (a := 11) c3 rfl, lv_osw (k := 12) (a := 12) c9 rfl, lv_osw (k := 13) (a := 13) c15 rfl, lv_osw (k := 20) (a := 20) c21 rfl, lv_osw (k := 21) (a := 21) c27 rfl, lv_osw (k := 30) (a := 30) c37 rfl, lv_osw (k := 40) (a := 40) c43 rfl, lv_osw (k := 50) (a := 50) c50 rfl, lv_osw (k := 51) (a := 51) c56 rfl, lv_osw (k := 60) (a := 60) c62 rfl, lv_osw (k := 70) (a := 70) c68 rfl, lv_osw (k := 71) (a := 71) c69 rfl]; rfl) (by decide) ?_
  refine WP.iconst (v := 0) dX4_say_281 rfl ?_
  exact WP.iret dX4_say_282 rfl (Nat.le_refl _) (Nat.le_refl _) ⟨_, rfl, h⟩
set_option maxHeartbeats 4000000 in
set_option maxRecDepth 20000 in
theorem rg_X4_part_0 (hG : fl G = false) (b : Nat) (x1 : Int32) (h : sh[b]? = some (.inl 4) ∧ ((¬ ((m b 3) - (m b 2)) = 0 → ¬ ((m b 3) - (m b 2) : Int32) = 0 ∧ K (some (.int (x1 / ((m b 3) - (m b 2))))) m) ∧ (((m b 3) - (m b 2)) = 0 → ∀ m4, m4 = up2 m b 4 1 → K (some (.int 0)) m4))) : WP G (rmD (d + 1) 0 0) mX4_part (QC G sh ta K) 0 0 0 [(0, .ref b), (1, .int x1)] [] (sh, ta, m) := by
  refine WP.aload_n 0 dX4_part_0 rfl rfl ?_
  obtain ⟨h1, h⟩ := h
  refine WP.getI 4 3 wf_X4_27 (by decide) (by decide) rfl h1 dX4_part_1 ?_
  refine WP.aload_n 0 dX4_part_4 rfl rfl ?_
  refine WP.getI 4 2 wf_X4_24 (by decide) (by decide) rfl h1 dX4_part_5 ?_
  refine WP.isub dX4_part_8 ?_
  refine WP.istore_n (lv2 := [(2, .int ((m b 3) - (m b 2))), (0, .ref b), (1, .int x1)]) dX4_part_9 rfl (by decide) rfl ?_
  refine WP.iload_n 0 dX4_part_10 rfl rfl ?_
  refine WP.if_ne (tgt := 21) dX4_part_11 (by decide) (fun c2 => ?_) (fun c2 => ?_)
  · have h := h.1 c2
    refine WP.iload_n 2 dX4_part_21 rfl rfl ?_
    refine WP.iload_n 0 dX4_part_22 rfl rfl ?_
    obtain ⟨h3, h⟩ := h
    refine WP.idiv dX4_part_23 h3 ?_
    exact WP.iret dX4_part_24 rfl (Nat.le_refl _) (Nat.le_refl _) ⟨_, rfl, h⟩
  · have h := h.2 c2
    refine WP.aload_n 1 dX4_part_14 rfl rfl ?_
    refine WP.iconst (v := 1) dX4_part_15 rfl ?_
    have h := h _ rfl
    refine WP.putI 4 4 wf_X4_30 (by decide) (by decide) rfl h1 rfl rfl rfl dX4_part_16 ?_
    generalize up2 m b 4 1 = m4 at h ⊢
    refine WP.iconst (v := 0) dX4_part_19 rfl ?_
    exact WP.iret dX4_part_20 rfl (Nat.le_refl _) (Nat.le_refl _) ⟨_, rfl, h⟩
end
