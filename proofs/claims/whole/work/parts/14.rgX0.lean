section
variable {G : Gm} {d : Nat} {sh : List Shp} {ta : Nat → Nat → Option Nat} {m : Mem} {K : Option Value → Mem → Prop}
set_option maxHeartbeats 4000000 in
set_option maxRecDepth 20000 in
theorem rg_X0_copyFrom_0 (hG : fl G = false) (b : Nat) (b1 : Nat) (h : sh[b1]? = some (.inl 0) ∧ ∃ i2, ta b1 2 = some i2 ∧ sh[b]? = some (.inl 0) ∧ ∃ i5, ta b 2 = some i5 ∧ ∃ n8, sh[i2]? = some (.inr (0, n8)) ∧ ∃ n10, sh[i5]? = some (.inr (0, n10)) ∧ ¬ ((0 : Int32)) < 0 ∧ ¬ ((0 : Int32)) < 0 ∧ ¬ ((16 : Int32)) < 0 ∧ (0 : Int32).toNatClampNeg + (16 : Int32).toNatClampNeg ≤ n8 ∧ (0 : Int32).toNatClampNeg + (16 : Int32).toNatClampNeg ≤ n10 ∧ ∀ m16, m16 = cp2 m i5 (0 : Int32).toNatClampNeg i2 (0 : Int32).toNatClampNeg (16 : Int32).toNatClampNeg → ∃ i17, ta b1 3 = some i17 ∧ ∃ i19, ta b 3 = some i19 ∧ ∃ n22, sh[i17]? = some (.inr (0, n22)) ∧ ∃ n24, sh[i19]? = some (.inr (0, n24)) ∧ ¬ ((0 : Int32)) < 0 ∧ ¬ ((0 : Int32)) < 0 ∧ ¬ ((16 : Int32)) < 0 ∧ (0 : Int32).toNatClampNeg + (16 : Int32).toNatClampNeg ≤ n22 ∧ (0 : Int32).toNatClampNeg + (16 : Int32).toNatClampNeg ≤ n24 ∧ ∀ m30, m30 = cp2 m16 i19 (0 : Int32).toNatClampNeg i17 (0 : Int32).toNatClampNeg (16 : Int32).toNatClampNeg → ∃ i31, ta b1 4 = some i31 ∧ ∃ i33, ta b 4 = some i33 ∧ ∃ n36, sh[i31]? = some (.inr (0, n36)) ∧ ∃ n38, sh[i33]? = some (.inr (0, n38)) ∧ ¬ ((0 : Int32)) < 0 ∧ ¬ ((0 : Int32)) < 0 ∧ ¬ ((16 : Int32)) < 0 ∧ (0 : Int32).toNatClampNeg + (16 : Int32).toNatClampNeg ≤ n36 ∧ (0 : Int32).toNatClampNeg + (16 : Int32).toNatClampNeg ≤ n38 ∧ ∀ m44, m44 = cp2 m30 i33 (0 : Int32).toNatClampNeg i31 (0 : Int32).toNatClampNeg (16 : Int32).toNatClampNeg → ∃ i45, ta b1 5 = some i45 ∧ ∃ i47, ta b 5 = some i47 ∧ ∃ n50, sh[i45]? = some (.inr (0, n50)) ∧ ∃ n52, sh[i47]? = some (.inr (0, n52)) ∧ ¬ ((0 : Int32)) < 0 ∧ ¬ ((0 : Int32)) < 0 ∧ ¬ ((16 : Int32)) < 0 ∧ (0 : Int32).toNatClampNeg + (16 : Int32).toNatClampNeg ≤ n50 ∧ (0 : Int32).toNatClampNeg + (16 : Int32).toNatClampNeg ≤ n52 ∧ ∀ m58, m58 = cp2 m44 i47 (0 : Int32).toNatClampNeg i45 (0 : Int32).toNatClampNeg (16 : Int32).toNatClampNeg → ∃ i59, ta b1 6 = some i59 ∧ ∃ i61, ta b 6 = some i61 ∧ ∃ n64, sh[i59]? = some (.inr (0, n64)) ∧ ∃ n66, sh[i61]? = some (.inr (0, n66)) ∧ ¬ ((0 : Int32)) < 0 ∧ ¬ ((0 : Int32)) < 0 ∧ ¬ ((16 : Int32)) < 0 ∧ (0 : Int32).toNatClampNeg + (16 : Int32).toNatClampNeg ≤ n64 ∧ (0 : Int32).toNatClampNeg + (16 : Int32).toNatClampNeg ≤ n66 ∧ ∀ m72, m72 = cp2 m58 i61 (0 : Int32).toNatClampNeg i59 (0 : Int32).toNatClampNeg (16 : Int32).toNatClampNeg → ∃ i73, ta b1 7 = some i73 ∧ ∃ i75, ta b 7 = some i75 ∧ ∃ n78, sh[i73]? = some (.inr (0, n78)) ∧ ∃ n80, sh[i75]? = some (.inr (0, n80)) ∧ ¬ ((0 : Int32)) < 0 ∧ ¬ ((0 : Int32)) < 0 ∧ ¬ ((80 : Int32)) < 0 ∧ (0 : Int32).toNatClampNeg + (80 : Int32).toNatClampNeg ≤ n78 ∧ (0 : Int32).toNatClampNeg + (80 : Int32).toNatClampNeg ≤ n80 ∧ ∀ m86, m86 = cp2 m72 i75 (0 : Int32).toNatClampNeg i73 (0 : Int32).toNatClampNeg (80 : Int32).toNatClampNeg → ∃ i87, ta b1 8 = some i87 ∧ ∃ i89, ta b 8 = some i89 ∧ ∃ n92, sh[i87]? = some (.inr (0, n92)) ∧ ∃ n94, sh[i89]? = some (.inr (0, n94)) ∧ ¬ ((0 : Int32)) < 0 ∧ ¬ ((0 : Int32)) < 0 ∧ ¬ ((16 : Int32)) < 0 ∧ (0 : Int32).toNatClampNeg + (16 : Int32).toNatClampNeg ≤ n92 ∧ (0 : Int32).toNatClampNeg + (16 : Int32).toNatClampNeg ≤ n94 ∧ ∀ m100, m100 = cp2 m86 i89 (0 : Int32).toNatClampNeg i87 (0 : Int32).toNatClampNeg (16 : Int32).toNatClampNeg → ∀ m101, m101 = up2 m100 b 9 (m100 b1 9) → ∀ m102, m102 = up2 m101 b 10 (m101 b1 10) → ∀ m103, m103 = up2 m102 b 11 (m102 b1 11) → ∀ m104, m104 = up2 m103 b 12 (m103 b1 12) → ∀ m105, m105 = up2 m104 b 13 (m104 b1 13) → ∀ m106, m106 = up2 m105 b 14 (m105 b1 14) → K none m106) : WP G (rmD (d + 1) 0 0) mX0_copyFrom (QC G sh ta K) 0 0 0 [(0, .ref b), (1, .ref b1)] [] (sh, ta, m) := by
  refine WP.aload_n 1 dX0_copyFrom_0 rfl rfl ?_
  obtain ⟨h1, h⟩ := h
  obtain ⟨i2, h3, h⟩ := h
  refine WP.getR 0 2 wf_X0_9 (by decide) (by decide) rfl h1 h3 dX0_copyFrom_1 ?_
  refine WP.iconst (v := 0) dX0_copyFrom_4 rfl ?_
  refine WP.aload_n 0 dX0_copyFrom_5 rfl rfl ?_
  obtain ⟨h4, h⟩ := h
  obtain ⟨i5, h6, h⟩ := h
  refine WP.getR 0 2 wf_X0_9 (by decide) (by decide) rfl h4 h6 dX0_copyFrom_6 ?_
  refine WP.iconst (v := 0) dX0_copyFrom_9 rfl ?_
  refine WP.bipush (v := 16) dX0_copyFrom_10 rfl ?_
  obtain ⟨n8, h7, h⟩ := h
  obtain ⟨n10, h9, h⟩ := h
  obtain ⟨h11, h12, h13, h14, h15, h⟩ := h
  have h := h _ rfl
  refine WP.copy hG wm_X0_53 h7 h9 (Nat.le_of_ble_eq_true rfl) (rmok0 d) h11 h12 h13 h14 h15 dX0_copyFrom_12 ?_
  generalize cp2 m i5 (0 : Int32).toNatClampNeg i2 (0 : Int32).toNatClampNeg (16 : Int32).toNatClampNeg = m16 at h ⊢
  refine WP.aload_n 1 dX0_copyFrom_15 rfl rfl ?_
  obtain ⟨i17, h18, h⟩ := h
  refine WP.getR 0 3 wf_X0_15 (by decide) (by decide) rfl h1 h18 dX0_copyFrom_16 ?_
  refine WP.iconst (v := 0) dX0_copyFrom_19 rfl ?_
  refine WP.aload_n 0 dX0_copyFrom_20 rfl rfl ?_
  obtain ⟨i19, h20, h⟩ := h
  refine WP.getR 0 3 wf_X0_15 (by decide) (by decide) rfl h4 h20 dX0_copyFrom_21 ?_
  refine WP.iconst (v := 0) dX0_copyFrom_24 rfl ?_
  refine WP.bipush (v := 16) dX0_copyFrom_25 rfl ?_
  obtain ⟨n22, h21, h⟩ := h
  obtain ⟨n24, h23, h⟩ := h
  obtain ⟨h25, h26, h27, h28, h29, h⟩ := h
  have h := h _ rfl
  refine WP.copy hG wm_X0_53 h21 h23 (Nat.le_of_ble_eq_true rfl) (rmok0 d) h25 h26 h27 h28 h29 dX0_copyFrom_27 ?_
  generalize cp2 m16 i19 (0 : Int32).toNatClampNeg i17 (0 : Int32).toNatClampNeg (16 : Int32).toNatClampNeg = m30 at h ⊢
  refine WP.aload_n 1 dX0_copyFrom_30 rfl rfl ?_
  obtain ⟨i31, h32, h⟩ := h
  refine WP.getR 0 4 wf_X0_18 (by decide) (by decide) rfl h1 h32 dX0_copyFrom_31 ?_
  refine WP.iconst (v := 0) dX0_copyFrom_34 rfl ?_
  refine WP.aload_n 0 dX0_copyFrom_35 rfl rfl ?_
  obtain ⟨i33, h34, h⟩ := h
  refine WP.getR 0 4 wf_X0_18 (by decide) (by decide) rfl h4 h34 dX0_copyFrom_36 ?_
  refine WP.iconst (v := 0) dX0_copyFrom_39 rfl ?_
  refine WP.bipush (v := 16) dX0_copyFrom_40 rfl ?_
  obtain ⟨n36, h35, h⟩ := h
  obtain ⟨n38, h37, h⟩ := h
  obtain ⟨h39, h40, h41, h42, h43, h⟩ := h
  have h := h _ rfl
  refine WP.copy hG wm_X0_53 h35 h37 (Nat.le_of_ble_eq_true rfl) (rmok0 d) h39 h40 h41 h42 h43 dX0_copyFrom_42 ?_
  generalize cp2 m30 i33 (0 : Int32).toNatClampNeg i31 (0 : Int32).toNatClampNeg (16 : Int32).toNatClampNeg = m44 at h ⊢
  refine WP.aload_n 1 dX0_copyFrom_45 rfl rfl ?_
  obtain ⟨i45, h46, h⟩ := h
  refine WP.getR 0 5 wf_X0_21 (by decide) (by decide) rfl h1 h46 dX0_copyFrom_46 ?_
  refine WP.iconst (v := 0) dX0_copyFrom_49 rfl ?_
  refine WP.aload_n 0 dX0_copyFrom_50 rfl rfl ?_
  obtain ⟨i47, h48, h⟩ := h
  refine WP.getR 0 5 wf_X0_21 (by decide) (by decide) rfl h4 h48 dX0_copyFrom_51 ?_
  refine WP.iconst (v := 0) dX0_copyFrom_54 rfl ?_
  refine WP.bipush (v := 16) dX0_copyFrom_55 rfl ?_
  obtain ⟨n50, h49, h⟩ := h
  obtain ⟨n52, h51, h⟩ := h
  obtain ⟨h53, h54, h55, h56, h57, h⟩ := h
  have h := h _ rfl
  refine WP.copy hG wm_X0_53 h49 h51 (Nat.le_of_ble_eq_true rfl) (rmok0 d) h53 h54 h55 h56 h57 dX0_copyFrom_57 ?_
  generalize cp2 m44 i47 (0 : Int32).toNatClampNeg i45 (0 : Int32).toNatClampNeg (16 : Int32).toNatClampNeg = m58 at h ⊢
  refine WP.aload_n 1 dX0_copyFrom_60 rfl rfl ?_
  obtain ⟨i59, h60, h⟩ := h
  refine WP.getR 0 6 wf_X0_24 (by decide) (by decide) rfl h1 h60 dX0_copyFrom_61 ?_
  refine WP.iconst (v := 0) dX0_copyFrom_64 rfl ?_
  refine WP.aload_n 0 dX0_copyFrom_65 rfl rfl ?_
  obtain ⟨i61, h62, h⟩ := h
  refine WP.getR 0 6 wf_X0_24 (by decide) (by decide) rfl h4 h62 dX0_copyFrom_66 ?_
  refine WP.iconst (v := 0) dX0_copyFrom_69 rfl ?_
  refine WP.bipush (v := 16) dX0_copyFrom_70 rfl ?_
  obtain ⟨n64, h63, h⟩ := h
  obtain ⟨n66, h65, h⟩ := h
  obtain ⟨h67, h68, h69, h70, h71, h⟩ := h
  have h := h _ rfl
  refine WP.copy hG wm_X0_53 h63 h65 (Nat.le_of_ble_eq_true rfl) (rmok0 d) h67 h68 h69 h70 h71 dX0_copyFrom_72 ?_
  generalize cp2 m58 i61 (0 : Int32).toNatClampNeg i59 (0 : Int32).toNatClampNeg (16 : Int32).toNatClampNeg = m72 at h ⊢
  refine WP.aload_n 1 dX0_copyFrom_75 rfl rfl ?_
  obtain ⟨i73, h74, h⟩ := h
  refine WP.getR 0 7 wf_X0_27 (by decide) (by decide) rfl h1 h74 dX0_copyFrom_76 ?_
  refine WP.iconst (v := 0) dX0_copyFrom_79 rfl ?_
  refine WP.aload_n 0 dX0_copyFrom_80 rfl rfl ?_
  obtain ⟨i75, h76, h⟩ := h
  refine WP.getR 0 7 wf_X0_27 (by decide) (by decide) rfl h4 h76 dX0_copyFrom_81 ?_
  refine WP.iconst (v := 0) dX0_copyFrom_84 rfl ?_
  refine WP.bipush (v := 80) dX0_copyFrom_85 rfl ?_
  obtain ⟨n78, h77, h⟩ := h
  obtain ⟨n80, h79, h⟩ := h
  obtain ⟨h81, h82, h83, h84, h85, h⟩ := h
  have h := h _ rfl
  refine WP.copy hG wm_X0_53 h77 h79 (Nat.le_of_ble_eq_true rfl) (rmok0 d) h81 h82 h83 h84 h85 dX0_copyFrom_87 ?_
  generalize cp2 m72 i75 (0 : Int32).toNatClampNeg i73 (0 : Int32).toNatClampNeg (80 : Int32).toNatClampNeg = m86 at h ⊢
  refine WP.aload_n 1 dX0_copyFrom_90 rfl rfl ?_
  obtain ⟨i87, h88, h⟩ := h
  refine WP.getR 0 8 wf_X0_30 (by decide) (by decide) rfl h1 h88 dX0_copyFrom_91 ?_
  refine WP.iconst (v := 0) dX0_copyFrom_94 rfl ?_
  refine WP.aload_n 0 dX0_copyFrom_95 rfl rfl ?_
  obtain ⟨i89, h90, h⟩ := h
  refine WP.getR 0 8 wf_X0_30 (by decide) (by decide) rfl h4 h90 dX0_copyFrom_96 ?_
  refine WP.iconst (v := 0) dX0_copyFrom_99 rfl ?_
  refine WP.bipush (v := 16) dX0_copyFrom_100 rfl ?_
  obtain ⟨n92, h91, h⟩ := h
  obtain ⟨n94, h93, h⟩ := h
  obtain ⟨h95, h96, h97, h98, h99, h⟩ := h
  have h := h _ rfl
  refine WP.copy hG wm_X0_53 h91 h93 (Nat.le_of_ble_eq_true rfl) (rmok0 d) h95 h96 h97 h98 h99 dX0_copyFrom_102 ?_
  generalize cp2 m86 i89 (0 : Int32).toNatClampNeg i87 (0 : Int32).toNatClampNeg (16 : Int32).toNatClampNeg = m100 at h ⊢
  refine WP.aload_n 0 dX0_copyFrom_105 rfl rfl ?_
  refine WP.aload_n 1 dX0_copyFrom_106 rfl rfl ?_
  refine WP.getI 0 9 wf_X0_59 (by decide) (by decide) rfl h1 dX0_copyFrom_107 ?_
  have h := h _ rfl
  refine WP.putI 0 9 wf_X0_59 (by decide) (by decide) rfl h4 rfl rfl rfl dX0_copyFrom_110 ?_
  generalize up2 m100 b 9 (m100 b1 9) = m101 at h ⊢
  refine WP.aload_n 0 dX0_copyFrom_113 rfl rfl ?_
  refine WP.aload_n 1 dX0_copyFrom_114 rfl rfl ?_
  refine WP.getI 0 10 wf_X0_33 (by decide) (by decide) rfl h1 dX0_copyFrom_115 ?_
  have h := h _ rfl
  refine WP.putI 0 10 wf_X0_33 (by decide) (by decide) rfl h4 rfl rfl rfl dX0_copyFrom_118 ?_
  generalize up2 m101 b 10 (m101 b1 10) = m102 at h ⊢
  refine WP.aload_n 0 dX0_copyFrom_121 rfl rfl ?_
  refine WP.aload_n 1 dX0_copyFrom_122 rfl rfl ?_
  refine WP.getI 0 11 wf_X0_37 (by decide) (by decide) rfl h1 dX0_copyFrom_123 ?_
  have h := h _ rfl
  refine WP.putI 0 11 wf_X0_37 (by decide) (by decide) rfl h4 rfl rfl rfl dX0_copyFrom_126 ?_
  generalize up2 m102 b 11 (m102 b1 11) = m103 at h ⊢
  refine WP.aload_n 0 dX0_copyFrom_129 rfl rfl ?_
  refine WP.aload_n 1 dX0_copyFrom_130 rfl rfl ?_
  refine WP.getI 0 12 wf_X0_62 (by decide) (by decide) rfl h1 dX0_copyFrom_131 ?_
  have h := h _ rfl
  refine WP.putI 0 12 wf_X0_62 (by decide) (by decide) rfl h4 rfl rfl rfl dX0_copyFrom_134 ?_
  generalize up2 m103 b 12 (m103 b1 12) = m104 at h ⊢
  refine WP.aload_n 0 dX0_copyFrom_137 rfl rfl ?_
  refine WP.aload_n 1 dX0_copyFrom_138 rfl rfl ?_
  refine WP.getI 0 13 wf_X0_65 (by decide) (by decide) rfl h1 dX0_copyFrom_139 ?_
  have h := h _ rfl
  refine WP.putI 0 13 wf_X0_65 (by decide) (by decide) rfl h4 rfl rfl rfl dX0_copyFrom_142 ?_
  generalize up2 m104 b 13 (m104 b1 13) = m105 at h ⊢
  refine WP.aload_n 0 dX0_copyFrom_145 rfl rfl ?_
  refine WP.aload_n 1 dX0_copyFrom_146 rfl rfl ?_
  refine WP.getI 0 14 wf_X0_40 (by decide) (by decide) rfl h1 dX0_copyFrom_147 ?_
  have h := h _ rfl
  refine WP.putI 0 14 wf_X0_40 (by decide) (by decide) rfl h4 rfl rfl rfl dX0_copyFrom_150 ?_
  generalize up2 m105 b 14 (m105 b1 14) = m106 at h ⊢
  exact WP.vret dX0_copyFrom_153 rfl (Nat.le_refl _) (Nat.le_refl _) ⟨_, rfl, h⟩
set_option maxHeartbeats 4000000 in
set_option maxRecDepth 20000 in
theorem rg_X0_copyWholeFrom_0 (hG : fl G = false) (b : Nat) (b1 : Nat) (h : sh[b]? = some (.inl 0) ∧ Cal G mX0_copyFrom d [.ref b, .ref b1] sh ta m (fun v1 m2 => v1 = none ∧ ∃ i6, ta b 0 = some i6 ∧ sh[b1]? = some (.inl 0) ∧ ∃ i9, ta b1 0 = some i9 ∧ sh[i6]? = some (.inl 3) ∧ Cal G mX3_copyFrom d [.ref i6, .ref i9] sh ta m2 (fun v11 m12 => v11 = none ∧ ∃ i16, ta b 1 = some i16 ∧ ∃ i18, ta b1 1 = some i18 ∧ sh[i16]? = some (.inl 3) ∧ Cal G mX3_copyFrom d [.ref i16, .ref i18] sh ta m12 (fun v20 m21 => v20 = none ∧ K none m21)))) : WP G (rmD (d + 1) 0 0) mX0_copyWholeFrom (QC G sh ta K) 0 0 0 [(0, .ref b), (1, .ref b1)] [] (sh, ta, m) := by
  refine WP.aload_n 0 dX0_copyWholeFrom_0 rfl rfl ?_
  refine WP.aload_n 1 dX0_copyWholeFrom_1 rfl rfl ?_
  obtain ⟨h5, h⟩ := h
  refine WP.callV (y := mX0_copyFrom) (As := [.ref b1]) (st := []) dX0_copyWholeFrom_2 wm_X0_68 mw_X0_copyFrom rfl (Nat.le_of_ble_eq_true rfl) (rmok d) h5 (by decide) rfl h (fun v1 Sm2 h4 => ?_)
  obtain ⟨m2, rfl, rfl, h⟩ := h4
  show WP G _ _ _ 0 0 5 [(0, .ref b), (1, .ref b1)] [] (sh, ta, m2)
  refine WP.aload_n 0 dX0_copyWholeFrom_5 rfl rfl ?_
  obtain ⟨i6, h7, h⟩ := h
  refine WP.getR 0 0 wf_X0_46 (by decide) (by decide) rfl h5 h7 dX0_copyWholeFrom_6 ?_
  refine WP.aload_n 1 dX0_copyWholeFrom_9 rfl rfl ?_
  obtain ⟨h8, h⟩ := h
  obtain ⟨i9, h10, h⟩ := h
  refine WP.getR 0 0 wf_X0_46 (by decide) (by decide) rfl h8 h10 dX0_copyWholeFrom_10 ?_
  obtain ⟨h15, h⟩ := h
  refine WP.callV (y := mX3_copyFrom) (As := [.ref i9]) (st := []) dX0_copyWholeFrom_13 wm_X0_72 mw_X3_copyFrom rfl (Nat.le_of_ble_eq_true rfl) (rmok d) h15 (by decide) rfl h (fun v11 Sm12 h14 => ?_)
  obtain ⟨m12, rfl, rfl, h⟩ := h14
  show WP G _ _ _ 0 0 16 [(0, .ref b), (1, .ref b1)] [] (sh, ta, m12)
  refine WP.aload_n 0 dX0_copyWholeFrom_16 rfl rfl ?_
  obtain ⟨i16, h17, h⟩ := h
  refine WP.getR 0 1 wf_X0_50 (by decide) (by decide) rfl h5 h17 dX0_copyWholeFrom_17 ?_
  refine WP.aload_n 1 dX0_copyWholeFrom_20 rfl rfl ?_
  obtain ⟨i18, h19, h⟩ := h
  refine WP.getR 0 1 wf_X0_50 (by decide) (by decide) rfl h8 h19 dX0_copyWholeFrom_21 ?_
  obtain ⟨h24, h⟩ := h
  refine WP.callV (y := mX3_copyFrom) (As := [.ref i18]) (st := []) dX0_copyWholeFrom_24 wm_X0_72 mw_X3_copyFrom rfl (Nat.le_of_ble_eq_true rfl) (rmok d) h24 (by decide) rfl h (fun v20 Sm21 h23 => ?_)
  obtain ⟨m21, rfl, rfl, h⟩ := h23
  show WP G _ _ _ 0 0 27 [(0, .ref b), (1, .ref b1)] [] (sh, ta, m21)
  exact WP.vret dX0_copyWholeFrom_27 rfl (Nat.le_refl _) (Nat.le_refl _) ⟨_, rfl, h⟩
set_option maxHeartbeats 4000000 in
set_option maxRecDepth 20000 in
theorem rg_X0_textFor_0 (hG : fl G = false) (b : Nat) (x1 : Int32) (h : ((¬ x1 = 0 → sh[b]? = some (.inl 0) ∧ ∃ i3, ta b 1 = some i3 ∧ K (some (.ref i3)) m) ∧ (x1 = 0 → sh[b]? = some (.inl 0) ∧ ∃ i6, ta b 0 = some i6 ∧ K (some (.ref i6)) m))) : WP G (rmD (d + 1) 0 0) mX0_textFor (QC G sh ta K) 0 0 0 [(0, .ref b), (1, .int x1)] [] (sh, ta, m) := by
  refine WP.iload_n 1 dX0_textFor_0 rfl rfl ?_
  refine WP.if_ne (tgt := 11) dX0_textFor_1 (by decide) (fun c1 => ?_) (fun c1 => ?_)
  · have h := h.1 c1
    refine WP.aload_n 0 dX0_textFor_11 rfl rfl ?_
    obtain ⟨h2, h⟩ := h
    obtain ⟨i3, h4, h⟩ := h
    refine WP.getR 0 1 wf_X0_50 (by decide) (by decide) rfl h2 h4 dX0_textFor_12 ?_
    exact WP.aret dX0_textFor_15 rfl (Nat.le_refl _) (Nat.le_refl _) ⟨_, rfl, h⟩
  · have h := h.2 c1
    refine WP.aload_n 0 dX0_textFor_4 rfl rfl ?_
    obtain ⟨h5, h⟩ := h
    obtain ⟨i6, h7, h⟩ := h
    refine WP.getR 0 0 wf_X0_46 (by decide) (by decide) rfl h5 h7 dX0_textFor_5 ?_
    refine WP.goto (tgt := 15) dX0_textFor_8 (by decide) ?_
    exact WP.aret dX0_textFor_15 rfl (Nat.le_refl _) (Nat.le_refl _) ⟨_, rfl, h⟩
set_option maxHeartbeats 4000000 in
set_option maxRecDepth 20000 in
theorem rg_X0_has_0 (hG : fl G = false) (b : Nat) (x1 : Int32) (h : ((x1 < 0 → K (some (.int 0)) m) ∧ (¬ x1 < 0 → sh[b]? = some (.inl 0) ∧ (((m b 9) ≤ x1 → K (some (.int 0)) m) ∧ (¬ (m b 9) ≤ x1 → (((16 : Int32) ≤ x1 → K (some (.int 0)) m) ∧ (¬ (16 : Int32) ≤ x1 → K (some (.int 1)) m))))))) : WP G (rmD (d + 1) 0 0) mX0_has (QC G sh ta K) 0 0 0 [(0, .ref b), (1, .int x1)] [] (sh, ta, m) := by
  refine WP.iload_n 1 dX0_has_0 rfl rfl ?_
  refine WP.if_lt (tgt := 22) dX0_has_1 (by decide) (fun c1 => ?_) (fun c1 => ?_)
  · have h := h.1 c1
    refine WP.iconst (v := 0) dX0_has_22 rfl ?_
    exact WP.zret dX0_has_23 rfl (Nat.le_refl _) (Nat.le_refl _) rfl ⟨_, rfl, h⟩
  · have h := h.2 c1
    refine WP.iload_n 1 dX0_has_4 rfl rfl ?_
    refine WP.aload_n 0 dX0_has_5 rfl rfl ?_
    obtain ⟨h2, h⟩ := h
    refine WP.getI 0 9 wf_X0_59 (by decide) (by decide) rfl h2 dX0_has_6 ?_
    refine WP.icmp_ge (tgt := 22) dX0_has_9 (by decide) (fun c3 => ?_) (fun c3 => ?_)
    · have h := h.1 c3
      refine WP.iconst (v := 0) dX0_has_22 rfl ?_
      exact WP.zret dX0_has_23 rfl (Nat.le_refl _) (Nat.le_refl _) rfl ⟨_, rfl, h⟩
    · have h := h.2 c3
      refine WP.iload_n 1 dX0_has_12 rfl rfl ?_
      refine WP.bipush (v := 16) dX0_has_13 rfl ?_
      refine WP.icmp_ge (tgt := 22) dX0_has_15 (by decide) (fun c4 => ?_) (fun c4 => ?_)
      · have h := h.1 c4
        refine WP.iconst (v := 0) dX0_has_22 rfl ?_
        exact WP.zret dX0_has_23 rfl (Nat.le_refl _) (Nat.le_refl _) rfl ⟨_, rfl, h⟩
      · have h := h.2 c4
        refine WP.iconst (v := 1) dX0_has_18 rfl ?_
        refine WP.goto (tgt := 23) dX0_has_19 (by decide) ?_
        exact WP.zret dX0_has_23 rfl (Nat.le_refl _) (Nat.le_refl _) rfl ⟨_, rfl, h⟩
set_option maxHeartbeats 4000000 in
set_option maxRecDepth 20000 in
theorem rg_X0_kindOf_0 (hG : fl G = false) (b : Nat) (x1 : Int32) (h : sh[b]? = some (.inl 0) ∧ Cal G mX0_has d [.ref b, .int x1] sh ta m (fun v1 m2 => ∃ r3, v1 = some (.int r3) ∧ ((r3 = 0 → K (some (.int 0)) m2) ∧ (¬ r3 = 0 → ∃ i7, ta b 2 = some i7 ∧ ∃ n10, sh[i7]? = some (.inr (0, n10)) ∧ InB x1 n10 ∧ K (some (.int (rd (m2 i7) x1))) m2)))) : WP G (rmD (d + 1) 0 0) mX0_kindOf (QC G sh ta K) 0 0 0 [(0, .ref b), (1, .int x1)] [] (sh, ta, m) := by
  refine WP.aload_n 0 dX0_kindOf_0 rfl rfl ?_
  refine WP.iload_n 1 dX0_kindOf_1 rfl rfl ?_
  obtain ⟨h5, h⟩ := h
  refine WP.callV (y := mX0_has) (As := [.int x1]) (st := []) dX0_kindOf_2 wm_X0_77 mw_X0_has rfl (Nat.le_of_ble_eq_true rfl) (rmok d) h5 (by decide) rfl h (fun v1 Sm2 h4 => ?_)
  obtain ⟨m2, rfl, r3, rfl, h⟩ := h4
  show WP G _ _ _ 0 0 5 [(0, .ref b), (1, .int x1)] [.int r3] (sh, ta, m2)
  refine WP.if_eq (tgt := 17) dX0_kindOf_5 (by decide) (fun c6 => ?_) (fun c6 => ?_)
  · have h := h.1 c6
    refine WP.iconst (v := 0) dX0_kindOf_17 rfl ?_
    exact WP.iret dX0_kindOf_18 rfl (Nat.le_refl _) (Nat.le_refl _) ⟨_, rfl, h⟩
  · have h := h.2 c6
    refine WP.aload_n 0 dX0_kindOf_8 rfl rfl ?_
    obtain ⟨i7, h8, h⟩ := h
    refine WP.getR 0 2 wf_X0_9 (by decide) (by decide) rfl h5 h8 dX0_kindOf_9 ?_
    refine WP.iload_n 1 dX0_kindOf_12 rfl rfl ?_
    obtain ⟨n10, h9, h⟩ := h
    obtain ⟨h11, h⟩ := h
    refine WP.iald h9 h11 dX0_kindOf_13 ?_
    refine WP.goto (tgt := 18) dX0_kindOf_14 (by decide) ?_
    exact WP.iret dX0_kindOf_18 rfl (Nat.le_refl _) (Nat.le_refl _) ⟨_, rfl, h⟩
set_option maxHeartbeats 4000000 in
set_option maxRecDepth 20000 in
theorem rg_X0_mOf_0 (hG : fl G = false) (b : Nat) (x1 : Int32) (h : sh[b]? = some (.inl 0) ∧ Cal G mX0_has d [.ref b, .int x1] sh ta m (fun v1 m2 => ∃ r3, v1 = some (.int r3) ∧ ((r3 = 0 → K (some (.int 0)) m2) ∧ (¬ r3 = 0 → ∃ i7, ta b 3 = some i7 ∧ ∃ n10, sh[i7]? = some (.inr (0, n10)) ∧ InB x1 n10 ∧ K (some (.int (rd (m2 i7) x1))) m2)))) : WP G (rmD (d + 1) 0 0) mX0_mOf (QC G sh ta K) 0 0 0 [(0, .ref b), (1, .int x1)] [] (sh, ta, m) := by
  refine WP.aload_n 0 dX0_mOf_0 rfl rfl ?_
  refine WP.iload_n 1 dX0_mOf_1 rfl rfl ?_
  obtain ⟨h5, h⟩ := h
  refine WP.callV (y := mX0_has) (As := [.int x1]) (st := []) dX0_mOf_2 wm_X0_77 mw_X0_has rfl (Nat.le_of_ble_eq_true rfl) (rmok d) h5 (by decide) rfl h (fun v1 Sm2 h4 => ?_)
  obtain ⟨m2, rfl, r3, rfl, h⟩ := h4
  show WP G _ _ _ 0 0 5 [(0, .ref b), (1, .int x1)] [.int r3] (sh, ta, m2)
  refine WP.if_eq (tgt := 17) dX0_mOf_5 (by decide) (fun c6 => ?_) (fun c6 => ?_)
  · have h := h.1 c6
    refine WP.iconst (v := 0) dX0_mOf_17 rfl ?_
    exact WP.iret dX0_mOf_18 rfl (Nat.le_refl _) (Nat.le_refl _) ⟨_, rfl, h⟩
  · have h := h.2 c6
    refine WP.aload_n 0 dX0_mOf_8 rfl rfl ?_
    obtain ⟨i7, h8, h⟩ := h
    refine WP.getR 0 3 wf_X0_15 (by decide) (by decide) rfl h5 h8 dX0_mOf_9 ?_
    refine WP.iload_n 1 dX0_mOf_12 rfl rfl ?_
    obtain ⟨n10, h9, h⟩ := h
    obtain ⟨h11, h⟩ := h
    refine WP.iald h9 h11 dX0_mOf_13 ?_
    refine WP.goto (tgt := 18) dX0_mOf_14 (by decide) ?_
    exact WP.iret dX0_mOf_18 rfl (Nat.le_refl _) (Nat.le_refl _) ⟨_, rfl, h⟩
set_option maxHeartbeats 4000000 in
set_option maxRecDepth 20000 in
theorem rg_X0_worthOf_0 (hG : fl G = false) (b : Nat) (x1 : Int32) (h : sh[b]? = some (.inl 0) ∧ Cal G mX0_has d [.ref b, .int x1] sh ta m (fun v1 m2 => ∃ r3, v1 = some (.int r3) ∧ ((r3 = 0 → K (some (.int 0)) m2) ∧ (¬ r3 = 0 → ∃ i7, ta b 4 = some i7 ∧ ∃ n10, sh[i7]? = some (.inr (0, n10)) ∧ InB x1 n10 ∧ K (some (.int (rd (m2 i7) x1))) m2)))) : WP G (rmD (d + 1) 0 0) mX0_worthOf (QC G sh ta K) 0 0 0 [(0, .ref b), (1, .int x1)] [] (sh, ta, m) := by
  refine WP.aload_n 0 dX0_worthOf_0 rfl rfl ?_
  refine WP.iload_n 1 dX0_worthOf_1 rfl rfl ?_
  obtain ⟨h5, h⟩ := h
  refine WP.callV (y := mX0_has) (As := [.int x1]) (st := []) dX0_worthOf_2 wm_X0_77 mw_X0_has rfl (Nat.le_of_ble_eq_true rfl) (rmok d) h5 (by decide) rfl h (fun v1 Sm2 h4 => ?_)
  obtain ⟨m2, rfl, r3, rfl, h⟩ := h4
  show WP G _ _ _ 0 0 5 [(0, .ref b), (1, .int x1)] [.int r3] (sh, ta, m2)
  refine WP.if_eq (tgt := 17) dX0_worthOf_5 (by decide) (fun c6 => ?_) (fun c6 => ?_)
  · have h := h.1 c6
    refine WP.iconst (v := 0) dX0_worthOf_17 rfl ?_
    exact WP.iret dX0_worthOf_18 rfl (Nat.le_refl _) (Nat.le_refl _) ⟨_, rfl, h⟩
  · have h := h.2 c6
    refine WP.aload_n 0 dX0_worthOf_8 rfl rfl ?_
    obtain ⟨i7, h8, h⟩ := h
    refine WP.getR 0 4 wf_X0_18 (by decide) (by decide) rfl h5 h8 dX0_worthOf_9 ?_
    refine WP.iload_n 1 dX0_worthOf_12 rfl rfl ?_
    obtain ⟨n10, h9, h⟩ := h
    obtain ⟨h11, h⟩ := h
    refine WP.iald h9 h11 dX0_worthOf_13 ?_
    refine WP.goto (tgt := 18) dX0_worthOf_14 (by decide) ?_
    exact WP.iret dX0_worthOf_18 rfl (Nat.le_refl _) (Nat.le_refl _) ⟨_, rfl, h⟩
set_option maxHeartbeats 4000000 in
set_option maxRecDepth 20000 in
theorem rg_X0_cellOf_0 (hG : fl G = false) (b : Nat) (x1 : Int32) (h : sh[b]? = some (.inl 0) ∧ Cal G mX0_has d [.ref b, .int x1] sh ta m (fun v1 m2 => ∃ r3, v1 = some (.int r3) ∧ ((r3 = 0 → K (some (.int ((-2)))) m2) ∧ (¬ r3 = 0 → ∃ i7, ta b 5 = some i7 ∧ ∃ n10, sh[i7]? = some (.inr (0, n10)) ∧ InB x1 n10 ∧ K (some (.int (rd (m2 i7) x1))) m2)))) : WP G (rmD (d + 1) 0 0) mX0_cellOf (QC G sh ta K) 0 0 0 [(0, .ref b), (1, .int x1)] [] (sh, ta, m) := by
  refine WP.aload_n 0 dX0_cellOf_0 rfl rfl ?_
  refine WP.iload_n 1 dX0_cellOf_1 rfl rfl ?_
  obtain ⟨h5, h⟩ := h
  refine WP.callV (y := mX0_has) (As := [.int x1]) (st := []) dX0_cellOf_2 wm_X0_77 mw_X0_has rfl (Nat.le_of_ble_eq_true rfl) (rmok d) h5 (by decide) rfl h (fun v1 Sm2 h4 => ?_)
  obtain ⟨m2, rfl, r3, rfl, h⟩ := h4
  show WP G _ _ _ 0 0 5 [(0, .ref b), (1, .int x1)] [.int r3] (sh, ta, m2)
  refine WP.if_eq (tgt := 17) dX0_cellOf_5 (by decide) (fun c6 => ?_) (fun c6 => ?_)
  · have h := h.1 c6
    refine WP.bipush (v := (-2)) dX0_cellOf_17 rfl ?_
    exact WP.iret dX0_cellOf_19 rfl (Nat.le_refl _) (Nat.le_refl _) ⟨_, rfl, h⟩
  · have h := h.2 c6
    refine WP.aload_n 0 dX0_cellOf_8 rfl rfl ?_
    obtain ⟨i7, h8, h⟩ := h
    refine WP.getR 0 5 wf_X0_21 (by decide) (by decide) rfl h5 h8 dX0_cellOf_9 ?_
    refine WP.iload_n 1 dX0_cellOf_12 rfl rfl ?_
    obtain ⟨n10, h9, h⟩ := h
    obtain ⟨h11, h⟩ := h
    refine WP.iald h9 h11 dX0_cellOf_13 ?_
    refine WP.goto (tgt := 19) dX0_cellOf_14 (by decide) ?_
    exact WP.iret dX0_cellOf_19 rfl (Nat.le_refl _) (Nat.le_refl _) ⟨_, rfl, h⟩
set_option maxHeartbeats 4000000 in
set_option maxRecDepth 20000 in
theorem rg_X0_highOf_0 (hG : fl G = false) (b : Nat) (x1 : Int32) (h : Cal G mX5_isCell d [.int x1] sh ta m (fun v1 m2 => ∃ r3, v1 = some (.int r3) ∧ ((r3 = 0 → K (some (.int 0)) m2) ∧ (¬ r3 = 0 → sh[b]? = some (.inl 0) ∧ ∃ i7, ta b 8 = some i7 ∧ ∃ n10, sh[i7]? = some (.inr (0, n10)) ∧ InB x1 n10 ∧ K (some (.int (rd (m2 i7) x1))) m2)))) : WP G (rmD (d + 1) 0 0) mX0_highOf (QC G sh ta K) 0 0 0 [(0, .ref b), (1, .int x1)] [] (sh, ta, m) := by
  refine WP.iload_n 1 dX0_highOf_0 rfl rfl ?_
  refine WP.callSN (y := mX5_isCell) (As := [.int x1]) (st := []) dX0_highOf_1 wm_X0_81 mw_X5_isCell rfl (Nat.le_of_ble_eq_true rfl) (rmok d) h (fun v1 Sm2 h4 => ?_)
  obtain ⟨m2, rfl, r3, rfl, h⟩ := h4
  show WP G _ _ _ 0 0 4 [(0, .ref b), (1, .int x1)] [.int r3] (sh, ta, m2)
  refine WP.if_eq (tgt := 16) dX0_highOf_4 (by decide) (fun c5 => ?_) (fun c5 => ?_)
  · have h := h.1 c5
    refine WP.iconst (v := 0) dX0_highOf_16 rfl ?_
    exact WP.iret dX0_highOf_17 rfl (Nat.le_refl _) (Nat.le_refl _) ⟨_, rfl, h⟩
  · have h := h.2 c5
    refine WP.aload_n 0 dX0_highOf_7 rfl rfl ?_
    obtain ⟨h6, h⟩ := h
    obtain ⟨i7, h8, h⟩ := h
    refine WP.getR 0 8 wf_X0_30 (by decide) (by decide) rfl h6 h8 dX0_highOf_8 ?_
    refine WP.iload_n 1 dX0_highOf_11 rfl rfl ?_
    obtain ⟨n10, h9, h⟩ := h
    obtain ⟨h11, h⟩ := h
    refine WP.iald h9 h11 dX0_highOf_12 ?_
    refine WP.goto (tgt := 17) dX0_highOf_13 (by decide) ?_
    exact WP.iret dX0_highOf_17 rfl (Nat.le_refl _) (Nat.le_refl _) ⟨_, rfl, h⟩
set_option maxHeartbeats 4000000 in
set_option maxRecDepth 20000 in
theorem rg_X0_top_0 (hG : fl G = false) (b : Nat) (x1 : Int32) (h : sh[b]? = some (.inl 0) ∧ Cal G mX0_highOf d [.ref b, .int x1] sh ta m (fun v1 m2 => ∃ r3, v1 = some (.int r3) ∧ Cal G mX0_thingAt d [.ref b, .int x1, .int (r3 - 1)] sh ta m2 (fun v6 m7 => ∃ r8, v6 = some (.int r8) ∧ K (some (.int r8)) m7))) : WP G (rmD (d + 1) 0 0) mX0_top (QC G sh ta K) 0 0 0 [(0, .ref b), (1, .int x1)] [] (sh, ta, m) := by
  refine WP.aload_n 0 dX0_top_0 rfl rfl ?_
  refine WP.iload_n 1 dX0_top_1 rfl rfl ?_
  refine WP.aload_n 0 dX0_top_2 rfl rfl ?_
  refine WP.iload_n 1 dX0_top_3 rfl rfl ?_
  obtain ⟨h5, h⟩ := h
  refine WP.callV (y := mX0_highOf) (As := [.int x1]) (st := [.int x1, .ref b]) dX0_top_4 wm_X0_84 mw_X0_highOf rfl (Nat.le_of_ble_eq_true rfl) (rmok d) h5 (by decide) rfl h (fun v1 Sm2 h4 => ?_)
  obtain ⟨m2, rfl, r3, rfl, h⟩ := h4
  show WP G _ _ _ 0 0 7 [(0, .ref b), (1, .int x1)] [.int r3, .int x1, .ref b] (sh, ta, m2)
  refine WP.iconst (v := 1) dX0_top_7 rfl ?_
  refine WP.isub dX0_top_8 ?_
  refine WP.callV (y := mX0_thingAt) (As := [.int x1, .int (r3 - 1)]) (st := []) dX0_top_9 wm_X0_88 mw_X0_thingAt rfl (Nat.le_of_ble_eq_true rfl) (rmok d) h5 (by decide) rfl h (fun v6 Sm7 h9 => ?_)
  obtain ⟨m7, rfl, r8, rfl, h⟩ := h9
  show WP G _ _ _ 0 0 12 [(0, .ref b), (1, .int x1)] [.int r8] (sh, ta, m7)
  exact WP.iret dX0_top_12 rfl (Nat.le_refl _) (Nat.le_refl _) ⟨_, rfl, h⟩
set_option maxHeartbeats 4000000 in
set_option maxRecDepth 20000 in
theorem rg_X0_thingAt_0 (hG : fl G = false) (b : Nat) (x1 : Int32) (x2 : Int32) (h : Cal G mX5_isCell d [.int x1] sh ta m (fun v1 m2 => ∃ r3, v1 = some (.int r3) ∧ ((r3 = 0 → K (some (.int ((-1)))) m2) ∧ (¬ r3 = 0 → ((x2 < 0 → K (some (.int ((-1)))) m2) ∧ (¬ x2 < 0 → sh[b]? = some (.inl 0) ∧ ∃ i8, ta b 8 = some i8 ∧ ∃ n11, sh[i8]? = some (.inr (0, n11)) ∧ InB x1 n11 ∧ (((rd (m2 i8) x1) ≤ x2 → K (some (.int ((-1)))) m2) ∧ (¬ (rd (m2 i8) x1) ≤ x2 → ((x2 < (5 : Int32) → ∃ i15, ta b 7 = some i15 ∧ ∃ n18, sh[i15]? = some (.inr (0, n18)) ∧ InB ((5 * x1) + x2) n18 ∧ K (some (.int (rd (m2 i15) ((5 * x1) + x2)))) m2) ∧ (¬ x2 < (5 : Int32) → K (some (.int ((-1)))) m2)))))))))) : WP G (rmD (d + 1) 0 0) mX0_thingAt (QC G sh ta K) 0 0 0 [(0, .ref b), (1, .int x1), (2, .int x2)] [] (sh, ta, m) := by
  refine WP.iload_n 1 dX0_thingAt_0 rfl rfl ?_
  refine WP.callSN (y := mX5_isCell) (As := [.int x1]) (st := []) dX0_thingAt_1 wm_X0_81 mw_X5_isCell rfl (Nat.le_of_ble_eq_true rfl) (rmok d) h (fun v1 Sm2 h4 => ?_)
  obtain ⟨m2, rfl, r3, rfl, h⟩ := h4
  show WP G _ _ _ 0 0 4 [(0, .ref b), (1, .int x1), (2, .int x2)] [.int r3] (sh, ta, m2)
  refine WP.if_eq (tgt := 26) dX0_thingAt_4 (by decide) (fun c5 => ?_) (fun c5 => ?_)
  · have h := h.1 c5
    refine WP.iconst (v := (-1)) dX0_thingAt_26 rfl ?_
    exact WP.iret dX0_thingAt_27 rfl (Nat.le_refl _) (Nat.le_refl _) ⟨_, rfl, h⟩
  · have h := h.2 c5
    refine WP.iload_n 2 dX0_thingAt_7 rfl rfl ?_
    refine WP.if_lt (tgt := 26) dX0_thingAt_8 (by decide) (fun c6 => ?_) (fun c6 => ?_)
    · have h := h.1 c6
      refine WP.iconst (v := (-1)) dX0_thingAt_26 rfl ?_
      exact WP.iret dX0_thingAt_27 rfl (Nat.le_refl _) (Nat.le_refl _) ⟨_, rfl, h⟩
    · have h := h.2 c6
      refine WP.iload_n 2 dX0_thingAt_11 rfl rfl ?_
      refine WP.aload_n 0 dX0_thingAt_12 rfl rfl ?_
      obtain ⟨h7, h⟩ := h
      obtain ⟨i8, h9, h⟩ := h
      refine WP.getR 0 8 wf_X0_30 (by decide) (by decide) rfl h7 h9 dX0_thingAt_13 ?_
      refine WP.iload_n 1 dX0_thingAt_16 rfl rfl ?_
      obtain ⟨n11, h10, h⟩ := h
      obtain ⟨h12, h⟩ := h
      refine WP.iald h10 h12 dX0_thingAt_17 ?_
      refine WP.icmp_ge (tgt := 26) dX0_thingAt_18 (by decide) (fun c13 => ?_) (fun c13 => ?_)
      · have h := h.1 c13
        refine WP.iconst (v := (-1)) dX0_thingAt_26 rfl ?_
        exact WP.iret dX0_thingAt_27 rfl (Nat.le_refl _) (Nat.le_refl _) ⟨_, rfl, h⟩
      · have h := h.2 c13
        refine WP.iload_n 2 dX0_thingAt_21 rfl rfl ?_
        refine WP.iconst (v := 5) dX0_thingAt_22 rfl ?_
        refine WP.icmp_lt (tgt := 28) dX0_thingAt_23 (by decide) (fun c14 => ?_) (fun c14 => ?_)
        · have h := h.1 c14
          refine WP.aload_n 0 dX0_thingAt_28 rfl rfl ?_
          obtain ⟨i15, h16, h⟩ := h
          refine WP.getR 0 7 wf_X0_27 (by decide) (by decide) rfl h7 h16 dX0_thingAt_29 ?_
          refine WP.iconst (v := 5) dX0_thingAt_32 rfl ?_
          refine WP.iload_n 1 dX0_thingAt_33 rfl rfl ?_
          refine WP.imul dX0_thingAt_34 ?_
          refine WP.iload_n 2 dX0_thingAt_35 rfl rfl ?_
          refine WP.iadd dX0_thingAt_36 ?_
          obtain ⟨n18, h17, h⟩ := h
          obtain ⟨h19, h⟩ := h
          refine WP.iald h17 h19 dX0_thingAt_37 ?_
          exact WP.iret dX0_thingAt_38 rfl (Nat.le_refl _) (Nat.le_refl _) ⟨_, rfl, h⟩
        · have h := h.2 c14
          refine WP.iconst (v := (-1)) dX0_thingAt_26 rfl ?_
          exact WP.iret dX0_thingAt_27 rfl (Nat.le_refl _) (Nat.le_refl _) ⟨_, rfl, h⟩
set_option maxHeartbeats 4000000 in
set_option maxRecDepth 20000 in
theorem rg_X0_under_0 (hG : fl G = false) (b : Nat) (x1 : Int32) (h : sh[b]? = some (.inl 0) ∧ Cal G mX0_cellOf d [.ref b, .int x1] sh ta m (fun v1 m2 => ∃ r3, v1 = some (.int r3) ∧ ((r3 < 0 → K (some (.int ((-1)))) m2) ∧ (¬ r3 < 0 → ∃ i7, ta b 6 = some i7 ∧ ∃ n10, sh[i7]? = some (.inr (0, n10)) ∧ InB x1 n10 ∧ K (some (.int (rd (m2 i7) x1))) m2)))) : WP G (rmD (d + 1) 0 0) mX0_under (QC G sh ta K) 0 0 0 [(0, .ref b), (1, .int x1)] [] (sh, ta, m) := by
  refine WP.aload_n 0 dX0_under_0 rfl rfl ?_
  refine WP.iload_n 1 dX0_under_1 rfl rfl ?_
  obtain ⟨h5, h⟩ := h
  refine WP.callV (y := mX0_cellOf) (As := [.int x1]) (st := []) dX0_under_2 wm_X0_92 mw_X0_cellOf rfl (Nat.le_of_ble_eq_true rfl) (rmok d) h5 (by decide) rfl h (fun v1 Sm2 h4 => ?_)
  obtain ⟨m2, rfl, r3, rfl, h⟩ := h4
  show WP G _ _ _ 0 0 5 [(0, .ref b), (1, .int x1)] [.int r3] (sh, ta, m2)
  refine WP.if_lt (tgt := 17) dX0_under_5 (by decide) (fun c6 => ?_) (fun c6 => ?_)
  · have h := h.1 c6
    refine WP.iconst (v := (-1)) dX0_under_17 rfl ?_
    exact WP.iret dX0_under_18 rfl (Nat.le_refl _) (Nat.le_refl _) ⟨_, rfl, h⟩
  · have h := h.2 c6
    refine WP.aload_n 0 dX0_under_8 rfl rfl ?_
    obtain ⟨i7, h8, h⟩ := h
    refine WP.getR 0 6 wf_X0_24 (by decide) (by decide) rfl h5 h8 dX0_under_9 ?_
    refine WP.iload_n 1 dX0_under_12 rfl rfl ?_
    obtain ⟨n10, h9, h⟩ := h
    obtain ⟨h11, h⟩ := h
    refine WP.iald h9 h11 dX0_under_13 ?_
    refine WP.goto (tgt := 18) dX0_under_14 (by decide) ?_
    exact WP.iret dX0_under_18 rfl (Nat.le_refl _) (Nat.le_refl _) ⟨_, rfl, h⟩
set_option maxHeartbeats 4000000 in
set_option maxRecDepth 20000 in
theorem rg_X0_on_0 (hG : fl G = false) (b : Nat) (x1 : Int32) (h : sh[b]? = some (.inl 0) ∧ Cal G mX0_cellOf d [.ref b, .int x1] sh ta m (fun v1 m2 => ∃ r3, v1 = some (.int r3) ∧ ((r3 < 0 → K (some (.int ((-1)))) m2) ∧ (¬ r3 < 0 → Cal G mX0_highOf d [.ref b, .int r3] sh ta m2 (fun v7 m8 => ∃ r9, v7 = some (.int r9) ∧ ∃ i11, ta b 6 = some i11 ∧ ∃ n14, sh[i11]? = some (.inr (0, n14)) ∧ InB x1 n14 ∧ K (some (.int ((r9 - 1) - (rd (m8 i11) x1)))) m8))))) : WP G (rmD (d + 1) 0 0) mX0_on (QC G sh ta K) 0 0 0 [(0, .ref b), (1, .int x1)] [] (sh, ta, m) := by
  refine WP.aload_n 0 dX0_on_0 rfl rfl ?_
  refine WP.iload_n 1 dX0_on_1 rfl rfl ?_
  obtain ⟨h5, h⟩ := h
  refine WP.callV (y := mX0_cellOf) (As := [.int x1]) (st := []) dX0_on_2 wm_X0_92 mw_X0_cellOf rfl (Nat.le_of_ble_eq_true rfl) (rmok d) h5 (by decide) rfl h (fun v1 Sm2 h4 => ?_)
  obtain ⟨m2, rfl, r3, rfl, h⟩ := h4
  show WP G _ _ _ 0 0 5 [(0, .ref b), (1, .int x1)] [.int r3] (sh, ta, m2)
  refine WP.istore_n (lv2 := [(2, .int r3), (0, .ref b), (1, .int x1)]) dX0_on_5 rfl (by decide) rfl ?_
  refine WP.iload_n 0 dX0_on_6 rfl rfl ?_
  refine WP.if_lt (tgt := 27) dX0_on_7 (by decide) (fun c6 => ?_) (fun c6 => ?_)
  · have h := h.1 c6
    refine WP.iconst (v := (-1)) dX0_on_27 rfl ?_
    exact WP.iret dX0_on_28 rfl (Nat.le_refl _) (Nat.le_refl _) ⟨_, rfl, h⟩
  · have h := h.2 c6
    refine WP.aload_n 1 dX0_on_10 rfl rfl ?_
    refine WP.iload_n 0 dX0_on_11 rfl rfl ?_
    refine WP.callV (y := mX0_highOf) (As := [.int r3]) (st := []) dX0_on_12 wm_X0_84 mw_X0_highOf rfl (Nat.le_of_ble_eq_true rfl) (rmok d) h5 (by decide) rfl h (fun v7 Sm8 h10 => ?_)
    obtain ⟨m8, rfl, r9, rfl, h⟩ := h10
    show WP G _ _ _ 0 0 15 [(2, .int r3), (0, .ref b), (1, .int x1)] [.int r9] (sh, ta, m8)
    refine WP.iconst (v := 1) dX0_on_15 rfl ?_
    refine WP.isub dX0_on_16 ?_
    refine WP.aload_n 1 dX0_on_17 rfl rfl ?_
    obtain ⟨i11, h12, h⟩ := h
    refine WP.getR 0 6 wf_X0_24 (by decide) (by decide) rfl h5 h12 dX0_on_18 ?_
    refine WP.iload_n 2 dX0_on_21 rfl rfl ?_
    obtain ⟨n14, h13, h⟩ := h
    obtain ⟨h15, h⟩ := h
    refine WP.iald h13 h15 dX0_on_22 ?_
    refine WP.isub dX0_on_23 ?_
    refine WP.goto (tgt := 28) dX0_on_24 (by decide) ?_
    exact WP.iret dX0_on_28 rfl (Nat.le_refl _) (Nat.le_refl _) ⟨_, rfl, h⟩
set_option maxHeartbeats 4000000 in
set_option maxRecDepth 20000 in
theorem rg_X0_add_0 (hG : fl G = false) (b : Nat) (x1 : Int32) (x2 : Int32) (x3 : Int32) (h : sh[b]? = some (.inl 0) ∧ (((m b 9) < 0 → K (some (.int ((-1)))) m) ∧ (¬ (m b 9) < 0 → (((m b 9) < (16 : Int32) → ∃ i4, ta b 2 = some i4 ∧ ∃ n7, sh[i4]? = some (.inr (0, n7)) ∧ InB (m b 9) n7 ∧ ∀ m9, m9 = upa m i4 (m b 9) x1 → ∃ i10, ta b 3 = some i10 ∧ ∃ n13, sh[i10]? = some (.inr (0, n13)) ∧ InB (m b 9) n13 ∧ ∀ m15, m15 = upa m9 i10 (m b 9) x2 → ∃ i16, ta b 4 = some i16 ∧ ∃ n19, sh[i16]? = some (.inr (0, n19)) ∧ InB (m b 9) n19 ∧ ∀ m21, m21 = upa m15 i16 (m b 9) (10 : Int32) → ∃ i22, ta b 5 = some i22 ∧ ∃ n25, sh[i22]? = some (.inr (0, n25)) ∧ InB (m b 9) n25 ∧ ∀ m27, m27 = upa m21 i22 (m b 9) ((-2) : Int32) → ∀ m28, m28 = up2 m27 b 9 ((m27 b 9) + 1) → Cal G mX0_lower d [.ref b, .int (m b 9), .int x3] sh ta m28 (fun v29 m30 => v29 = none ∧ K (some (.int (m b 9))) m30)) ∧ (¬ (m b 9) < (16 : Int32) → K (some (.int ((-1)))) m))))) : WP G (rmD (d + 1) 0 0) mX0_add (QC G sh ta K) 0 0 0 [(0, .ref b), (1, .int x1), (2, .int x2), (3, .int x3)] [] (sh, ta, m) := by
  refine WP.aload_n 0 dX0_add_0 rfl rfl ?_
  obtain ⟨h1, h⟩ := h
  refine WP.getI 0 9 wf_X0_59 (by decide) (by decide) rfl h1 dX0_add_1 ?_
  refine WP.istore (lv2 := [(4, .int (m b 9)), (0, .ref b), (1, .int x1), (2, .int x2), (3, .int x3)]) dX0_add_4 (by decide) rfl ?_
  refine WP.iload 0 dX0_add_6 rfl ?_
  refine WP.if_lt (tgt := 18) dX0_add_8 (by decide) (fun c2 => ?_) (fun c2 => ?_)
  · have h := h.1 c2
    refine WP.iconst (v := (-1)) dX0_add_18 rfl ?_
    exact WP.iret dX0_add_19 rfl (Nat.le_refl _) (Nat.le_refl _) ⟨_, rfl, h⟩
  · have h := h.2 c2
    refine WP.iload 0 dX0_add_11 rfl ?_
    refine WP.bipush (v := 16) dX0_add_13 rfl ?_
    refine WP.icmp_lt (tgt := 20) dX0_add_15 (by decide) (fun c3 => ?_) (fun c3 => ?_)
    · have h := h.1 c3
      refine WP.aload_n 1 dX0_add_20 rfl rfl ?_
      obtain ⟨i4, h5, h⟩ := h
      refine WP.getR 0 2 wf_X0_9 (by decide) (by decide) rfl h1 h5 dX0_add_21 ?_
      refine WP.iload 0 dX0_add_24 rfl ?_
      refine WP.iload_n 2 dX0_add_26 rfl rfl ?_
      obtain ⟨n7, h6, h⟩ := h
      obtain ⟨h8, h⟩ := h
      have h := h _ rfl
      refine WP.iast h6 h8 dX0_add_27 ?_
      generalize upa m i4 (m b 9) x1 = m9 at h ⊢
      refine WP.aload_n 1 dX0_add_28 rfl rfl ?_
      obtain ⟨i10, h11, h⟩ := h
      refine WP.getR 0 3 wf_X0_15 (by decide) (by decide) rfl h1 h11 dX0_add_29 ?_
      refine WP.iload 0 dX0_add_32 rfl ?_
      refine WP.iload_n 3 dX0_add_34 rfl rfl ?_
      obtain ⟨n13, h12, h⟩ := h
      obtain ⟨h14, h⟩ := h
      have h := h _ rfl
      refine WP.iast h12 h14 dX0_add_35 ?_
      generalize upa m9 i10 (m b 9) x2 = m15 at h ⊢
      refine WP.aload_n 1 dX0_add_36 rfl rfl ?_
      obtain ⟨i16, h17, h⟩ := h
      refine WP.getR 0 4 wf_X0_18 (by decide) (by decide) rfl h1 h17 dX0_add_37 ?_
      refine WP.iload 0 dX0_add_40 rfl ?_
      refine WP.bipush (v := 10) dX0_add_42 rfl ?_
      obtain ⟨n19, h18, h⟩ := h
      obtain ⟨h20, h⟩ := h
      have h := h _ rfl
      refine WP.iast h18 h20 dX0_add_44 ?_
      generalize upa m15 i16 (m b 9) (10 : Int32) = m21 at h ⊢
      refine WP.aload_n 1 dX0_add_45 rfl rfl ?_
      obtain ⟨i22, h23, h⟩ := h
      refine WP.getR 0 5 wf_X0_21 (by decide) (by decide) rfl h1 h23 dX0_add_46 ?_
      refine WP.iload 0 dX0_add_49 rfl ?_
      refine WP.bipush (v := (-2)) dX0_add_51 rfl ?_
      obtain ⟨n25, h24, h⟩ := h
      obtain ⟨h26, h⟩ := h
      have h := h _ rfl
      refine WP.iast h24 h26 dX0_add_53 ?_
      generalize upa m21 i22 (m b 9) ((-2) : Int32) = m27 at h ⊢
      refine WP.aload_n 1 dX0_add_54 rfl rfl ?_
      refine WP.dup dX0_add_55 rfl ?_
      refine WP.getI 0 9 wf_X0_59 (by decide) (by decide) rfl h1 dX0_add_56 ?_
      refine WP.iconst (v := 1) dX0_add_59 rfl ?_
      refine WP.iadd dX0_add_60 ?_
      have h := h _ rfl
      refine WP.putI 0 9 wf_X0_59 (by decide) (by decide) rfl h1 rfl rfl rfl dX0_add_61 ?_
      generalize up2 m27 b 9 ((m27 b 9) + 1) = m28 at h ⊢
      refine WP.aload_n 1 dX0_add_64 rfl rfl ?_
      refine WP.iload 0 dX0_add_65 rfl ?_
      refine WP.iload_n 4 dX0_add_67 rfl rfl ?_
      refine WP.callV (y := mX0_lower) (As := [.int (m b 9), .int x3]) (st := []) dX0_add_68 wm_X0_95 mw_X0_lower rfl (Nat.le_of_ble_eq_true rfl) (rmok d) h1 (by decide) rfl h (fun v29 Sm30 h32 => ?_)
      obtain ⟨m30, rfl, rfl, h⟩ := h32
      show WP G _ _ _ 0 0 71 [(4, .int (m b 9)), (0, .ref b), (1, .int x1), (2, .int x2), (3, .int x3)] [] (sh, ta, m30)
      refine WP.iload 0 dX0_add_71 rfl ?_
      exact WP.iret dX0_add_73 rfl (Nat.le_refl _) (Nat.le_refl _) ⟨_, rfl, h⟩
    · have h := h.2 c3
      refine WP.iconst (v := (-1)) dX0_add_18 rfl ?_
      exact WP.iret dX0_add_19 rfl (Nat.le_refl _) (Nat.le_refl _) ⟨_, rfl, h⟩
set_option maxHeartbeats 4000000 in
set_option maxRecDepth 20000 in
theorem rg_X0_become_0 (hG : fl G = false) (b : Nat) (x1 : Int32) (x2 : Int32) (x3 : Int32) (h : sh[b]? = some (.inl 0) ∧ Cal G mX0_has d [.ref b, .int x1] sh ta m (fun v1 m2 => ∃ r3, v1 = some (.int r3) ∧ ((¬ r3 = 0 → ((¬ x2 = 0 → ((¬ x2 = (1 : Int32) → ∃ i9, ta b 4 = some i9 ∧ ∃ n12, sh[i9]? = some (.inr (0, n12)) ∧ InB x1 n12 ∧ InB x1 n12 ∧ ∀ m15, m15 = upa m2 i9 x1 x3 → K (some (.int (rd (m2 i9) x1))) m15) ∧ (x2 = (1 : Int32) → ∃ i16, ta b 3 = some i16 ∧ ∃ n19, sh[i16]? = some (.inr (0, n19)) ∧ InB x1 n19 ∧ InB x1 n19 ∧ ∀ m22, m22 = upa m2 i16 x1 x3 → K (some (.int (rd (m2 i16) x1))) m22))) ∧ (x2 = 0 → ∃ i23, ta b 2 = some i23 ∧ ∃ n26, sh[i23]? = some (.inr (0, n26)) ∧ InB x1 n26 ∧ InB x1 n26 ∧ ∀ m29, m29 = upa m2 i23 x1 x3 → K (some (.int (rd (m2 i23) x1))) m29))) ∧ (r3 = 0 → K (some (.int ((-1)))) m2)))) : WP G (rmD (d + 1) 0 0) mX0_become (QC G sh ta K) 0 0 0 [(0, .ref b), (1, .int x1), (2, .int x2), (3, .int x3)] [] (sh, ta, m) := by
  refine WP.aload_n 0 dX0_become_0 rfl rfl ?_
  refine WP.iload_n 1 dX0_become_1 rfl rfl ?_
  obtain ⟨h5, h⟩ := h
  refine WP.callV (y := mX0_has) (As := [.int x1]) (st := []) dX0_become_2 wm_X0_77 mw_X0_has rfl (Nat.le_of_ble_eq_true rfl) (rmok d) h5 (by decide) rfl h (fun v1 Sm2 h4 => ?_)
  obtain ⟨m2, rfl, r3, rfl, h⟩ := h4
  show WP G _ _ _ 0 0 5 [(0, .ref b), (1, .int x1), (2, .int x2), (3, .int x3)] [.int r3] (sh, ta, m2)
  refine WP.if_ne (tgt := 10) dX0_become_5 (by decide) (fun c6 => ?_) (fun c6 => ?_)
  · have h := h.1 c6
    refine WP.iload_n 2 dX0_become_10 rfl rfl ?_
    refine WP.if_ne (tgt := 21) dX0_become_11 (by decide) (fun c7 => ?_) (fun c7 => ?_)
    · have h := h.1 c7
      refine WP.iload_n 2 dX0_become_21 rfl rfl ?_
      refine WP.iconst (v := 1) dX0_become_22 rfl ?_
      refine WP.icmp_ne (tgt := 33) dX0_become_23 (by decide) (fun c8 => ?_) (fun c8 => ?_)
      · have h := h.1 c8
        refine WP.aload_n 0 dX0_become_33 rfl rfl ?_
        obtain ⟨i9, h10, h⟩ := h
        refine WP.getR 0 4 wf_X0_18 (by decide) (by decide) rfl h5 h10 dX0_become_34 ?_
        refine WP.astore (lv2 := [(4, .ref i9), (0, .ref b), (1, .int x1), (2, .int x2), (3, .int x3)]) dX0_become_37 (by decide) rfl ?_
        refine WP.aload 0 dX0_become_39 rfl ?_
        refine WP.iload_n 2 dX0_become_41 rfl rfl ?_
        obtain ⟨n12, h11, h⟩ := h
        obtain ⟨h13, h⟩ := h
        refine WP.iald h11 h13 dX0_become_42 ?_
        refine WP.istore (lv2 := [(5, .int (rd (m2 i9) x1)), (4, .ref i9), (0, .ref b), (1, .int x1), (2, .int x2), (3, .int x3)]) dX0_become_43 (by decide) rfl ?_
        refine WP.aload 1 dX0_become_45 rfl ?_
        refine WP.iload_n 3 dX0_become_47 rfl rfl ?_
        refine WP.iload_n 5 dX0_become_48 rfl rfl ?_
        obtain ⟨h14, h⟩ := h
        have h := h _ rfl
        refine WP.iast h11 h14 dX0_become_49 ?_
        generalize upa m2 i9 x1 x3 = m15 at h ⊢
        refine WP.iload 0 dX0_become_50 rfl ?_
        exact WP.iret dX0_become_52 rfl (Nat.le_refl _) (Nat.le_refl _) ⟨_, rfl, h⟩
      · have h := h.2 c8
        refine WP.aload_n 0 dX0_become_26 rfl rfl ?_
        obtain ⟨i16, h17, h⟩ := h
        refine WP.getR 0 3 wf_X0_15 (by decide) (by decide) rfl h5 h17 dX0_become_27 ?_
        refine WP.goto (tgt := 37) dX0_become_30 (by decide) ?_
        refine WP.astore (lv2 := [(4, .ref i16), (0, .ref b), (1, .int x1), (2, .int x2), (3, .int x3)]) dX0_become_37 (by decide) rfl ?_
        refine WP.aload 0 dX0_become_39 rfl ?_
        refine WP.iload_n 2 dX0_become_41 rfl rfl ?_
        obtain ⟨n19, h18, h⟩ := h
        obtain ⟨h20, h⟩ := h
        refine WP.iald h18 h20 dX0_become_42 ?_
        refine WP.istore (lv2 := [(5, .int (rd (m2 i16) x1)), (4, .ref i16), (0, .ref b), (1, .int x1), (2, .int x2), (3, .int x3)]) dX0_become_43 (by decide) rfl ?_
        refine WP.aload 1 dX0_become_45 rfl ?_
        refine WP.iload_n 3 dX0_become_47 rfl rfl ?_
        refine WP.iload_n 5 dX0_become_48 rfl rfl ?_
        obtain ⟨h21, h⟩ := h
        have h := h _ rfl
        refine WP.iast h18 h21 dX0_become_49 ?_
        generalize upa m2 i16 x1 x3 = m22 at h ⊢
        refine WP.iload 0 dX0_become_50 rfl ?_
        exact WP.iret dX0_become_52 rfl (Nat.le_refl _) (Nat.le_refl _) ⟨_, rfl, h⟩
    · have h := h.2 c7
      refine WP.aload_n 0 dX0_become_14 rfl rfl ?_
      obtain ⟨i23, h24, h⟩ := h
      refine WP.getR 0 2 wf_X0_9 (by decide) (by decide) rfl h5 h24 dX0_become_15 ?_
      refine WP.goto (tgt := 37) dX0_become_18 (by decide) ?_
      refine WP.astore (lv2 := [(4, .ref i23), (0, .ref b), (1, .int x1), (2, .int x2), (3, .int x3)]) dX0_become_37 (by decide) rfl ?_
      refine WP.aload 0 dX0_become_39 rfl ?_
      refine WP.iload_n 2 dX0_become_41 rfl rfl ?_
      obtain ⟨n26, h25, h⟩ := h
      obtain ⟨h27, h⟩ := h
      refine WP.iald h25 h27 dX0_become_42 ?_
      refine WP.istore (lv2 := [(5, .int (rd (m2 i23) x1)), (4, .ref i23), (0, .ref b), (1, .int x1), (2, .int x2), (3, .int x3)]) dX0_become_43 (by decide) rfl ?_
      refine WP.aload 1 dX0_become_45 rfl ?_
      refine WP.iload_n 3 dX0_become_47 rfl rfl ?_
      refine WP.iload_n 5 dX0_become_48 rfl rfl ?_
      obtain ⟨h28, h⟩ := h
      have h := h _ rfl
      refine WP.iast h25 h28 dX0_become_49 ?_
      generalize upa m2 i23 x1 x3 = m29 at h ⊢
      refine WP.iload 0 dX0_become_50 rfl ?_
      exact WP.iret dX0_become_52 rfl (Nat.le_refl _) (Nat.le_refl _) ⟨_, rfl, h⟩
  · have h := h.2 c6
    refine WP.iconst (v := (-1)) dX0_become_8 rfl ?_
    exact WP.iret dX0_become_9 rfl (Nat.le_refl _) (Nat.le_refl _) ⟨_, rfl, h⟩
set_option maxHeartbeats 4000000 in
set_option maxRecDepth 20000 in
theorem rg_X0_lower_0 (hG : fl G = false) (b : Nat) (x1 : Int32) (x2 : Int32) (h : sh[b]? = some (.inl 0) ∧ Cal G mX0_highOf d [.ref b, .int x2] sh ta m (fun v1 m2 => ∃ r3, v1 = some (.int r3) ∧ Cal G mX5_isCell d [.int x2] sh ta m2 (fun v6 m7 => ∃ r8, v6 = some (.int r8) ∧ ((r8 = 0 → K none m7) ∧ (¬ r8 = 0 → (((5 : Int32) ≤ r3 → K none m7) ∧ (¬ (5 : Int32) ≤ r3 → ∃ i12, ta b 8 = some i12 ∧ ∃ n15, sh[i12]? = some (.inr (0, n15)) ∧ InB x2 n15 ∧ InB x2 n15 ∧ ∀ m18, m18 = upa m7 i12 x2 ((rd (m7 i12) x2) + 1) → Cal G mX0_place d [.ref b, .int x1, .int x2, .int r3] sh ta m18 (fun v19 m20 => v19 = none ∧ K none m20)))))))) : WP G (rmD (d + 1) 0 0) mX0_lower (QC G sh ta K) 0 0 0 [(0, .ref b), (1, .int x1), (2, .int x2)] [] (sh, ta, m) := by
  refine WP.aload_n 0 dX0_lower_0 rfl rfl ?_
  refine WP.iload_n 2 dX0_lower_1 rfl rfl ?_
  obtain ⟨h5, h⟩ := h
  refine WP.callV (y := mX0_highOf) (As := [.int x2]) (st := []) dX0_lower_2 wm_X0_84 mw_X0_highOf rfl (Nat.le_of_ble_eq_true rfl) (rmok d) h5 (by decide) rfl h (fun v1 Sm2 h4 => ?_)
  obtain ⟨m2, rfl, r3, rfl, h⟩ := h4
  show WP G _ _ _ 0 0 5 [(0, .ref b), (1, .int x1), (2, .int x2)] [.int r3] (sh, ta, m2)
  refine WP.istore_n (lv2 := [(3, .int r3), (0, .ref b), (1, .int x1), (2, .int x2)]) dX0_lower_5 rfl (by decide) rfl ?_
  refine WP.iload_n 3 dX0_lower_6 rfl rfl ?_
  refine WP.callSN (y := mX5_isCell) (As := [.int x2]) (st := []) dX0_lower_7 wm_X0_81 mw_X5_isCell rfl (Nat.le_of_ble_eq_true rfl) (rmok d) h (fun v6 Sm7 h9 => ?_)
  obtain ⟨m7, rfl, r8, rfl, h⟩ := h9
  show WP G _ _ _ 0 0 10 [(3, .int r3), (0, .ref b), (1, .int x1), (2, .int x2)] [.int r8] (sh, ta, m7)
  refine WP.if_eq (tgt := 35) dX0_lower_10 (by decide) (fun c10 => ?_) (fun c10 => ?_)
  · have h := h.1 c10
    exact WP.vret dX0_lower_35 rfl (Nat.le_refl _) (Nat.le_refl _) ⟨_, rfl, h⟩
  · have h := h.2 c10
    refine WP.iload_n 0 dX0_lower_13 rfl rfl ?_
    refine WP.iconst (v := 5) dX0_lower_14 rfl ?_
    refine WP.icmp_ge (tgt := 35) dX0_lower_15 (by decide) (fun c11 => ?_) (fun c11 => ?_)
    · have h := h.1 c11
      exact WP.vret dX0_lower_35 rfl (Nat.le_refl _) (Nat.le_refl _) ⟨_, rfl, h⟩
    · have h := h.2 c11
      refine WP.aload_n 1 dX0_lower_18 rfl rfl ?_
      obtain ⟨i12, h13, h⟩ := h
      refine WP.getR 0 8 wf_X0_30 (by decide) (by decide) rfl h5 h13 dX0_lower_19 ?_
      refine WP.iload_n 3 dX0_lower_22 rfl rfl ?_
      refine WP.dup2 dX0_lower_23 rfl rfl ?_
      obtain ⟨n15, h14, h⟩ := h
      obtain ⟨h16, h⟩ := h
      refine WP.iald h14 h16 dX0_lower_24 ?_
      refine WP.iconst (v := 1) dX0_lower_25 rfl ?_
      refine WP.iadd dX0_lower_26 ?_
      obtain ⟨h17, h⟩ := h
      have h := h _ rfl
      refine WP.iast h14 h17 dX0_lower_27 ?_
      generalize upa m7 i12 x2 ((rd (m7 i12) x2) + 1) = m18 at h ⊢
      refine WP.aload_n 1 dX0_lower_28 rfl rfl ?_
      refine WP.iload_n 2 dX0_lower_29 rfl rfl ?_
      refine WP.iload_n 3 dX0_lower_30 rfl rfl ?_
      refine WP.iload_n 0 dX0_lower_31 rfl rfl ?_
      refine WP.callV (y := mX0_place) (As := [.int x1, .int x2, .int r3]) (st := []) dX0_lower_32 wm_X0_99 mw_X0_place rfl (Nat.le_of_ble_eq_true rfl) (rmok d) h5 (by decide) rfl h (fun v19 Sm20 h22 => ?_)
      obtain ⟨m20, rfl, rfl, h⟩ := h22
      show WP G _ _ _ 0 0 35 [(3, .int r3), (0, .ref b), (1, .int x1), (2, .int x2)] [] (sh, ta, m20)
      exact WP.vret dX0_lower_35 rfl (Nat.le_refl _) (Nat.le_refl _) ⟨_, rfl, h⟩
set_option maxHeartbeats 4000000 in
set_option maxRecDepth 20000 in
theorem rg_X0_take_0 (hG : fl G = false) (b : Nat) (x1 : Int32) (x2 : Int32) (h : sh[b]? = some (.inl 0) ∧ Cal G mX0_cellOf d [.ref b, .int x1] sh ta m (fun v1 m2 => ∃ r3, v1 = some (.int r3) ∧ Cal G mX0_has d [.ref b, .int x1] sh ta m2 (fun v6 m7 => ∃ r8, v6 = some (.int r8) ∧ ((r8 = 0 → K none m7) ∧ (¬ r8 = 0 → Cal G mX5_isCell d [.int r3] sh ta m7 (fun v11 m12 => ∃ r13, v11 = some (.int r13) ∧ ((¬ r13 = 0 → Cal G mX0_under d [.ref b, .int x1] sh ta m12 (fun v16 m17 => ∃ r18, v16 = some (.int r18) ∧ WP G (rmD (d + 1) 0 0) mX0_take (QC G sh ta K) 0 0 29 [(0, .ref b), (1, .int x1), (2, .int x2), (3, .int r3), (4, .int r18)] [] (sh, ta, m17))) ∧ (r13 = 0 → K none m12)))))))) : WP G (rmD (d + 1) 0 0) mX0_take (QC G sh ta K) 0 0 0 [(0, .ref b), (1, .int x1), (2, .int x2)] [] (sh, ta, m) := by
  refine WP.aload_n 0 dX0_take_0 rfl rfl ?_
  refine WP.iload_n 1 dX0_take_1 rfl rfl ?_
  obtain ⟨h5, h⟩ := h
  refine WP.callV (y := mX0_cellOf) (As := [.int x1]) (st := []) dX0_take_2 wm_X0_92 mw_X0_cellOf rfl (Nat.le_of_ble_eq_true rfl) (rmok d) h5 (by decide) rfl h (fun v1 Sm2 h4 => ?_)
  obtain ⟨m2, rfl, r3, rfl, h⟩ := h4
  show WP G _ _ _ 0 0 5 [(0, .ref b), (1, .int x1), (2, .int x2)] [.int r3] (sh, ta, m2)
  refine WP.istore_n (lv2 := [(3, .int r3), (0, .ref b), (1, .int x1), (2, .int x2)]) dX0_take_5 rfl (by decide) rfl ?_
  refine WP.aload_n 1 dX0_take_6 rfl rfl ?_
  refine WP.iload_n 2 dX0_take_7 rfl rfl ?_
  refine WP.callV (y := mX0_has) (As := [.int x1]) (st := []) dX0_take_8 wm_X0_77 mw_X0_has rfl (Nat.le_of_ble_eq_true rfl) (rmok d) h5 (by decide) rfl h (fun v6 Sm7 h9 => ?_)
  obtain ⟨m7, rfl, r8, rfl, h⟩ := h9
  show WP G _ _ _ 0 0 11 [(3, .int r3), (0, .ref b), (1, .int x1), (2, .int x2)] [.int r8] (sh, ta, m7)
  refine WP.if_eq (tgt := 21) dX0_take_11 (by decide) (fun c10 => ?_) (fun c10 => ?_)
  · have h := h.1 c10
    exact WP.vret dX0_take_21 rfl (Nat.le_refl _) (Nat.le_refl _) ⟨_, rfl, h⟩
  · have h := h.2 c10
    refine WP.iload_n 0 dX0_take_14 rfl rfl ?_
    refine WP.callSN (y := mX5_isCell) (As := [.int r3]) (st := []) dX0_take_15 wm_X0_81 mw_X5_isCell rfl (Nat.le_of_ble_eq_true rfl) (rmok d) h (fun v11 Sm12 h14 => ?_)
    obtain ⟨m12, rfl, r13, rfl, h⟩ := h14
    show WP G _ _ _ 0 0 18 [(3, .int r3), (0, .ref b), (1, .int x1), (2, .int x2)] [.int r13] (sh, ta, m12)
    refine WP.if_ne (tgt := 22) dX0_take_18 (by decide) (fun c15 => ?_) (fun c15 => ?_)
    · have h := h.1 c15
      refine WP.aload_n 1 dX0_take_22 rfl rfl ?_
      refine WP.iload_n 2 dX0_take_23 rfl rfl ?_
      refine WP.callV (y := mX0_under) (As := [.int x1]) (st := []) dX0_take_24 wm_X0_103 mw_X0_under rfl (Nat.le_of_ble_eq_true rfl) (rmok d) h5 (by decide) rfl h (fun v16 Sm17 h19 => ?_)
      obtain ⟨m17, rfl, r18, rfl, h⟩ := h19
      show WP G _ _ _ 0 0 27 [(3, .int r3), (0, .ref b), (1, .int x1), (2, .int x2)] [.int r18] (sh, ta, m17)
      refine WP.istore (lv2 := [(4, .int r18), (3, .int r3), (0, .ref b), (1, .int x1), (2, .int x2)]) dX0_take_27 (by decide) rfl ?_
      exact WP.pick [2, 3, 4, 1, 0] rfl h
    · have h := h.2 c15
      exact WP.vret dX0_take_21 rfl (Nat.le_refl _) (Nat.le_refl _) ⟨_, rfl, h⟩
set_option maxHeartbeats 4000000 in
set_option maxRecDepth 20000 in
theorem rg_X0_take_29 (hG : fl G = false) (b : Nat) (x1 : Int32) (x2 : Int32) (x3 : Int32) (x4 : Int32) (h : sh[b]? = some (.inl 0) ∧ Cal G mX0_highOf d [.ref b, .int x3] sh ta m (fun v1 m2 => ∃ r3, v1 = some (.int r3) ∧ (((r3 - 1) ≤ x4 → ∃ i7, ta b 8 = some i7 ∧ ∃ n10, sh[i7]? = some (.inr (0, n10)) ∧ InB x3 n10 ∧ InB x3 n10 ∧ ∀ m13, m13 = upa m2 i7 x3 ((rd (m2 i7) x3) - 1) → ∃ i14, ta b 5 = some i14 ∧ ∃ n17, sh[i14]? = some (.inr (0, n17)) ∧ InB x1 n17 ∧ ∀ m19, m19 = upa m13 i14 x1 x2 → K none m19) ∧ (¬ (r3 - 1) ≤ x4 → Cal G mX0_thingAt d [.ref b, .int x3, .int (x4 + 1)] sh ta m2 (fun v20 m21 => ∃ r22, v20 = some (.int r22) ∧ Cal G mX0_place d [.ref b, .int r22, .int x3, .int x4] sh ta m21 (fun v24 m25 => v24 = none ∧ WP G (rmD (d + 1) 0 0) mX0_take (QC G sh ta K) 0 0 29 [(0, .ref b), (1, .int x1), (2, .int x2), (3, .int x3), (4, .int (x4 + 1))] [] (sh, ta, m25))))))) : WP G (rmD (d + 1) 0 0) mX0_take (QC G sh ta K) 0 0 29 [(0, .ref b), (1, .int x1), (2, .int x2), (3, .int x3), (4, .int x4)] [] (sh, ta, m) := by
  refine WP.iload 4 dX0_take_29 rfl ?_
  refine WP.aload_n 0 dX0_take_31 rfl rfl ?_
  refine WP.iload_n 3 dX0_take_32 rfl rfl ?_
  obtain ⟨h5, h⟩ := h
  refine WP.callV (y := mX0_highOf) (As := [.int x3]) (st := [.int x4]) dX0_take_33 wm_X0_84 mw_X0_highOf rfl (Nat.le_of_ble_eq_true rfl) (rmok d) h5 (by decide) rfl h (fun v1 Sm2 h4 => ?_)
  obtain ⟨m2, rfl, r3, rfl, h⟩ := h4
  show WP G _ _ _ 0 0 36 [(0, .ref b), (1, .int x1), (2, .int x2), (3, .int x3), (4, .int x4)] [.int r3, .int x4] (sh, ta, m2)
  refine WP.iconst (v := 1) dX0_take_36 rfl ?_
  refine WP.isub dX0_take_37 ?_
  refine WP.icmp_ge (tgt := 63) dX0_take_38 (by decide) (fun c6 => ?_) (fun c6 => ?_)
  · have h := h.1 c6
    refine WP.aload_n 0 dX0_take_63 rfl rfl ?_
    obtain ⟨i7, h8, h⟩ := h
    refine WP.getR 0 8 wf_X0_30 (by decide) (by decide) rfl h5 h8 dX0_take_64 ?_
    refine WP.iload_n 3 dX0_take_67 rfl rfl ?_
    refine WP.dup2 dX0_take_68 rfl rfl ?_
    obtain ⟨n10, h9, h⟩ := h
    obtain ⟨h11, h⟩ := h
    refine WP.iald h9 h11 dX0_take_69 ?_
    refine WP.iconst (v := 1) dX0_take_70 rfl ?_
    refine WP.isub dX0_take_71 ?_
    obtain ⟨h12, h⟩ := h
    have h := h _ rfl
    refine WP.iast h9 h12 dX0_take_72 ?_
    generalize upa m2 i7 x3 ((rd (m2 i7) x3) - 1) = m13 at h ⊢
    refine WP.aload_n 0 dX0_take_73 rfl rfl ?_
    obtain ⟨i14, h15, h⟩ := h
    refine WP.getR 0 5 wf_X0_21 (by decide) (by decide) rfl h5 h15 dX0_take_74 ?_
    refine WP.iload_n 1 dX0_take_77 rfl rfl ?_
    refine WP.iload_n 2 dX0_take_78 rfl rfl ?_
    obtain ⟨n17, h16, h⟩ := h
    obtain ⟨h18, h⟩ := h
    have h := h _ rfl
    refine WP.iast h16 h18 dX0_take_79 ?_
    generalize upa m13 i14 x1 x2 = m19 at h ⊢
    exact WP.vret dX0_take_80 rfl (Nat.le_refl _) (Nat.le_refl _) ⟨_, rfl, h⟩
  · have h := h.2 c6
    refine WP.aload_n 0 dX0_take_41 rfl rfl ?_
    refine WP.aload_n 0 dX0_take_42 rfl rfl ?_
    refine WP.iload_n 3 dX0_take_43 rfl rfl ?_
    refine WP.iload 4 dX0_take_44 rfl ?_
    refine WP.iconst (v := 1) dX0_take_46 rfl ?_
    refine WP.iadd dX0_take_47 ?_
    refine WP.callV (y := mX0_thingAt) (As := [.int x3, .int (x4 + 1)]) (st := [.ref b]) dX0_take_48 wm_X0_88 mw_X0_thingAt rfl (Nat.le_of_ble_eq_true rfl) (rmok d) h5 (by decide) rfl h (fun v20 Sm21 h23 => ?_)
    obtain ⟨m21, rfl, r22, rfl, h⟩ := h23
    show WP G _ _ _ 0 0 51 [(0, .ref b), (1, .int x1), (2, .int x2), (3, .int x3), (4, .int x4)] [.int r22, .ref b] (sh, ta, m21)
    refine WP.iload_n 3 dX0_take_51 rfl rfl ?_
    refine WP.iload 4 dX0_take_52 rfl ?_
    refine WP.callV (y := mX0_place) (As := [.int r22, .int x3, .int x4]) (st := []) dX0_take_54 wm_X0_99 mw_X0_place rfl (Nat.le_of_ble_eq_true rfl) (rmok d) h5 (by decide) rfl h (fun v24 Sm25 h27 => ?_)
    obtain ⟨m25, rfl, rfl, h⟩ := h27
    show WP G _ _ _ 0 0 57 [(0, .ref b), (1, .int x1), (2, .int x2), (3, .int x3), (4, .int x4)] [] (sh, ta, m25)
    refine WP.iinc (lv2 := [(4, .int (x4 + 1)), (0, .ref b), (1, .int x1), (2, .int x2), (3, .int x3)]) 4 1 dX0_take_57 rfl rfl (by decide) rfl ?_
    refine WP.goto (tgt := 29) dX0_take_60 (by decide) ?_
    exact WP.pick [1, 2, 3, 4, 0] rfl h
set_option maxHeartbeats 4000000 in
set_option maxRecDepth 20000 in
theorem rg_X0_changePlaces_0 (hG : fl G = false) (b : Nat) (x1 : Int32) (x2 : Int32) (h : sh[b]? = some (.inl 0) ∧ Cal G mX0_cellOf d [.ref b, .int x1] sh ta m (fun v1 m2 => ∃ r3, v1 = some (.int r3) ∧ Cal G mX0_under d [.ref b, .int x1] sh ta m2 (fun v6 m7 => ∃ r8, v6 = some (.int r8) ∧ Cal G mX0_cellOf d [.ref b, .int x2] sh ta m7 (fun v10 m11 => ∃ r12, v10 = some (.int r12) ∧ Cal G mX0_under d [.ref b, .int x2] sh ta m11 (fun v14 m15 => ∃ r16, v14 = some (.int r16) ∧ Cal G mX0_place d [.ref b, .int x1, .int r12, .int r16] sh ta m15 (fun v18 m19 => v18 = none ∧ Cal G mX0_place d [.ref b, .int x2, .int r3, .int r8] sh ta m19 (fun v22 m23 => v22 = none ∧ K none m23))))))) : WP G (rmD (d + 1) 0 0) mX0_changePlaces (QC G sh ta K) 0 0 0 [(0, .ref b), (1, .int x1), (2, .int x2)] [] (sh, ta, m) := by
  refine WP.aload_n 0 dX0_changePlaces_0 rfl rfl ?_
  refine WP.iload_n 1 dX0_changePlaces_1 rfl rfl ?_
  obtain ⟨h5, h⟩ := h
  refine WP.callV (y := mX0_cellOf) (As := [.int x1]) (st := []) dX0_changePlaces_2 wm_X0_92 mw_X0_cellOf rfl (Nat.le_of_ble_eq_true rfl) (rmok d) h5 (by decide) rfl h (fun v1 Sm2 h4 => ?_)
  obtain ⟨m2, rfl, r3, rfl, h⟩ := h4
  show WP G _ _ _ 0 0 5 [(0, .ref b), (1, .int x1), (2, .int x2)] [.int r3] (sh, ta, m2)
  refine WP.istore_n (lv2 := [(3, .int r3), (0, .ref b), (1, .int x1), (2, .int x2)]) dX0_changePlaces_5 rfl (by decide) rfl ?_
  refine WP.aload_n 1 dX0_changePlaces_6 rfl rfl ?_
  refine WP.iload_n 2 dX0_changePlaces_7 rfl rfl ?_
  refine WP.callV (y := mX0_under) (As := [.int x1]) (st := []) dX0_changePlaces_8 wm_X0_103 mw_X0_under rfl (Nat.le_of_ble_eq_true rfl) (rmok d) h5 (by decide) rfl h (fun v6 Sm7 h9 => ?_)
  obtain ⟨m7, rfl, r8, rfl, h⟩ := h9
  show WP G _ _ _ 0 0 11 [(3, .int r3), (0, .ref b), (1, .int x1), (2, .int x2)] [.int r8] (sh, ta, m7)
  refine WP.istore (lv2 := [(4, .int r8), (3, .int r3), (0, .ref b), (1, .int x1), (2, .int x2)]) dX0_changePlaces_11 (by decide) rfl ?_
  refine WP.aload_n 2 dX0_changePlaces_13 rfl rfl ?_
  refine WP.iload_n 3 dX0_changePlaces_14 rfl rfl ?_
  refine WP.aload_n 2 dX0_changePlaces_15 rfl rfl ?_
  refine WP.iload_n 4 dX0_changePlaces_16 rfl rfl ?_
  refine WP.callV (y := mX0_cellOf) (As := [.int x2]) (st := [.int x1, .ref b]) dX0_changePlaces_17 wm_X0_92 mw_X0_cellOf rfl (Nat.le_of_ble_eq_true rfl) (rmok d) h5 (by decide) rfl h (fun v10 Sm11 h13 => ?_)
  obtain ⟨m11, rfl, r12, rfl, h⟩ := h13
  show WP G _ _ _ 0 0 20 [(4, .int r8), (3, .int r3), (0, .ref b), (1, .int x1), (2, .int x2)] [.int r12, .int x1, .ref b] (sh, ta, m11)
  refine WP.aload_n 2 dX0_changePlaces_20 rfl rfl ?_
  refine WP.iload_n 4 dX0_changePlaces_21 rfl rfl ?_
  refine WP.callV (y := mX0_under) (As := [.int x2]) (st := [.int r12, .int x1, .ref b]) dX0_changePlaces_22 wm_X0_103 mw_X0_under rfl (Nat.le_of_ble_eq_true rfl) (rmok d) h5 (by decide) rfl h (fun v14 Sm15 h17 => ?_)
  obtain ⟨m15, rfl, r16, rfl, h⟩ := h17
  show WP G _ _ _ 0 0 25 [(4, .int r8), (3, .int r3), (0, .ref b), (1, .int x1), (2, .int x2)] [.int r16, .int r12, .int x1, .ref b] (sh, ta, m15)
  refine WP.callV (y := mX0_place) (As := [.int x1, .int r12, .int r16]) (st := []) dX0_changePlaces_25 wm_X0_99 mw_X0_place rfl (Nat.le_of_ble_eq_true rfl) (rmok d) h5 (by decide) rfl h (fun v18 Sm19 h21 => ?_)
  obtain ⟨m19, rfl, rfl, h⟩ := h21
  show WP G _ _ _ 0 0 28 [(4, .int r8), (3, .int r3), (0, .ref b), (1, .int x1), (2, .int x2)] [] (sh, ta, m19)
  refine WP.aload_n 2 dX0_changePlaces_28 rfl rfl ?_
  refine WP.iload_n 4 dX0_changePlaces_29 rfl rfl ?_
  refine WP.iload_n 1 dX0_changePlaces_30 rfl rfl ?_
  refine WP.iload 0 dX0_changePlaces_31 rfl ?_
  refine WP.callV (y := mX0_place) (As := [.int x2, .int r3, .int r8]) (st := []) dX0_changePlaces_33 wm_X0_99 mw_X0_place rfl (Nat.le_of_ble_eq_true rfl) (rmok d) h5 (by decide) rfl h (fun v22 Sm23 h25 => ?_)
  obtain ⟨m23, rfl, rfl, h⟩ := h25
  show WP G _ _ _ 0 0 36 [(4, .int r8), (3, .int r3), (0, .ref b), (1, .int x1), (2, .int x2)] [] (sh, ta, m23)
  exact WP.vret dX0_changePlaces_36 rfl (Nat.le_refl _) (Nat.le_refl _) ⟨_, rfl, h⟩
set_option maxHeartbeats 4000000 in
set_option maxRecDepth 20000 in
theorem rg_X0_place_0 (hG : fl G = false) (b : Nat) (x1 : Int32) (x2 : Int32) (x3 : Int32) (h : sh[b]? = some (.inl 0) ∧ Cal G mX0_has d [.ref b, .int x1] sh ta m (fun v1 m2 => ∃ r3, v1 = some (.int r3) ∧ ((r3 = 0 → K none m2) ∧ (¬ r3 = 0 → Cal G mX5_isCell d [.int x2] sh ta m2 (fun v7 m8 => ∃ r9, v7 = some (.int r9) ∧ ((r9 = 0 → K none m8) ∧ (¬ r9 = 0 → ((x3 < 0 → K none m8) ∧ (¬ x3 < 0 → (((5 : Int32) ≤ x3 → K none m8) ∧ (¬ (5 : Int32) ≤ x3 → ∃ i14, ta b 7 = some i14 ∧ ∃ n17, sh[i14]? = some (.inr (0, n17)) ∧ InB ((5 * x2) + x3) n17 ∧ ∀ m19, m19 = upa m8 i14 ((5 * x2) + x3) x1 → ∃ i20, ta b 5 = some i20 ∧ ∃ n23, sh[i20]? = some (.inr (0, n23)) ∧ InB x1 n23 ∧ ∀ m25, m25 = upa m19 i20 x1 x2 → ∃ i26, ta b 6 = some i26 ∧ ∃ n29, sh[i26]? = some (.inr (0, n29)) ∧ InB x1 n29 ∧ ∀ m31, m31 = upa m25 i26 x1 x3 → K none m31))))))))))) : WP G (rmD (d + 1) 0 0) mX0_place (QC G sh ta K) 0 0 0 [(0, .ref b), (1, .int x1), (2, .int x2), (3, .int x3)] [] (sh, ta, m) := by
  refine WP.aload_n 0 dX0_place_0 rfl rfl ?_
  refine WP.iload_n 1 dX0_place_1 rfl rfl ?_
  obtain ⟨h5, h⟩ := h
  refine WP.callV (y := mX0_has) (As := [.int x1]) (st := []) dX0_place_2 wm_X0_77 mw_X0_has rfl (Nat.le_of_ble_eq_true rfl) (rmok d) h5 (by decide) rfl h (fun v1 Sm2 h4 => ?_)
  obtain ⟨m2, rfl, r3, rfl, h⟩ := h4
  show WP G _ _ _ 0 0 5 [(0, .ref b), (1, .int x1), (2, .int x2), (3, .int x3)] [.int r3] (sh, ta, m2)
  refine WP.if_eq (tgt := 49) dX0_place_5 (by decide) (fun c6 => ?_) (fun c6 => ?_)
  · have h := h.1 c6
    exact WP.vret dX0_place_49 rfl (Nat.le_refl _) (Nat.le_refl _) ⟨_, rfl, h⟩
  · have h := h.2 c6
    refine WP.iload_n 2 dX0_place_8 rfl rfl ?_
    refine WP.callSN (y := mX5_isCell) (As := [.int x2]) (st := []) dX0_place_9 wm_X0_81 mw_X5_isCell rfl (Nat.le_of_ble_eq_true rfl) (rmok d) h (fun v7 Sm8 h10 => ?_)
    obtain ⟨m8, rfl, r9, rfl, h⟩ := h10
    show WP G _ _ _ 0 0 12 [(0, .ref b), (1, .int x1), (2, .int x2), (3, .int x3)] [.int r9] (sh, ta, m8)
    refine WP.if_eq (tgt := 49) dX0_place_12 (by decide) (fun c11 => ?_) (fun c11 => ?_)
    · have h := h.1 c11
      exact WP.vret dX0_place_49 rfl (Nat.le_refl _) (Nat.le_refl _) ⟨_, rfl, h⟩
    · have h := h.2 c11
      refine WP.iload_n 3 dX0_place_15 rfl rfl ?_
      refine WP.if_lt (tgt := 49) dX0_place_16 (by decide) (fun c12 => ?_) (fun c12 => ?_)
      · have h := h.1 c12
        exact WP.vret dX0_place_49 rfl (Nat.le_refl _) (Nat.le_refl _) ⟨_, rfl, h⟩
      · have h := h.2 c12
        refine WP.iload_n 3 dX0_place_19 rfl rfl ?_
        refine WP.iconst (v := 5) dX0_place_20 rfl ?_
        refine WP.icmp_ge (tgt := 49) dX0_place_21 (by decide) (fun c13 => ?_) (fun c13 => ?_)
        · have h := h.1 c13
          exact WP.vret dX0_place_49 rfl (Nat.le_refl _) (Nat.le_refl _) ⟨_, rfl, h⟩
        · have h := h.2 c13
          refine WP.aload_n 0 dX0_place_24 rfl rfl ?_
          obtain ⟨i14, h15, h⟩ := h
          refine WP.getR 0 7 wf_X0_27 (by decide) (by decide) rfl h5 h15 dX0_place_25 ?_
          refine WP.iconst (v := 5) dX0_place_28 rfl ?_
          refine WP.iload_n 2 dX0_place_29 rfl rfl ?_
          refine WP.imul dX0_place_30 ?_
          refine WP.iload_n 3 dX0_place_31 rfl rfl ?_
          refine WP.iadd dX0_place_32 ?_
          refine WP.iload_n 1 dX0_place_33 rfl rfl ?_
          obtain ⟨n17, h16, h⟩ := h
          obtain ⟨h18, h⟩ := h
          have h := h _ rfl
          refine WP.iast h16 h18 dX0_place_34 ?_
          generalize upa m8 i14 ((5 * x2) + x3) x1 = m19 at h ⊢
          refine WP.aload_n 0 dX0_place_35 rfl rfl ?_
          obtain ⟨i20, h21, h⟩ := h
          refine WP.getR 0 5 wf_X0_21 (by decide) (by decide) rfl h5 h21 dX0_place_36 ?_
          refine WP.iload_n 1 dX0_place_39 rfl rfl ?_
          refine WP.iload_n 2 dX0_place_40 rfl rfl ?_
          obtain ⟨n23, h22, h⟩ := h
          obtain ⟨h24, h⟩ := h
          have h := h _ rfl
          refine WP.iast h22 h24 dX0_place_41 ?_
          generalize upa m19 i20 x1 x2 = m25 at h ⊢
          refine WP.aload_n 0 dX0_place_42 rfl rfl ?_
          obtain ⟨i26, h27, h⟩ := h
          refine WP.getR 0 6 wf_X0_24 (by decide) (by decide) rfl h5 h27 dX0_place_43 ?_
          refine WP.iload_n 1 dX0_place_46 rfl rfl ?_
          refine WP.iload_n 3 dX0_place_47 rfl rfl ?_
          obtain ⟨n29, h28, h⟩ := h
          obtain ⟨h30, h⟩ := h
          have h := h _ rfl
          refine WP.iast h28 h30 dX0_place_48 ?_
          generalize upa m25 i26 x1 x3 = m31 at h ⊢
          exact WP.vret dX0_place_49 rfl (Nat.le_refl _) (Nat.le_refl _) ⟨_, rfl, h⟩
set_option maxHeartbeats 4000000 in
set_option maxRecDepth 20000 in
theorem rg_X0_needs_0 (hG : fl G = false) (b : Nat) (x1 : Int32) (h : sh[b]? = some (.inl 0) ∧ Cal G mX0_mOf d [.ref b, .int x1] sh ta m (fun v1 m2 => ∃ r3, v1 = some (.int r3) ∧ Cal G mX0_on d [.ref b, .int x1] sh ta m2 (fun v6 m7 => ∃ r8, v6 = some (.int r8) ∧ Cal G mX0_kindOf d [.ref b, .int x1] sh ta m7 (fun v10 m11 => ∃ r12, v10 = some (.int r12) ∧ (((r12.toInt < 1 ∨ 6 < r12.toInt) → K (some (.int (20 + r3))) m11) ∧ (r12 = 1 → K (some (.int ((20 + r3) + 10))) m11) ∧ (r12 = 2 → K (some (.int ((20 + r3) - 8))) m11) ∧ (r12 = 3 → K (some (.int (2 * (20 + r3)))) m11) ∧ (r12 = 4 → K (some (.int (((20 + r3) + 10) + r3))) m11) ∧ (r12 = 5 → K (some (.int (((20 + r3) - 8) + (2 * (if (0 : Int32) < r8 then r8 else (0 : Int32)))))) m11) ∧ (r12 = 6 → ∃ i15, ta b 0 = some i15 ∧ sh[i15]? = some (.inl 3) ∧ Cal G mX3_isThere d [.ref i15] sh ta m11 (fun v17 m18 => ∃ r19, v17 = some (.int r19) ∧ ((r19 = 0 → K (some (.int (20 + r3))) m18) ∧ (¬ r19 = 0 → Cal G mX0_under d [.ref b, .int x1] sh ta m18 (fun v23 m24 => ∃ r25, v23 = some (.int r25) ∧ Cal G mX0_cellOf d [.ref b, .int x1] sh ta m24 (fun v27 m28 => ∃ r29, v27 = some (.int r29) ∧ Cal G mX3_value d [.ref i15, .int r3, .int (if (0 : Int32) < r8 then r8 else (0 : Int32)), .int (if (0 : Int32) < r25 then r25 else (0 : Int32)), .int r29] sh ta m28 (fun v31 m32 => ∃ r33, v31 = some (.int r33) ∧ Cal G mX5_within d [.int r33, .int 1, .int 99] sh ta m32 (fun v35 m36 => ∃ r37, v35 = some (.int r37) ∧ K (some (.int r37)) m36))))))))))))) : WP G (rmD (d + 1) 0 0) mX0_needs (QC G sh ta K) 0 0 0 [(0, .ref b), (1, .int x1)] [] (sh, ta, m) := by
  refine WP.aload_n 0 dX0_needs_0 rfl rfl ?_
  refine WP.iload_n 1 dX0_needs_1 rfl rfl ?_
  obtain ⟨h5, h⟩ := h
  refine WP.callV (y := mX0_mOf) (As := [.int x1]) (st := []) dX0_needs_2 wm_X0_106 mw_X0_mOf rfl (Nat.le_of_ble_eq_true rfl) (rmok d) h5 (by decide) rfl h (fun v1 Sm2 h4 => ?_)
  obtain ⟨m2, rfl, r3, rfl, h⟩ := h4
  show WP G _ _ _ 0 0 5 [(0, .ref b), (1, .int x1)] [.int r3] (sh, ta, m2)
  refine WP.istore_n (lv2 := [(2, .int r3), (0, .ref b), (1, .int x1)]) dX0_needs_5 rfl (by decide) rfl ?_
  refine WP.bipush (v := 20) dX0_needs_6 rfl ?_
  refine WP.iload_n 0 dX0_needs_8 rfl rfl ?_
  refine WP.iadd dX0_needs_9 ?_
  refine WP.istore_n (lv2 := [(3, .int (20 + r3)), (2, .int r3), (0, .ref b), (1, .int x1)]) dX0_needs_10 rfl (by decide) rfl ?_
  refine WP.iconst (v := 0) dX0_needs_11 rfl ?_
  refine WP.aload_n 2 dX0_needs_12 rfl rfl ?_
  refine WP.iload_n 3 dX0_needs_13 rfl rfl ?_
  refine WP.callV (y := mX0_on) (As := [.int x1]) (st := [.int 0]) dX0_needs_14 wm_X0_109 mw_X0_on rfl (Nat.le_of_ble_eq_true rfl) (rmok d) h5 (by decide) rfl h (fun v6 Sm7 h9 => ?_)
  obtain ⟨m7, rfl, r8, rfl, h⟩ := h9
  show WP G _ _ _ 0 0 17 [(3, .int (20 + r3)), (2, .int r3), (0, .ref b), (1, .int x1)] [.int r8, .int 0] (sh, ta, m7)
  refine WP.mmax wm_X0_112 (Nat.le_of_ble_eq_true rfl) (rmok0 d) dX0_needs_17 ?_
  refine WP.istore (lv2 := [(4, .int (if (0 : Int32) < r8 then r8 else (0 : Int32))), (3, .int (20 + r3)), (2, .int r3), (0, .ref b), (1, .int x1)]) dX0_needs_20 (by decide) rfl ?_
  refine WP.aload_n 3 dX0_needs_22 rfl rfl ?_
  refine WP.iload_n 4 dX0_needs_23 rfl rfl ?_
  refine WP.callV (y := mX0_kindOf) (As := [.int x1]) (st := []) dX0_needs_24 wm_X0_117 mw_X0_kindOf rfl (Nat.le_of_ble_eq_true rfl) (rmok d) h5 (by decide) rfl h (fun v10 Sm11 h13 => ?_)
  obtain ⟨m11, rfl, r12, rfl, h⟩ := h13
  show WP G _ _ _ 0 0 27 [(4, .int (if (0 : Int32) < r8 then r8 else (0 : Int32))), (3, .int (20 + r3)), (2, .int r3), (0, .ref b), (1, .int x1)] [.int r12] (sh, ta, m11)
  by_cases c14 : (r12 : Int32).toInt < 1 ∨ 6 < (r12 : Int32).toInt
  · have h := h.1 c14
    refine WP.tswO (td := 142) dX0_needs_27 c14 (by decide) ?_
    refine WP.iload_n 1 dX0_needs_142 rfl rfl ?_
    exact WP.iret dX0_needs_143 rfl (Nat.le_refl _) (Nat.le_refl _) ⟨_, rfl, h⟩
  rcases (show (r12 : Int32).toInt = 1 ∨ (r12 : Int32).toInt = 2 ∨ (r12 : Int32).toInt = 3 ∨ (r12 : Int32).toInt = 4 ∨ (r12 : Int32).toInt = 5 ∨ (r12 : Int32).toInt = 6 by omega) with c14 | c14 | c14 | c14 | c14 | c14
  · have h := h.2.1 (i32_of c14 rfl)
    refine WP.tswI (td := 64) 0 dX0_needs_27 c14 (by decide) rfl (by decide) ?_
    refine WP.iload_n 1 dX0_needs_64 rfl rfl ?_
    refine WP.bipush (v := 10) dX0_needs_65 rfl ?_
    refine WP.iadd dX0_needs_67 ?_
    exact WP.iret dX0_needs_68 rfl (Nat.le_refl _) (Nat.le_refl _) ⟨_, rfl, h⟩
  · have h := h.2.2.1 (i32_of c14 rfl)
    refine WP.tswI (td := 76) 1 dX0_needs_27 c14 (by decide) rfl (by decide) ?_
    refine WP.iload_n 1 dX0_needs_76 rfl rfl ?_
    refine WP.bipush (v := 8) dX0_needs_77 rfl ?_
    refine WP.isub dX0_needs_79 ?_
    exact WP.iret dX0_needs_80 rfl (Nat.le_refl _) (Nat.le_refl _) ⟨_, rfl, h⟩
  · have h := h.2.2.2.1 (i32_of c14 rfl)
    refine WP.tswI (td := 91) 2 dX0_needs_27 c14 (by decide) rfl (by decide) ?_
    refine WP.iconst (v := 2) dX0_needs_91 rfl ?_
    refine WP.iload_n 1 dX0_needs_92 rfl rfl ?_
    refine WP.imul dX0_needs_93 ?_
    exact WP.iret dX0_needs_94 rfl (Nat.le_refl _) (Nat.le_refl _) ⟨_, rfl, h⟩
  · have h := h.2.2.2.2.1 (i32_of c14 rfl)
    refine WP.tswI (td := 69) 3 dX0_needs_27 c14 (by decide) rfl (by decide) ?_
    refine WP.iload_n 1 dX0_needs_69 rfl rfl ?_
    refine WP.bipush (v := 10) dX0_needs_70 rfl ?_
    refine WP.iadd dX0_needs_72 ?_
    refine WP.iload_n 2 dX0_needs_73 rfl rfl ?_
    refine WP.iadd dX0_needs_74 ?_
    exact WP.iret dX0_needs_75 rfl (Nat.le_refl _) (Nat.le_refl _) ⟨_, rfl, h⟩
  · have h := h.2.2.2.2.2.1 (i32_of c14 rfl)
    refine WP.tswI (td := 81) 4 dX0_needs_27 c14 (by decide) rfl (by decide) ?_
    refine WP.iload_n 1 dX0_needs_81 rfl rfl ?_
    refine WP.bipush (v := 8) dX0_needs_82 rfl ?_
    refine WP.isub dX0_needs_84 ?_
    refine WP.iconst (v := 2) dX0_needs_85 rfl ?_
    refine WP.iload 0 dX0_needs_86 rfl ?_
    refine WP.imul dX0_needs_88 ?_
    refine WP.iadd dX0_needs_89 ?_
    exact WP.iret dX0_needs_90 rfl (Nat.le_refl _) (Nat.le_refl _) ⟨_, rfl, h⟩
  · have h := h.2.2.2.2.2.2 (i32_of c14 rfl)
    refine WP.tswI (td := 95) 5 dX0_needs_27 c14 (by decide) rfl (by decide) ?_
    refine WP.aload_n 3 dX0_needs_95 rfl rfl ?_
    obtain ⟨i15, h16, h⟩ := h
    refine WP.getR 0 0 wf_X0_46 (by decide) (by decide) rfl h5 h16 dX0_needs_96 ?_
    obtain ⟨h21, h⟩ := h
    refine WP.callV (y := mX3_isThere) (As := []) (st := []) dX0_needs_99 wm_X0_120 mw_X3_isThere rfl (Nat.le_of_ble_eq_true rfl) (rmok d) h21 (by decide) rfl h (fun v17 Sm18 h20 => ?_)
    obtain ⟨m18, rfl, r19, rfl, h⟩ := h20
    show WP G _ _ _ 0 0 102 [(4, .int (if (0 : Int32) < r8 then r8 else (0 : Int32))), (3, .int (20 + r3)), (2, .int r3), (0, .ref b), (1, .int x1)] [.int r19] (sh, ta, m18)
    refine WP.if_eq (tgt := 140) dX0_needs_102 (by decide) (fun c22 => ?_) (fun c22 => ?_)
    · have h := h.1 c22
      refine WP.iload_n 1 dX0_needs_140 rfl rfl ?_
      exact WP.iret dX0_needs_141 rfl (Nat.le_refl _) (Nat.le_refl _) ⟨_, rfl, h⟩
    · have h := h.2 c22
      refine WP.iconst (v := 0) dX0_needs_105 rfl ?_
      refine WP.aload_n 3 dX0_needs_106 rfl rfl ?_
      refine WP.iload_n 4 dX0_needs_107 rfl rfl ?_
      refine WP.callV (y := mX0_under) (As := [.int x1]) (st := [.int 0]) dX0_needs_108 wm_X0_103 mw_X0_under rfl (Nat.le_of_ble_eq_true rfl) (rmok d) h5 (by decide) rfl h (fun v23 Sm24 h26 => ?_)
      obtain ⟨m24, rfl, r25, rfl, h⟩ := h26
      show WP G _ _ _ 0 0 111 [(4, .int (if (0 : Int32) < r8 then r8 else (0 : Int32))), (3, .int (20 + r3)), (2, .int r3), (0, .ref b), (1, .int x1)] [.int r25, .int 0] (sh, ta, m24)
      refine WP.mmax wm_X0_112 (Nat.le_of_ble_eq_true rfl) (rmok0 d) dX0_needs_111 ?_
      refine WP.istore (lv2 := [(5, .int (if (0 : Int32) < r25 then r25 else (0 : Int32))), (4, .int (if (0 : Int32) < r8 then r8 else (0 : Int32))), (3, .int (20 + r3)), (2, .int r3), (0, .ref b), (1, .int x1)]) dX0_needs_114 (by decide) rfl ?_
      refine WP.aload_n 4 dX0_needs_116 rfl rfl ?_
      refine WP.getR 0 0 wf_X0_46 (by decide) (by decide) rfl h5 h16 dX0_needs_117 ?_
      refine WP.iload_n 3 dX0_needs_120 rfl rfl ?_
      refine WP.iload 1 dX0_needs_121 rfl ?_
      refine WP.iload 0 dX0_needs_123 rfl ?_
      refine WP.aload_n 4 dX0_needs_125 rfl rfl ?_
      refine WP.iload_n 5 dX0_needs_126 rfl rfl ?_
      refine WP.callV (y := mX0_cellOf) (As := [.int x1]) (st := [.int (if (0 : Int32) < r25 then r25 else (0 : Int32)), .int (if (0 : Int32) < r8 then r8 else (0 : Int32)), .int r3, .ref i15]) dX0_needs_127 wm_X0_92 mw_X0_cellOf rfl (Nat.le_of_ble_eq_true rfl) (rmok d) h5 (by decide) rfl h (fun v27 Sm28 h30 => ?_)
      obtain ⟨m28, rfl, r29, rfl, h⟩ := h30
      show WP G _ _ _ 0 0 130 [(5, .int (if (0 : Int32) < r25 then r25 else (0 : Int32))), (4, .int (if (0 : Int32) < r8 then r8 else (0 : Int32))), (3, .int (20 + r3)), (2, .int r3), (0, .ref b), (1, .int x1)] [.int r29, .int (if (0 : Int32) < r25 then r25 else (0 : Int32)), .int (if (0 : Int32) < r8 then r8 else (0 : Int32)), .int r3, .ref i15] (sh, ta, m28)
      refine WP.callV (y := mX3_value) (As := [.int r3, .int (if (0 : Int32) < r8 then r8 else (0 : Int32)), .int (if (0 : Int32) < r25 then r25 else (0 : Int32)), .int r29]) (st := []) dX0_needs_130 wm_X0_124 mw_X3_value rfl (Nat.le_of_ble_eq_true rfl) (rmok d) h21 (by decide) rfl h (fun v31 Sm32 h34 => ?_)
      obtain ⟨m32, rfl, r33, rfl, h⟩ := h34
      show WP G _ _ _ 0 0 133 [(5, .int (if (0 : Int32) < r25 then r25 else (0 : Int32))), (4, .int (if (0 : Int32) < r8 then r8 else (0 : Int32))), (3, .int (20 + r3)), (2, .int r3), (0, .ref b), (1, .int x1)] [.int r33] (sh, ta, m32)
      refine WP.iconst (v := 1) dX0_needs_133 rfl ?_
      refine WP.bipush (v := 99) dX0_needs_134 rfl ?_
      refine WP.callSN (y := mX5_within) (As := [.int r33, .int 1, .int 99]) (st := []) dX0_needs_136 wm_X0_128 mw_X5_within rfl (Nat.le_of_ble_eq_true rfl) (rmok d) h (fun v35 Sm36 h38 => ?_)
      obtain ⟨m36, rfl, r37, rfl, h⟩ := h38
      show WP G _ _ _ 0 0 139 [(5, .int (if (0 : Int32) < r25 then r25 else (0 : Int32))), (4, .int (if (0 : Int32) < r8 then r8 else (0 : Int32))), (3, .int (20 + r3)), (2, .int r3), (0, .ref b), (1, .int x1)] [.int r37] (sh, ta, m36)
      exact WP.iret dX0_needs_139 rfl (Nat.le_refl _) (Nat.le_refl _) ⟨_, rfl, h⟩
set_option maxHeartbeats 4000000 in
set_option maxRecDepth 20000 in
theorem rg_X0_likes_0 (hG : fl G = false) (b : Nat) (x1 : Int32) (h : sh[b]? = some (.inl 0) ∧ ∃ i2, ta b 1 = some i2 ∧ sh[i2]? = some (.inl 3) ∧ Cal G mX3_isThere d [.ref i2] sh ta m (fun v4 m5 => ∃ r6, v4 = some (.int r6) ∧ ((¬ r6 = 0 → Cal G mX0_worthOf d [.ref b, .int x1] sh ta m5 (fun v10 m11 => ∃ r12, v10 = some (.int r12) ∧ Cal G mX0_kindOf d [.ref b, .int x1] sh ta m11 (fun v14 m15 => ∃ r16, v14 = some (.int r16) ∧ Cal G mX0_mOf d [.ref b, .int x1] sh ta m15 (fun v18 m19 => ∃ r20, v18 = some (.int r20) ∧ Cal G mX3_value d [.ref i2, .int r12, .int r16, .int r20, .int 0] sh ta m19 (fun v22 m23 => ∃ r24, v22 = some (.int r24) ∧ Cal G mX5_within d [.int r24, .int ((-999)), .int 999] sh ta m23 (fun v26 m27 => ∃ r28, v26 = some (.int r28) ∧ K (some (.int r28)) m27)))))) ∧ (r6 = 0 → Cal G mX0_worthOf d [.ref b, .int x1] sh ta m5 (fun v30 m31 => ∃ r32, v30 = some (.int r32) ∧ K (some (.int r32)) m31))))) : WP G (rmD (d + 1) 0 0) mX0_likes (QC G sh ta K) 0 0 0 [(0, .ref b), (1, .int x1)] [] (sh, ta, m) := by
  refine WP.aload_n 0 dX0_likes_0 rfl rfl ?_
  obtain ⟨h1, h⟩ := h
  obtain ⟨i2, h3, h⟩ := h
  refine WP.getR 0 1 wf_X0_50 (by decide) (by decide) rfl h1 h3 dX0_likes_1 ?_
  obtain ⟨h8, h⟩ := h
  refine WP.callV (y := mX3_isThere) (As := []) (st := []) dX0_likes_4 wm_X0_120 mw_X3_isThere rfl (Nat.le_of_ble_eq_true rfl) (rmok d) h8 (by decide) rfl h (fun v4 Sm5 h7 => ?_)
  obtain ⟨m5, rfl, r6, rfl, h⟩ := h7
  show WP G _ _ _ 0 0 7 [(0, .ref b), (1, .int x1)] [.int r6] (sh, ta, m5)
  refine WP.if_ne (tgt := 16) dX0_likes_7 (by decide) (fun c9 => ?_) (fun c9 => ?_)
  · have h := h.1 c9
    refine WP.aload_n 0 dX0_likes_16 rfl rfl ?_
    refine WP.getR 0 1 wf_X0_50 (by decide) (by decide) rfl h1 h3 dX0_likes_17 ?_
    refine WP.aload_n 0 dX0_likes_20 rfl rfl ?_
    refine WP.iload_n 1 dX0_likes_21 rfl rfl ?_
    refine WP.callV (y := mX0_worthOf) (As := [.int x1]) (st := [.ref i2]) dX0_likes_22 wm_X0_132 mw_X0_worthOf rfl (Nat.le_of_ble_eq_true rfl) (rmok d) h1 (by decide) rfl h (fun v10 Sm11 h13 => ?_)
    obtain ⟨m11, rfl, r12, rfl, h⟩ := h13
    show WP G _ _ _ 0 0 25 [(0, .ref b), (1, .int x1)] [.int r12, .ref i2] (sh, ta, m11)
    refine WP.aload_n 0 dX0_likes_25 rfl rfl ?_
    refine WP.iload_n 1 dX0_likes_26 rfl rfl ?_
    refine WP.callV (y := mX0_kindOf) (As := [.int x1]) (st := [.int r12, .ref i2]) dX0_likes_27 wm_X0_117 mw_X0_kindOf rfl (Nat.le_of_ble_eq_true rfl) (rmok d) h1 (by decide) rfl h (fun v14 Sm15 h17 => ?_)
    obtain ⟨m15, rfl, r16, rfl, h⟩ := h17
    show WP G _ _ _ 0 0 30 [(0, .ref b), (1, .int x1)] [.int r16, .int r12, .ref i2] (sh, ta, m15)
    refine WP.aload_n 0 dX0_likes_30 rfl rfl ?_
    refine WP.iload_n 1 dX0_likes_31 rfl rfl ?_
    refine WP.callV (y := mX0_mOf) (As := [.int x1]) (st := [.int r16, .int r12, .ref i2]) dX0_likes_32 wm_X0_106 mw_X0_mOf rfl (Nat.le_of_ble_eq_true rfl) (rmok d) h1 (by decide) rfl h (fun v18 Sm19 h21 => ?_)
    obtain ⟨m19, rfl, r20, rfl, h⟩ := h21
    show WP G _ _ _ 0 0 35 [(0, .ref b), (1, .int x1)] [.int r20, .int r16, .int r12, .ref i2] (sh, ta, m19)
    refine WP.iconst (v := 0) dX0_likes_35 rfl ?_
    refine WP.callV (y := mX3_value) (As := [.int r12, .int r16, .int r20, .int 0]) (st := []) dX0_likes_36 wm_X0_124 mw_X3_value rfl (Nat.le_of_ble_eq_true rfl) (rmok d) h8 (by decide) rfl h (fun v22 Sm23 h25 => ?_)
    obtain ⟨m23, rfl, r24, rfl, h⟩ := h25
    show WP G _ _ _ 0 0 39 [(0, .ref b), (1, .int x1)] [.int r24] (sh, ta, m23)
    refine WP.sipush (v := (-999)) dX0_likes_39 rfl ?_
    refine WP.sipush (v := 999) dX0_likes_42 rfl ?_
    refine WP.callSN (y := mX5_within) (As := [.int r24, .int ((-999)), .int 999]) (st := []) dX0_likes_45 wm_X0_128 mw_X5_within rfl (Nat.le_of_ble_eq_true rfl) (rmok d) h (fun v26 Sm27 h29 => ?_)
    obtain ⟨m27, rfl, r28, rfl, h⟩ := h29
    show WP G _ _ _ 0 0 48 [(0, .ref b), (1, .int x1)] [.int r28] (sh, ta, m27)
    exact WP.iret dX0_likes_48 rfl (Nat.le_refl _) (Nat.le_refl _) ⟨_, rfl, h⟩
  · have h := h.2 c9
    refine WP.aload_n 0 dX0_likes_10 rfl rfl ?_
    refine WP.iload_n 1 dX0_likes_11 rfl rfl ?_
    refine WP.callV (y := mX0_worthOf) (As := [.int x1]) (st := []) dX0_likes_12 wm_X0_132 mw_X0_worthOf rfl (Nat.le_of_ble_eq_true rfl) (rmok d) h1 (by decide) rfl h (fun v30 Sm31 h33 => ?_)
    obtain ⟨m31, rfl, r32, rfl, h⟩ := h33
    show WP G _ _ _ 0 0 15 [(0, .ref b), (1, .int x1)] [.int r32] (sh, ta, m31)
    exact WP.iret dX0_likes_15 rfl (Nat.le_refl _) (Nat.le_refl _) ⟨_, rfl, h⟩
set_option maxHeartbeats 4000000 in
set_option maxRecDepth 20000 in
theorem rg_X0_strength_0 (hG : fl G = false) (b : Nat) (h : sh[b]? = some (.inl 0) ∧ Cal G mX5_strengthAt d [.int (m b 10), .int (m b 11), .int (m b 12)] sh ta m (fun v2 m3 => ∃ r4, v2 = some (.int r4) ∧ K (some (.int r4)) m3)) : WP G (rmD (d + 1) 0 0) mX0_strength (QC G sh ta K) 0 0 0 [(0, .ref b)] [] (sh, ta, m) := by
  refine WP.aload_n 0 dX0_strength_0 rfl rfl ?_
  obtain ⟨h1, h⟩ := h
  refine WP.getI 0 10 wf_X0_33 (by decide) (by decide) rfl h1 dX0_strength_1 ?_
  refine WP.aload_n 0 dX0_strength_4 rfl rfl ?_
  refine WP.getI 0 11 wf_X0_37 (by decide) (by decide) rfl h1 dX0_strength_5 ?_
  refine WP.aload_n 0 dX0_strength_8 rfl rfl ?_
  refine WP.getI 0 12 wf_X0_62 (by decide) (by decide) rfl h1 dX0_strength_9 ?_
  refine WP.callSN (y := mX5_strengthAt) (As := [.int (m b 10), .int (m b 11), .int (m b 12)]) (st := []) dX0_strength_12 wm_X0_135 mw_X5_strengthAt rfl (Nat.le_of_ble_eq_true rfl) (rmok d) h (fun v2 Sm3 h5 => ?_)
  obtain ⟨m3, rfl, r4, rfl, h⟩ := h5
  show WP G _ _ _ 0 0 15 [(0, .ref b)] [.int r4] (sh, ta, m3)
  exact WP.iret dX0_strength_15 rfl (Nat.le_refl _) (Nat.le_refl _) ⟨_, rfl, h⟩
set_option maxHeartbeats 4000000 in
set_option maxRecDepth 20000 in
theorem rg_X0_nearer_0 (hG : fl G = false) (x0 : Int32) (h : ¬ (4 : Int32) = 0 ∧ (((x0 - x0 / 4 * 4) = 0 → K (some (.int (x0 - 4))) m) ∧ (¬ (x0 - x0 / 4 * 4) = 0 → K (some (.int (x0 - 1))) m))) : WP G (rmD (d + 1) 0 0) mX0_nearer (QC G sh ta K) 0 0 0 [(0, .int x0)] [] (sh, ta, m) := by
  refine WP.iload_n 0 dX0_nearer_0 rfl rfl ?_
  refine WP.iconst (v := 4) dX0_nearer_1 rfl ?_
  obtain ⟨h1, h⟩ := h
  refine WP.irem dX0_nearer_2 h1 ?_
  refine WP.if_eq (tgt := 12) dX0_nearer_3 (by decide) (fun c2 => ?_) (fun c2 => ?_)
  · have h := h.1 c2
    refine WP.iload_n 0 dX0_nearer_12 rfl rfl ?_
    refine WP.iconst (v := 4) dX0_nearer_13 rfl ?_
    refine WP.isub dX0_nearer_14 ?_
    exact WP.iret dX0_nearer_15 rfl (Nat.le_refl _) (Nat.le_refl _) ⟨_, rfl, h⟩
  · have h := h.2 c2
    refine WP.iload_n 0 dX0_nearer_6 rfl rfl ?_
    refine WP.iconst (v := 1) dX0_nearer_7 rfl ?_
    refine WP.isub dX0_nearer_8 ?_
    refine WP.goto (tgt := 15) dX0_nearer_9 (by decide) ?_
    exact WP.iret dX0_nearer_15 rfl (Nat.le_refl _) (Nat.le_refl _) ⟨_, rfl, h⟩
set_option maxHeartbeats 4000000 in
set_option maxRecDepth 20000 in
theorem rg_X0_does_0 (hG : fl G = false) (b : Nat) (x1 : Int32) (h : sh[b]? = some (.inl 0) ∧ Cal G mX0_top d [.ref b, .int x1] sh ta m (fun v1 m2 => ∃ r3, v1 = some (.int r3) ∧ ((0 ≤ r3 → Cal G mX0_strength d [.ref b] sh ta m2 (fun v7 m8 => ∃ r9, v7 = some (.int r9) ∧ Cal G mX0_needs d [.ref b, .int r3] sh ta m8 (fun v11 m12 => ∃ r13, v11 = some (.int r13) ∧ Cal G mX5_holdBy d [.int r9, .int r13] sh ta m12 (fun v15 m16 => ∃ r17, v15 = some (.int r17) ∧ ((r17 = (1 : Int32) → Cal G mX0_nearer d [.int x1] sh ta m16 (fun v20 m21 => ∃ r22, v20 = some (.int r22) ∧ ((¬ r22 = 0 → Cal G mX0_highOf d [.ref b, .int r22] sh ta m21 (fun v25 m26 => ∃ r27, v25 = some (.int r27) ∧ ((r27 < (5 : Int32) → K (some (.int 1)) m26) ∧ (¬ r27 < (5 : Int32) → K (some (.int 3)) m26)))) ∧ (r22 = 0 → K (some (.int 2)) m21)))) ∧ (¬ r17 = (1 : Int32) → ((¬ r17 = (2 : Int32) → K (some (.int 0)) m16) ∧ (r17 = (2 : Int32) → K (some (.int 2)) m16)))))))) ∧ (¬ 0 ≤ r3 → K (some (.int 0)) m2)))) : WP G (rmD (d + 1) 0 0) mX0_does (QC G sh ta K) 0 0 0 [(0, .ref b), (1, .int x1)] [] (sh, ta, m) := by
  refine WP.aload_n 0 dX0_does_0 rfl rfl ?_
  refine WP.iload_n 1 dX0_does_1 rfl rfl ?_
  obtain ⟨h5, h⟩ := h
  refine WP.callV (y := mX0_top) (As := [.int x1]) (st := []) dX0_does_2 wm_X0_138 mw_X0_top rfl (Nat.le_of_ble_eq_true rfl) (rmok d) h5 (by decide) rfl h (fun v1 Sm2 h4 => ?_)
  obtain ⟨m2, rfl, r3, rfl, h⟩ := h4
  show WP G _ _ _ 0 0 5 [(0, .ref b), (1, .int x1)] [.int r3] (sh, ta, m2)
  refine WP.istore_n (lv2 := [(2, .int r3), (0, .ref b), (1, .int x1)]) dX0_does_5 rfl (by decide) rfl ?_
  refine WP.iload_n 0 dX0_does_6 rfl rfl ?_
  refine WP.if_ge (tgt := 12) dX0_does_7 (by decide) (fun c6 => ?_) (fun c6 => ?_)
  · have h := h.1 c6
    refine WP.aload_n 1 dX0_does_12 rfl rfl ?_
    refine WP.callV (y := mX0_strength) (As := []) (st := []) dX0_does_13 wm_X0_141 mw_X0_strength rfl (Nat.le_of_ble_eq_true rfl) (rmok d) h5 (by decide) rfl h (fun v7 Sm8 h10 => ?_)
    obtain ⟨m8, rfl, r9, rfl, h⟩ := h10
    show WP G _ _ _ 0 0 16 [(2, .int r3), (0, .ref b), (1, .int x1)] [.int r9] (sh, ta, m8)
    refine WP.aload_n 1 dX0_does_16 rfl rfl ?_
    refine WP.iload_n 0 dX0_does_17 rfl rfl ?_
    refine WP.callV (y := mX0_needs) (As := [.int r3]) (st := [.int r9]) dX0_does_18 wm_X0_145 mw_X0_needs rfl (Nat.le_of_ble_eq_true rfl) (rmok d) h5 (by decide) rfl h (fun v11 Sm12 h14 => ?_)
    obtain ⟨m12, rfl, r13, rfl, h⟩ := h14
    show WP G _ _ _ 0 0 21 [(2, .int r3), (0, .ref b), (1, .int x1)] [.int r13, .int r9] (sh, ta, m12)
    refine WP.callSN (y := mX5_holdBy) (As := [.int r9, .int r13]) (st := []) dX0_does_21 wm_X0_148 mw_X5_holdBy rfl (Nat.le_of_ble_eq_true rfl) (rmok d) h (fun v15 Sm16 h18 => ?_)
    obtain ⟨m16, rfl, r17, rfl, h⟩ := h18
    show WP G _ _ _ 0 0 24 [(2, .int r3), (0, .ref b), (1, .int x1)] [.int r17] (sh, ta, m16)
    refine WP.istore_n (lv2 := [(3, .int r17), (2, .int r3), (0, .ref b), (1, .int x1)]) dX0_does_24 rfl (by decide) rfl ?_
    refine WP.iload_n 0 dX0_does_25 rfl rfl ?_
    refine WP.iconst (v := 1) dX0_does_26 rfl ?_
    refine WP.icmp_eq (tgt := 41) dX0_does_27 (by decide) (fun c19 => ?_) (fun c19 => ?_)
    · have h := h.1 c19
      refine WP.iload_n 3 dX0_does_41 rfl rfl ?_
      refine WP.callS (y := mX0_nearer) (As := [.int x1]) (st := []) dX0_does_42 wm_X0_151 mw_X0_nearer rfl (Nat.le_of_ble_eq_true rfl) (rmok d) rfl h (fun v20 Sm21 h23 => ?_)
      obtain ⟨m21, rfl, r22, rfl, h⟩ := h23
      show WP G _ _ _ 0 0 45 [(3, .int r17), (2, .int r3), (0, .ref b), (1, .int x1)] [.int r22] (sh, ta, m21)
      refine WP.istore (lv2 := [(4, .int r22), (3, .int r17), (2, .int r3), (0, .ref b), (1, .int x1)]) dX0_does_45 (by decide) rfl ?_
      refine WP.iload 0 dX0_does_47 rfl ?_
      refine WP.if_ne (tgt := 54) dX0_does_49 (by decide) (fun c24 => ?_) (fun c24 => ?_)
      · have h := h.1 c24
        refine WP.aload_n 3 dX0_does_54 rfl rfl ?_
        refine WP.iload 0 dX0_does_55 rfl ?_
        refine WP.callV (y := mX0_highOf) (As := [.int r22]) (st := []) dX0_does_57 wm_X0_84 mw_X0_highOf rfl (Nat.le_of_ble_eq_true rfl) (rmok d) h5 (by decide) rfl h (fun v25 Sm26 h28 => ?_)
        obtain ⟨m26, rfl, r27, rfl, h⟩ := h28
        show WP G _ _ _ 0 0 60 [(4, .int r22), (3, .int r17), (2, .int r3), (0, .ref b), (1, .int x1)] [.int r27] (sh, ta, m26)
        refine WP.iconst (v := 5) dX0_does_60 rfl ?_
        refine WP.icmp_lt (tgt := 68) dX0_does_61 (by decide) (fun c29 => ?_) (fun c29 => ?_)
        · have h := h.1 c29
          refine WP.iconst (v := 1) dX0_does_68 rfl ?_
          exact WP.iret dX0_does_69 rfl (Nat.le_refl _) (Nat.le_refl _) ⟨_, rfl, h⟩
        · have h := h.2 c29
          refine WP.iconst (v := 3) dX0_does_64 rfl ?_
          refine WP.goto (tgt := 69) dX0_does_65 (by decide) ?_
          exact WP.iret dX0_does_69 rfl (Nat.le_refl _) (Nat.le_refl _) ⟨_, rfl, h⟩
      · have h := h.2 c24
        refine WP.iconst (v := 2) dX0_does_52 rfl ?_
        exact WP.iret dX0_does_53 rfl (Nat.le_refl _) (Nat.le_refl _) ⟨_, rfl, h⟩
    · have h := h.2 c19
      refine WP.iload_n 0 dX0_does_30 rfl rfl ?_
      refine WP.iconst (v := 2) dX0_does_31 rfl ?_
      refine WP.icmp_ne (tgt := 39) dX0_does_32 (by decide) (fun c30 => ?_) (fun c30 => ?_)
      · have h := h.1 c30
        refine WP.iconst (v := 0) dX0_does_39 rfl ?_
        exact WP.iret dX0_does_40 rfl (Nat.le_refl _) (Nat.le_refl _) ⟨_, rfl, h⟩
      · have h := h.2 c30
        refine WP.iconst (v := 2) dX0_does_35 rfl ?_
        refine WP.goto (tgt := 40) dX0_does_36 (by decide) ?_
        exact WP.iret dX0_does_40 rfl (Nat.le_refl _) (Nat.le_refl _) ⟨_, rfl, h⟩
  · have h := h.2 c6
    refine WP.iconst (v := 0) dX0_does_10 rfl ?_
    exact WP.iret dX0_does_11 rfl (Nat.le_refl _) (Nat.le_refl _) ⟨_, rfl, h⟩
set_option maxHeartbeats 4000000 in
set_option maxRecDepth 20000 in
theorem rg_X0_grip_0 (hG : fl G = false) (b : Nat) (x1 : Int32) (h : sh[b]? = some (.inl 0) ∧ Cal G mX0_does d [.ref b, .int x1] sh ta m (fun v1 m2 => ∃ r3, v1 = some (.int r3) ∧ Cal G mX0_top d [.ref b, .int x1] sh ta m2 (fun v6 m7 => ∃ r8, v6 = some (.int r8) ∧ ∀ m10, m10 = up2 m7 b 15 r8 → ((¬ r3 = (2 : Int32) → ((¬ r3 = (1 : Int32) → ∀ m13, m13 = up2 m10 b 13 (if ((m10 b 13) + 1) < (99999 : Int32) then ((m10 b 13) + 1) else (99999 : Int32)) → ∀ m14, m14 = up2 m13 b 12 (if ((m13 b 12) + 1) < (9999 : Int32) then ((m13 b 12) + 1) else (9999 : Int32)) → K (some (.int r3)) m14) ∧ (r3 = (1 : Int32) → Cal G mX0_take d [.ref b, .int (m10 b 15), .int ((-2))] sh ta m10 (fun v15 m16 => v15 = none ∧ Cal G mX0_nearer d [.int x1] sh ta m16 (fun v19 m20 => ∃ r21, v19 = some (.int r21) ∧ Cal G mX0_lower d [.ref b, .int (m16 b 15), .int r21] sh ta m20 (fun v23 m24 => v23 = none ∧ ∀ m27, m27 = up2 m24 b 13 (if ((m24 b 13) + 1) < (99999 : Int32) then ((m24 b 13) + 1) else (99999 : Int32)) → ∀ m28, m28 = up2 m27 b 12 (if ((m27 b 12) + 1) < (9999 : Int32) then ((m27 b 12) + 1) else (9999 : Int32)) → K (some (.int r3)) m28)))))) ∧ (r3 = (2 : Int32) → Cal G mX0_take d [.ref b, .int (m10 b 15), .int ((-1))] sh ta m10 (fun v29 m30 => v29 = none ∧ ∀ m33, m33 = up2 m30 b 13 (if ((m30 b 13) + 1) < (99999 : Int32) then ((m30 b 13) + 1) else (99999 : Int32)) → ∀ m34, m34 = up2 m33 b 12 (if ((m33 b 12) + 1) < (9999 : Int32) then ((m33 b 12) + 1) else (9999 : Int32)) → K (some (.int r3)) m34)))))) : WP G (rmD (d + 1) 0 0) mX0_grip (QC G sh ta K) 0 0 0 [(0, .ref b), (1, .int x1)] [] (sh, ta, m) := by
  refine WP.aload_n 0 dX0_grip_0 rfl rfl ?_
  refine WP.iload_n 1 dX0_grip_1 rfl rfl ?_
  obtain ⟨h5, h⟩ := h
  refine WP.callV (y := mX0_does) (As := [.int x1]) (st := []) dX0_grip_2 wm_X0_154 mw_X0_does rfl (Nat.le_of_ble_eq_true rfl) (rmok d) h5 (by decide) rfl h (fun v1 Sm2 h4 => ?_)
  obtain ⟨m2, rfl, r3, rfl, h⟩ := h4
  show WP G _ _ _ 0 0 5 [(0, .ref b), (1, .int x1)] [.int r3] (sh, ta, m2)
  refine WP.istore_n (lv2 := [(2, .int r3), (0, .ref b), (1, .int x1)]) dX0_grip_5 rfl (by decide) rfl ?_
  refine WP.aload_n 1 dX0_grip_6 rfl rfl ?_
  refine WP.aload_n 1 dX0_grip_7 rfl rfl ?_
  refine WP.iload_n 2 dX0_grip_8 rfl rfl ?_
  refine WP.callV (y := mX0_top) (As := [.int x1]) (st := [.ref b]) dX0_grip_9 wm_X0_138 mw_X0_top rfl (Nat.le_of_ble_eq_true rfl) (rmok d) h5 (by decide) rfl h (fun v6 Sm7 h9 => ?_)
  obtain ⟨m7, rfl, r8, rfl, h⟩ := h9
  show WP G _ _ _ 0 0 12 [(2, .int r3), (0, .ref b), (1, .int x1)] [.int r8, .ref b] (sh, ta, m7)
  have h := h _ rfl
  refine WP.putI 0 15 wf_X0_43 (by decide) (by decide) rfl h5 rfl rfl rfl dX0_grip_12 ?_
  generalize up2 m7 b 15 r8 = m10 at h ⊢
  refine WP.iload_n 0 dX0_grip_15 rfl rfl ?_
  refine WP.iconst (v := 2) dX0_grip_16 rfl ?_
  refine WP.icmp_ne (tgt := 32) dX0_grip_17 (by decide) (fun c11 => ?_) (fun c11 => ?_)
  · have h := h.1 c11
    refine WP.iload_n 0 dX0_grip_32 rfl rfl ?_
    refine WP.iconst (v := 1) dX0_grip_33 rfl ?_
    refine WP.icmp_ne (tgt := 59) dX0_grip_34 (by decide) (fun c12 => ?_) (fun c12 => ?_)
    · have h := h.1 c12
      refine WP.aload_n 1 dX0_grip_59 rfl rfl ?_
      refine WP.ldc wx_X0_160 dX0_grip_60 ?_
      refine WP.aload_n 1 dX0_grip_62 rfl rfl ?_
      refine WP.getI 0 13 wf_X0_65 (by decide) (by decide) rfl h5 dX0_grip_63 ?_
      refine WP.iconst (v := 1) dX0_grip_66 rfl ?_
      refine WP.iadd dX0_grip_67 ?_
      refine WP.mmin wm_X0_161 (Nat.le_of_ble_eq_true rfl) (rmok0 d) dX0_grip_68 ?_
      have h := h _ rfl
      refine WP.putI 0 13 wf_X0_65 (by decide) (by decide) rfl h5 rfl rfl rfl dX0_grip_71 ?_
      generalize up2 m10 b 13 (if ((m10 b 13) + 1) < (99999 : Int32) then ((m10 b 13) + 1) else (99999 : Int32)) = m13 at h ⊢
      refine WP.aload_n 1 dX0_grip_74 rfl rfl ?_
      refine WP.sipush (v := 9999) dX0_grip_75 rfl ?_
      refine WP.aload_n 1 dX0_grip_78 rfl rfl ?_
      refine WP.getI 0 12 wf_X0_62 (by decide) (by decide) rfl h5 dX0_grip_79 ?_
      refine WP.iconst (v := 1) dX0_grip_82 rfl ?_
      refine WP.iadd dX0_grip_83 ?_
      refine WP.mmin wm_X0_161 (Nat.le_of_ble_eq_true rfl) (rmok0 d) dX0_grip_84 ?_
      have h := h _ rfl
      refine WP.putI 0 12 wf_X0_62 (by decide) (by decide) rfl h5 rfl rfl rfl dX0_grip_87 ?_
      generalize up2 m13 b 12 (if ((m13 b 12) + 1) < (9999 : Int32) then ((m13 b 12) + 1) else (9999 : Int32)) = m14 at h ⊢
      refine WP.iload_n 0 dX0_grip_90 rfl rfl ?_
      exact WP.iret dX0_grip_91 rfl (Nat.le_refl _) (Nat.le_refl _) ⟨_, rfl, h⟩
    · have h := h.2 c12
      refine WP.aload_n 1 dX0_grip_37 rfl rfl ?_
      refine WP.aload_n 1 dX0_grip_38 rfl rfl ?_
      refine WP.getI 0 15 wf_X0_43 (by decide) (by decide) rfl h5 dX0_grip_39 ?_
      refine WP.bipush (v := (-2)) dX0_grip_42 rfl ?_
      refine WP.callV (y := mX0_take) (As := [.int (m10 b 15), .int ((-2))]) (st := []) dX0_grip_44 wm_X0_157 mw_X0_take rfl (Nat.le_of_ble_eq_true rfl) (rmok d) h5 (by decide) rfl h (fun v15 Sm16 h18 => ?_)
      obtain ⟨m16, rfl, rfl, h⟩ := h18
      show WP G _ _ _ 0 0 47 [(2, .int r3), (0, .ref b), (1, .int x1)] [] (sh, ta, m16)
      refine WP.aload_n 1 dX0_grip_47 rfl rfl ?_
      refine WP.aload_n 1 dX0_grip_48 rfl rfl ?_
      refine WP.getI 0 15 wf_X0_43 (by decide) (by decide) rfl h5 dX0_grip_49 ?_
      refine WP.iload_n 2 dX0_grip_52 rfl rfl ?_
      refine WP.callS (y := mX0_nearer) (As := [.int x1]) (st := [.int (m16 b 15), .ref b]) dX0_grip_53 wm_X0_151 mw_X0_nearer rfl (Nat.le_of_ble_eq_true rfl) (rmok d) rfl h (fun v19 Sm20 h22 => ?_)
      obtain ⟨m20, rfl, r21, rfl, h⟩ := h22
      show WP G _ _ _ 0 0 56 [(2, .int r3), (0, .ref b), (1, .int x1)] [.int r21, .int (m16 b 15), .ref b] (sh, ta, m20)
      refine WP.callV (y := mX0_lower) (As := [.int (m16 b 15), .int r21]) (st := []) dX0_grip_56 wm_X0_95 mw_X0_lower rfl (Nat.le_of_ble_eq_true rfl) (rmok d) h5 (by decide) rfl h (fun v23 Sm24 h26 => ?_)
      obtain ⟨m24, rfl, rfl, h⟩ := h26
      show WP G _ _ _ 0 0 59 [(2, .int r3), (0, .ref b), (1, .int x1)] [] (sh, ta, m24)
      refine WP.aload_n 1 dX0_grip_59 rfl rfl ?_
      refine WP.ldc wx_X0_160 dX0_grip_60 ?_
      refine WP.aload_n 1 dX0_grip_62 rfl rfl ?_
      refine WP.getI 0 13 wf_X0_65 (by decide) (by decide) rfl h5 dX0_grip_63 ?_
      refine WP.iconst (v := 1) dX0_grip_66 rfl ?_
      refine WP.iadd dX0_grip_67 ?_
      refine WP.mmin wm_X0_161 (Nat.le_of_ble_eq_true rfl) (rmok0 d) dX0_grip_68 ?_
      have h := h _ rfl
      refine WP.putI 0 13 wf_X0_65 (by decide) (by decide) rfl h5 rfl rfl rfl dX0_grip_71 ?_
      generalize up2 m24 b 13 (if ((m24 b 13) + 1) < (99999 : Int32) then ((m24 b 13) + 1) else (99999 : Int32)) = m27 at h ⊢
      refine WP.aload_n 1 dX0_grip_74 rfl rfl ?_
      refine WP.sipush (v := 9999) dX0_grip_75 rfl ?_
      refine WP.aload_n 1 dX0_grip_78 rfl rfl ?_
      refine WP.getI 0 12 wf_X0_62 (by decide) (by decide) rfl h5 dX0_grip_79 ?_
      refine WP.iconst (v := 1) dX0_grip_82 rfl ?_
      refine WP.iadd dX0_grip_83 ?_
      refine WP.mmin wm_X0_161 (Nat.le_of_ble_eq_true rfl) (rmok0 d) dX0_grip_84 ?_
      have h := h _ rfl
      refine WP.putI 0 12 wf_X0_62 (by decide) (by decide) rfl h5 rfl rfl rfl dX0_grip_87 ?_
      generalize up2 m27 b 12 (if ((m27 b 12) + 1) < (9999 : Int32) then ((m27 b 12) + 1) else (9999 : Int32)) = m28 at h ⊢
      refine WP.iload_n 0 dX0_grip_90 rfl rfl ?_
      exact WP.iret dX0_grip_91 rfl (Nat.le_refl _) (Nat.le_refl _) ⟨_, rfl, h⟩
  · have h := h.2 c11
    refine WP.aload_n 1 dX0_grip_20 rfl rfl ?_
    refine WP.aload_n 1 dX0_grip_21 rfl rfl ?_
    refine WP.getI 0 15 wf_X0_43 (by decide) (by decide) rfl h5 dX0_grip_22 ?_
    refine WP.iconst (v := (-1)) dX0_grip_25 rfl ?_
    refine WP.callV (y := mX0_take) (As := [.int (m10 b 15), .int ((-1))]) (st := []) dX0_grip_26 wm_X0_157 mw_X0_take rfl (Nat.le_of_ble_eq_true rfl) (rmok d) h5 (by decide) rfl h (fun v29 Sm30 h32 => ?_)
    obtain ⟨m30, rfl, rfl, h⟩ := h32
    show WP G _ _ _ 0 0 29 [(2, .int r3), (0, .ref b), (1, .int x1)] [] (sh, ta, m30)
    refine WP.goto (tgt := 59) dX0_grip_29 (by decide) ?_
    refine WP.aload_n 1 dX0_grip_59 rfl rfl ?_
    refine WP.ldc wx_X0_160 dX0_grip_60 ?_
    refine WP.aload_n 1 dX0_grip_62 rfl rfl ?_
    refine WP.getI 0 13 wf_X0_65 (by decide) (by decide) rfl h5 dX0_grip_63 ?_
    refine WP.iconst (v := 1) dX0_grip_66 rfl ?_
    refine WP.iadd dX0_grip_67 ?_
    refine WP.mmin wm_X0_161 (Nat.le_of_ble_eq_true rfl) (rmok0 d) dX0_grip_68 ?_
    have h := h _ rfl
    refine WP.putI 0 13 wf_X0_65 (by decide) (by decide) rfl h5 rfl rfl rfl dX0_grip_71 ?_
    generalize up2 m30 b 13 (if ((m30 b 13) + 1) < (99999 : Int32) then ((m30 b 13) + 1) else (99999 : Int32)) = m33 at h ⊢
    refine WP.aload_n 1 dX0_grip_74 rfl rfl ?_
    refine WP.sipush (v := 9999) dX0_grip_75 rfl ?_
    refine WP.aload_n 1 dX0_grip_78 rfl rfl ?_
    refine WP.getI 0 12 wf_X0_62 (by decide) (by decide) rfl h5 dX0_grip_79 ?_
    refine WP.iconst (v := 1) dX0_grip_82 rfl ?_
    refine WP.iadd dX0_grip_83 ?_
    refine WP.mmin wm_X0_161 (Nat.le_of_ble_eq_true rfl) (rmok0 d) dX0_grip_84 ?_
    have h := h _ rfl
    refine WP.putI 0 12 wf_X0_62 (by decide) (by decide) rfl h5 rfl rfl rfl dX0_grip_87 ?_
    generalize up2 m33 b 12 (if ((m33 b 12) + 1) < (9999 : Int32) then ((m33 b 12) + 1) else (9999 : Int32)) = m34 at h ⊢
    refine WP.iload_n 0 dX0_grip_90 rfl rfl ?_
    exact WP.iret dX0_grip_91 rfl (Nat.le_refl _) (Nat.le_refl _) ⟨_, rfl, h⟩
set_option maxHeartbeats 4000000 in
set_option maxRecDepth 20000 in
theorem rg_X0_takeBack_0 (hG : fl G = false) (b : Nat) (x1 : Int32) (x2 : Int32) (x3 : Int32) (x4 : Int32) (h : ((¬ x2 = (1 : Int32) → ((x2 = (1 : Int32) → sh[b]? = some (.inl 0) ∧ Cal G mX0_lower d [.ref b, .int x3, .int x1] sh ta m (fun v3 m4 => v3 = none ∧ ∀ m8, m8 = up2 m4 b 12 x4 → K none m8)) ∧ (¬ x2 = (1 : Int32) → ((¬ x2 = (2 : Int32) → sh[b]? = some (.inl 0) ∧ ∀ m11, m11 = up2 m b 12 x4 → K none m11) ∧ (x2 = (2 : Int32) → sh[b]? = some (.inl 0) ∧ Cal G mX0_lower d [.ref b, .int x3, .int x1] sh ta m (fun v12 m13 => v12 = none ∧ ∀ m17, m17 = up2 m13 b 12 x4 → K none m17)))))) ∧ (x2 = (1 : Int32) → sh[b]? = some (.inl 0) ∧ Cal G mX0_take d [.ref b, .int x3, .int ((-2))] sh ta m (fun v18 m19 => v18 = none ∧ ((x2 = (1 : Int32) → Cal G mX0_lower d [.ref b, .int x3, .int x1] sh ta m19 (fun v24 m25 => v24 = none ∧ ∀ m28, m28 = up2 m25 b 12 x4 → K none m28)) ∧ (¬ x2 = (1 : Int32) → ((¬ x2 = (2 : Int32) → ∀ m30, m30 = up2 m19 b 12 x4 → K none m30) ∧ (x2 = (2 : Int32) → Cal G mX0_lower d [.ref b, .int x3, .int x1] sh ta m19 (fun v31 m32 => v31 = none ∧ ∀ m35, m35 = up2 m32 b 12 x4 → K none m35))))))))) : WP G (rmD (d + 1) 0 0) mX0_takeBack (QC G sh ta K) 0 0 0 [(0, .ref b), (1, .int x1), (2, .int x2), (3, .int x3), (4, .int x4)] [] (sh, ta, m) := by
  refine WP.iload_n 2 dX0_takeBack_0 rfl rfl ?_
  refine WP.iconst (v := 1) dX0_takeBack_1 rfl ?_
  refine WP.icmp_ne (tgt := 12) dX0_takeBack_2 (by decide) (fun c1 => ?_) (fun c1 => ?_)
  · have h := h.1 c1
    refine WP.iload_n 2 dX0_takeBack_12 rfl rfl ?_
    refine WP.iconst (v := 1) dX0_takeBack_13 rfl ?_
    refine WP.icmp_eq (tgt := 22) dX0_takeBack_14 (by decide) (fun c2 => ?_) (fun c2 => ?_)
    · have h := h.1 c2
      refine WP.aload_n 0 dX0_takeBack_22 rfl rfl ?_
      refine WP.iload_n 3 dX0_takeBack_23 rfl rfl ?_
      refine WP.iload_n 1 dX0_takeBack_24 rfl rfl ?_
      obtain ⟨h7, h⟩ := h
      refine WP.callV (y := mX0_lower) (As := [.int x3, .int x1]) (st := []) dX0_takeBack_25 wm_X0_95 mw_X0_lower rfl (Nat.le_of_ble_eq_true rfl) (rmok d) h7 (by decide) rfl h (fun v3 Sm4 h6 => ?_)
      obtain ⟨m4, rfl, rfl, h⟩ := h6
      show WP G _ _ _ 0 0 28 [(0, .ref b), (1, .int x1), (2, .int x2), (3, .int x3), (4, .int x4)] [] (sh, ta, m4)
      refine WP.aload_n 0 dX0_takeBack_28 rfl rfl ?_
      refine WP.iload 4 dX0_takeBack_29 rfl ?_
      have h := h _ rfl
      refine WP.putI 0 12 wf_X0_62 (by decide) (by decide) rfl h7 rfl rfl rfl dX0_takeBack_31 ?_
      generalize up2 m4 b 12 x4 = m8 at h ⊢
      exact WP.vret dX0_takeBack_34 rfl (Nat.le_refl _) (Nat.le_refl _) ⟨_, rfl, h⟩
    · have h := h.2 c2
      refine WP.iload_n 2 dX0_takeBack_17 rfl rfl ?_
      refine WP.iconst (v := 2) dX0_takeBack_18 rfl ?_
      refine WP.icmp_ne (tgt := 28) dX0_takeBack_19 (by decide) (fun c9 => ?_) (fun c9 => ?_)
      · have h := h.1 c9
        refine WP.aload_n 0 dX0_takeBack_28 rfl rfl ?_
        refine WP.iload 4 dX0_takeBack_29 rfl ?_
        obtain ⟨h10, h⟩ := h
        have h := h _ rfl
        refine WP.putI 0 12 wf_X0_62 (by decide) (by decide) rfl h10 rfl rfl rfl dX0_takeBack_31 ?_
        generalize up2 m b 12 x4 = m11 at h ⊢
        exact WP.vret dX0_takeBack_34 rfl (Nat.le_refl _) (Nat.le_refl _) ⟨_, rfl, h⟩
      · have h := h.2 c9
        refine WP.aload_n 0 dX0_takeBack_22 rfl rfl ?_
        refine WP.iload_n 3 dX0_takeBack_23 rfl rfl ?_
        refine WP.iload_n 1 dX0_takeBack_24 rfl rfl ?_
        obtain ⟨h16, h⟩ := h
        refine WP.callV (y := mX0_lower) (As := [.int x3, .int x1]) (st := []) dX0_takeBack_25 wm_X0_95 mw_X0_lower rfl (Nat.le_of_ble_eq_true rfl) (rmok d) h16 (by decide) rfl h (fun v12 Sm13 h15 => ?_)
        obtain ⟨m13, rfl, rfl, h⟩ := h15
        show WP G _ _ _ 0 0 28 [(0, .ref b), (1, .int x1), (2, .int x2), (3, .int x3), (4, .int x4)] [] (sh, ta, m13)
        refine WP.aload_n 0 dX0_takeBack_28 rfl rfl ?_
        refine WP.iload 4 dX0_takeBack_29 rfl ?_
        have h := h _ rfl
        refine WP.putI 0 12 wf_X0_62 (by decide) (by decide) rfl h16 rfl rfl rfl dX0_takeBack_31 ?_
        generalize up2 m13 b 12 x4 = m17 at h ⊢
        exact WP.vret dX0_takeBack_34 rfl (Nat.le_refl _) (Nat.le_refl _) ⟨_, rfl, h⟩
  · have h := h.2 c1
    refine WP.aload_n 0 dX0_takeBack_5 rfl rfl ?_
    refine WP.iload_n 3 dX0_takeBack_6 rfl rfl ?_
    refine WP.bipush (v := (-2)) dX0_takeBack_7 rfl ?_
    obtain ⟨h22, h⟩ := h
    refine WP.callV (y := mX0_take) (As := [.int x3, .int ((-2))]) (st := []) dX0_takeBack_9 wm_X0_157 mw_X0_take rfl (Nat.le_of_ble_eq_true rfl) (rmok d) h22 (by decide) rfl h (fun v18 Sm19 h21 => ?_)
    obtain ⟨m19, rfl, rfl, h⟩ := h21
    show WP G _ _ _ 0 0 12 [(0, .ref b), (1, .int x1), (2, .int x2), (3, .int x3), (4, .int x4)] [] (sh, ta, m19)
    refine WP.iload_n 2 dX0_takeBack_12 rfl rfl ?_
    refine WP.iconst (v := 1) dX0_takeBack_13 rfl ?_
    refine WP.icmp_eq (tgt := 22) dX0_takeBack_14 (by decide) (fun c23 => ?_) (fun c23 => ?_)
    · have h := h.1 c23
      refine WP.aload_n 0 dX0_takeBack_22 rfl rfl ?_
      refine WP.iload_n 3 dX0_takeBack_23 rfl rfl ?_
      refine WP.iload_n 1 dX0_takeBack_24 rfl rfl ?_
      refine WP.callV (y := mX0_lower) (As := [.int x3, .int x1]) (st := []) dX0_takeBack_25 wm_X0_95 mw_X0_lower rfl (Nat.le_of_ble_eq_true rfl) (rmok d) h22 (by decide) rfl h (fun v24 Sm25 h27 => ?_)
      obtain ⟨m25, rfl, rfl, h⟩ := h27
      show WP G _ _ _ 0 0 28 [(0, .ref b), (1, .int x1), (2, .int x2), (3, .int x3), (4, .int x4)] [] (sh, ta, m25)
      refine WP.aload_n 0 dX0_takeBack_28 rfl rfl ?_
      refine WP.iload 4 dX0_takeBack_29 rfl ?_
      have h := h _ rfl
      refine WP.putI 0 12 wf_X0_62 (by decide) (by decide) rfl h22 rfl rfl rfl dX0_takeBack_31 ?_
      generalize up2 m25 b 12 x4 = m28 at h ⊢
      exact WP.vret dX0_takeBack_34 rfl (Nat.le_refl _) (Nat.le_refl _) ⟨_, rfl, h⟩
    · have h := h.2 c23
      refine WP.iload_n 2 dX0_takeBack_17 rfl rfl ?_
      refine WP.iconst (v := 2) dX0_takeBack_18 rfl ?_
      refine WP.icmp_ne (tgt := 28) dX0_takeBack_19 (by decide) (fun c29 => ?_) (fun c29 => ?_)
      · have h := h.1 c29
        refine WP.aload_n 0 dX0_takeBack_28 rfl rfl ?_
        refine WP.iload 4 dX0_takeBack_29 rfl ?_
        have h := h _ rfl
        refine WP.putI 0 12 wf_X0_62 (by decide) (by decide) rfl h22 rfl rfl rfl dX0_takeBack_31 ?_
        generalize up2 m19 b 12 x4 = m30 at h ⊢
        exact WP.vret dX0_takeBack_34 rfl (Nat.le_refl _) (Nat.le_refl _) ⟨_, rfl, h⟩
      · have h := h.2 c29
        refine WP.aload_n 0 dX0_takeBack_22 rfl rfl ?_
        refine WP.iload_n 3 dX0_takeBack_23 rfl rfl ?_
        refine WP.iload_n 1 dX0_takeBack_24 rfl rfl ?_
        refine WP.callV (y := mX0_lower) (As := [.int x3, .int x1]) (st := []) dX0_takeBack_25 wm_X0_95 mw_X0_lower rfl (Nat.le_of_ble_eq_true rfl) (rmok d) h22 (by decide) rfl h (fun v31 Sm32 h34 => ?_)
        obtain ⟨m32, rfl, rfl, h⟩ := h34
        show WP G _ _ _ 0 0 28 [(0, .ref b), (1, .int x1), (2, .int x2), (3, .int x3), (4, .int x4)] [] (sh, ta, m32)
        refine WP.aload_n 0 dX0_takeBack_28 rfl rfl ?_
        refine WP.iload 4 dX0_takeBack_29 rfl ?_
        have h := h _ rfl
        refine WP.putI 0 12 wf_X0_62 (by decide) (by decide) rfl h22 rfl rfl rfl dX0_takeBack_31 ?_
        generalize up2 m32 b 12 x4 = m35 at h ⊢
        exact WP.vret dX0_takeBack_34 rfl (Nat.le_refl _) (Nat.le_refl _) ⟨_, rfl, h⟩
set_option maxHeartbeats 4000000 in
set_option maxRecDepth 20000 in
theorem rg_X0_draw_0 (hG : fl G = false) (b : Nat) (h : sh[b]? = some (.inl 0) ∧ ∀ m2, m2 = up2 m b 14 (((m b 14) * 1103515245) + 12345) → K (some (.int (((m2 b 14).toUInt32 >>> ((8 : Int32).toUInt32 &&& Int32.toUInt32 31)).toInt32))) m2) : WP G (rmD (d + 1) 0 0) mX0_draw (QC G sh ta K) 0 0 0 [(0, .ref b)] [] (sh, ta, m) := by
  refine WP.aload_n 0 dX0_draw_0 rfl rfl ?_
  refine WP.aload_n 0 dX0_draw_1 rfl rfl ?_
  obtain ⟨h1, h⟩ := h
  refine WP.getI 0 14 wf_X0_40 (by decide) (by decide) rfl h1 dX0_draw_2 ?_
  refine WP.ldc wx_X0_164 dX0_draw_5 ?_
  refine WP.imul dX0_draw_7 ?_
  refine WP.sipush (v := 12345) dX0_draw_8 rfl ?_
  refine WP.iadd dX0_draw_11 ?_
  have h := h _ rfl
  refine WP.putI 0 14 wf_X0_40 (by decide) (by decide) rfl h1 rfl rfl rfl dX0_draw_12 ?_
  generalize up2 m b 14 (((m b 14) * 1103515245) + 12345) = m2 at h ⊢
  refine WP.aload_n 0 dX0_draw_15 rfl rfl ?_
  refine WP.getI 0 14 wf_X0_40 (by decide) (by decide) rfl h1 dX0_draw_16 ?_
  refine WP.bipush (v := 8) dX0_draw_19 rfl ?_
  refine WP.iushr dX0_draw_21 ?_
  exact WP.iret dX0_draw_22 rfl (Nat.le_refl _) (Nat.le_refl _) ⟨_, rfl, h⟩
set_option maxHeartbeats 4000000 in
set_option maxRecDepth 20000 in
theorem rg_X0_howManyWon_0 (hG : fl G = false) (b : Nat) (h : WP G (rmD (d + 1) 0 0) mX0_howManyWon (QC G sh ta K) 0 0 4 [(0, .ref b), (1, .int 0), (2, .int 0)] [] (sh, ta, m)) : WP G (rmD (d + 1) 0 0) mX0_howManyWon (QC G sh ta K) 0 0 0 [(0, .ref b)] [] (sh, ta, m) := by
  refine WP.iconst (v := 0) dX0_howManyWon_0 rfl ?_
  refine WP.istore_n (lv2 := [(1, .int 0), (0, .ref b)]) dX0_howManyWon_1 rfl (by decide) rfl ?_
  refine WP.iconst (v := 0) dX0_howManyWon_2 rfl ?_
  refine WP.istore_n (lv2 := [(2, .int 0), (1, .int 0), (0, .ref b)]) dX0_howManyWon_3 rfl (by decide) rfl ?_
  exact WP.pick [2, 1, 0] rfl h
set_option maxHeartbeats 4000000 in
set_option maxRecDepth 20000 in
theorem rg_X0_howManyWon_4 (hG : fl G = false) (b : Nat) (x1 : Int32) (x2 : Int32) (h : sh[b]? = some (.inl 0) ∧ (((m b 9) ≤ x2 → K (some (.int x1)) m) ∧ (¬ (m b 9) ≤ x2 → Cal G mX0_cellOf d [.ref b, .int x2] sh ta m (fun v3 m4 => ∃ r5, v3 = some (.int r5) ∧ ((¬ r5 = ((-1) : Int32) → WP G (rmD (d + 1) 0 0) mX0_howManyWon (QC G sh ta K) 0 0 4 [(0, .ref b), (1, .int x1), (2, .int (x2 + 1))] [] (sh, ta, m4)) ∧ (r5 = ((-1) : Int32) → WP G (rmD (d + 1) 0 0) mX0_howManyWon (QC G sh ta K) 0 0 4 [(0, .ref b), (1, .int (x1 + 1)), (2, .int (x2 + 1))] [] (sh, ta, m4))))))) : WP G (rmD (d + 1) 0 0) mX0_howManyWon (QC G sh ta K) 0 0 4 [(0, .ref b), (1, .int x1), (2, .int x2)] [] (sh, ta, m) := by
  refine WP.iload_n 2 dX0_howManyWon_4 rfl rfl ?_
  refine WP.aload_n 0 dX0_howManyWon_5 rfl rfl ?_
  obtain ⟨h1, h⟩ := h
  refine WP.getI 0 9 wf_X0_59 (by decide) (by decide) rfl h1 dX0_howManyWon_6 ?_
  refine WP.icmp_ge (tgt := 30) dX0_howManyWon_9 (by decide) (fun c2 => ?_) (fun c2 => ?_)
  · have h := h.1 c2
    refine WP.iload_n 1 dX0_howManyWon_30 rfl rfl ?_
    exact WP.iret dX0_howManyWon_31 rfl (Nat.le_refl _) (Nat.le_refl _) ⟨_, rfl, h⟩
  · have h := h.2 c2
    refine WP.aload_n 0 dX0_howManyWon_12 rfl rfl ?_
    refine WP.iload_n 2 dX0_howManyWon_13 rfl rfl ?_
    refine WP.callV (y := mX0_cellOf) (As := [.int x2]) (st := []) dX0_howManyWon_14 wm_X0_92 mw_X0_cellOf rfl (Nat.le_of_ble_eq_true rfl) (rmok d) h1 (by decide) rfl h (fun v3 Sm4 h6 => ?_)
    obtain ⟨m4, rfl, r5, rfl, h⟩ := h6
    show WP G _ _ _ 0 0 17 [(0, .ref b), (1, .int x1), (2, .int x2)] [.int r5] (sh, ta, m4)
    refine WP.iconst (v := (-1)) dX0_howManyWon_17 rfl ?_
    refine WP.icmp_ne (tgt := 24) dX0_howManyWon_18 (by decide) (fun c7 => ?_) (fun c7 => ?_)
    · have h := h.1 c7
      refine WP.iinc (lv2 := [(2, .int (x2 + 1)), (0, .ref b), (1, .int x1)]) 2 1 dX0_howManyWon_24 rfl rfl (by decide) rfl ?_
      refine WP.goto (tgt := 4) dX0_howManyWon_27 (by decide) ?_
      exact WP.pick [1, 2, 0] rfl h
    · have h := h.2 c7
      refine WP.iinc (lv2 := [(1, .int (x1 + 1)), (0, .ref b), (2, .int x2)]) 1 1 dX0_howManyWon_21 rfl rfl (by decide) rfl ?_
      refine WP.iinc (lv2 := [(2, .int (x2 + 1)), (1, .int (x1 + 1)), (0, .ref b)]) 2 1 dX0_howManyWon_24 rfl rfl (by decide) rfl ?_
      refine WP.goto (tgt := 4) dX0_howManyWon_27 (by decide) ?_
      exact WP.pick [2, 1, 0] rfl h
set_option maxHeartbeats 4000000 in
set_option maxRecDepth 20000 in
theorem rg_X0_worthOfWon_0 (hG : fl G = false) (b : Nat) (h : WP G (rmD (d + 1) 0 0) mX0_worthOfWon (QC G sh ta K) 0 0 4 [(0, .ref b), (1, .int 0), (2, .int 0)] [] (sh, ta, m)) : WP G (rmD (d + 1) 0 0) mX0_worthOfWon (QC G sh ta K) 0 0 0 [(0, .ref b)] [] (sh, ta, m) := by
  refine WP.iconst (v := 0) dX0_worthOfWon_0 rfl ?_
  refine WP.istore_n (lv2 := [(1, .int 0), (0, .ref b)]) dX0_worthOfWon_1 rfl (by decide) rfl ?_
  refine WP.iconst (v := 0) dX0_worthOfWon_2 rfl ?_
  refine WP.istore_n (lv2 := [(2, .int 0), (1, .int 0), (0, .ref b)]) dX0_worthOfWon_3 rfl (by decide) rfl ?_
  exact WP.pick [2, 1, 0] rfl h
set_option maxHeartbeats 4000000 in
set_option maxRecDepth 20000 in
theorem rg_X0_worthOfWon_4 (hG : fl G = false) (b : Nat) (x1 : Int32) (x2 : Int32) (h : sh[b]? = some (.inl 0) ∧ (((m b 9) ≤ x2 → K (some (.int x1)) m) ∧ (¬ (m b 9) ≤ x2 → Cal G mX0_cellOf d [.ref b, .int x2] sh ta m (fun v3 m4 => ∃ r5, v3 = some (.int r5) ∧ ((¬ r5 = ((-1) : Int32) → WP G (rmD (d + 1) 0 0) mX0_worthOfWon (QC G sh ta K) 0 0 4 [(0, .ref b), (1, .int x1), (2, .int (x2 + 1))] [] (sh, ta, m4)) ∧ (r5 = ((-1) : Int32) → Cal G mX0_worthOf d [.ref b, .int x2] sh ta m4 (fun v8 m9 => ∃ r10, v8 = some (.int r10) ∧ WP G (rmD (d + 1) 0 0) mX0_worthOfWon (QC G sh ta K) 0 0 4 [(0, .ref b), (1, .int (x1 + r10)), (2, .int (x2 + 1))] [] (sh, ta, m9)))))))) : WP G (rmD (d + 1) 0 0) mX0_worthOfWon (QC G sh ta K) 0 0 4 [(0, .ref b), (1, .int x1), (2, .int x2)] [] (sh, ta, m) := by
  refine WP.iload_n 2 dX0_worthOfWon_4 rfl rfl ?_
  refine WP.aload_n 0 dX0_worthOfWon_5 rfl rfl ?_
  obtain ⟨h1, h⟩ := h
  refine WP.getI 0 9 wf_X0_59 (by decide) (by decide) rfl h1 dX0_worthOfWon_6 ?_
  refine WP.icmp_ge (tgt := 35) dX0_worthOfWon_9 (by decide) (fun c2 => ?_) (fun c2 => ?_)
  · have h := h.1 c2
    refine WP.iload_n 1 dX0_worthOfWon_35 rfl rfl ?_
    exact WP.iret dX0_worthOfWon_36 rfl (Nat.le_refl _) (Nat.le_refl _) ⟨_, rfl, h⟩
  · have h := h.2 c2
    refine WP.aload_n 0 dX0_worthOfWon_12 rfl rfl ?_
    refine WP.iload_n 2 dX0_worthOfWon_13 rfl rfl ?_
    refine WP.callV (y := mX0_cellOf) (As := [.int x2]) (st := []) dX0_worthOfWon_14 wm_X0_92 mw_X0_cellOf rfl (Nat.le_of_ble_eq_true rfl) (rmok d) h1 (by decide) rfl h (fun v3 Sm4 h6 => ?_)
    obtain ⟨m4, rfl, r5, rfl, h⟩ := h6
    show WP G _ _ _ 0 0 17 [(0, .ref b), (1, .int x1), (2, .int x2)] [.int r5] (sh, ta, m4)
    refine WP.iconst (v := (-1)) dX0_worthOfWon_17 rfl ?_
    refine WP.icmp_ne (tgt := 29) dX0_worthOfWon_18 (by decide) (fun c7 => ?_) (fun c7 => ?_)
    · have h := h.1 c7
      refine WP.iinc (lv2 := [(2, .int (x2 + 1)), (0, .ref b), (1, .int x1)]) 2 1 dX0_worthOfWon_29 rfl rfl (by decide) rfl ?_
      refine WP.goto (tgt := 4) dX0_worthOfWon_32 (by decide) ?_
      exact WP.pick [1, 2, 0] rfl h
    · have h := h.2 c7
      refine WP.iload_n 1 dX0_worthOfWon_21 rfl rfl ?_
      refine WP.aload_n 0 dX0_worthOfWon_22 rfl rfl ?_
      refine WP.iload_n 2 dX0_worthOfWon_23 rfl rfl ?_
      refine WP.callV (y := mX0_worthOf) (As := [.int x2]) (st := [.int x1]) dX0_worthOfWon_24 wm_X0_132 mw_X0_worthOf rfl (Nat.le_of_ble_eq_true rfl) (rmok d) h1 (by decide) rfl h (fun v8 Sm9 h11 => ?_)
      obtain ⟨m9, rfl, r10, rfl, h⟩ := h11
      show WP G _ _ _ 0 0 27 [(0, .ref b), (1, .int x1), (2, .int x2)] [.int r10, .int x1] (sh, ta, m9)
      refine WP.iadd dX0_worthOfWon_27 ?_
      refine WP.istore_n (lv2 := [(1, .int (x1 + r10)), (0, .ref b), (2, .int x2)]) dX0_worthOfWon_28 rfl (by decide) rfl ?_
      refine WP.iinc (lv2 := [(2, .int (x2 + 1)), (1, .int (x1 + r10)), (0, .ref b)]) 2 1 dX0_worthOfWon_29 rfl rfl (by decide) rfl ?_
      refine WP.goto (tgt := 4) dX0_worthOfWon_32 (by decide) ?_
      exact WP.pick [2, 1, 0] rfl h
end
