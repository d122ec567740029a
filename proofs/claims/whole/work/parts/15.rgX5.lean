section
variable {G : Gm} {d : Nat} {sh : List Shp} {ta : Nat → Nat → Option Nat} {m : Mem} {K : Option Value → Mem → Prop}
set_option maxHeartbeats 4000000 in
set_option maxRecDepth 20000 in
theorem rg_X5_lay_0 (hG : fl G = false) (b : Nat) (x1 : Int32) (x2 : Int32) (h : ((x1 < 0 → sh[b]? = some (.inl 5) ∧ Cal G mX5_refuse d [.ref b, .int 1] sh ta m (fun v2 m3 => ∃ r4, v2 = some (.int r4) ∧ K (some (.int r4)) m3)) ∧ (¬ x1 < 0 → (((70 : Int32) ≤ x1 → sh[b]? = some (.inl 5) ∧ Cal G mX5_refuse d [.ref b, .int 1] sh ta m (fun v8 m9 => ∃ r10, v8 = some (.int r10) ∧ K (some (.int r10)) m9)) ∧ (¬ (70 : Int32) ≤ x1 → Cal G mX5_isPile d [.int x2] sh ta m (fun v13 m14 => ∃ r15, v13 = some (.int r15) ∧ ((¬ r15 = 0 → sh[b]? = some (.inl 5) ∧ ∃ i19, ta b 0 = some i19 ∧ sh[i19]? = some (.inl 0) ∧ (((16 : Int32) ≤ (m14 i19 9) → Cal G mX5_refuse d [.ref b, .int 4] sh ta m14 (fun v23 m24 => ∃ r25, v23 = some (.int r25) ∧ K (some (.int r25)) m24)) ∧ (¬ (16 : Int32) ≤ (m14 i19 9) → Cal G mX0_highOf d [.ref i19, .int x2] sh ta m14 (fun v27 m28 => ∃ r29, v27 = some (.int r29) ∧ ((r29 < (5 : Int32) → ¬ (10 : Int32) = 0 ∧ ¬ (10 : Int32) = 0 ∧ Cal G mX0_add d [.ref i19, .int (x1 / 10), .int (x1 - x1 / 10 * 10), .int x2] sh ta m28 (fun v34 m35 => ∃ r36, v34 = some (.int r36) ∧ K (some (.int r36)) m35)) ∧ (¬ r29 < (5 : Int32) → Cal G mX5_refuse d [.ref b, .int 4] sh ta m28 (fun v38 m39 => ∃ r40, v38 = some (.int r40) ∧ K (some (.int r40)) m39))))))) ∧ (r15 = 0 → sh[b]? = some (.inl 5) ∧ Cal G mX5_refuse d [.ref b, .int 1] sh ta m14 (fun v42 m43 => ∃ r44, v42 = some (.int r44) ∧ K (some (.int r44)) m43))))))))) : WP G (rmD (d + 1) 0 0) mX5_lay (QC G sh ta K) 0 0 0 [(0, .ref b), (1, .int x1), (2, .int x2)] [] (sh, ta, m) := by
  refine WP.iload_n 1 dX5_lay_0 rfl rfl ?_
  refine WP.if_lt (tgt := 17) dX5_lay_1 (by decide) (fun c1 => ?_) (fun c1 => ?_)
  · have h := h.1 c1
    refine WP.aload_n 0 dX5_lay_17 rfl rfl ?_
    refine WP.iconst (v := 1) dX5_lay_18 rfl ?_
    obtain ⟨h6, h⟩ := h
    refine WP.callV (y := mX5_refuse) (As := [.int 1]) (st := []) dX5_lay_19 wm_X5_87 mw_X5_refuse rfl (Nat.le_of_ble_eq_true rfl) (rmok d) h6 (by decide) rfl h (fun v2 Sm3 h5 => ?_)
    obtain ⟨m3, rfl, r4, rfl, h⟩ := h5
    show WP G _ _ _ 0 0 22 [(0, .ref b), (1, .int x1), (2, .int x2)] [.int r4] (sh, ta, m3)
    exact WP.iret dX5_lay_22 rfl (Nat.le_refl _) (Nat.le_refl _) ⟨_, rfl, h⟩
  · have h := h.2 c1
    refine WP.iload_n 1 dX5_lay_4 rfl rfl ?_
    refine WP.bipush (v := 70) dX5_lay_5 rfl ?_
    refine WP.icmp_ge (tgt := 17) dX5_lay_7 (by decide) (fun c7 => ?_) (fun c7 => ?_)
    · have h := h.1 c7
      refine WP.aload_n 0 dX5_lay_17 rfl rfl ?_
      refine WP.iconst (v := 1) dX5_lay_18 rfl ?_
      obtain ⟨h12, h⟩ := h
      refine WP.callV (y := mX5_refuse) (As := [.int 1]) (st := []) dX5_lay_19 wm_X5_87 mw_X5_refuse rfl (Nat.le_of_ble_eq_true rfl) (rmok d) h12 (by decide) rfl h (fun v8 Sm9 h11 => ?_)
      obtain ⟨m9, rfl, r10, rfl, h⟩ := h11
      show WP G _ _ _ 0 0 22 [(0, .ref b), (1, .int x1), (2, .int x2)] [.int r10] (sh, ta, m9)
      exact WP.iret dX5_lay_22 rfl (Nat.le_refl _) (Nat.le_refl _) ⟨_, rfl, h⟩
    · have h := h.2 c7
      refine WP.iload_n 2 dX5_lay_10 rfl rfl ?_
      refine WP.callS (y := mX5_isPile) (As := [.int x2]) (st := []) dX5_lay_11 wm_X5_83 mw_X5_isPile rfl (Nat.le_of_ble_eq_true rfl) (rmok d) rfl h (fun v13 Sm14 h16 => ?_)
      obtain ⟨m14, rfl, r15, rfl, h⟩ := h16
      show WP G _ _ _ 0 0 14 [(0, .ref b), (1, .int x1), (2, .int x2)] [.int r15] (sh, ta, m14)
      refine WP.if_ne (tgt := 23) dX5_lay_14 (by decide) (fun c17 => ?_) (fun c17 => ?_)
      · have h := h.1 c17
        refine WP.aload_n 0 dX5_lay_23 rfl rfl ?_
        obtain ⟨h18, h⟩ := h
        obtain ⟨i19, h20, h⟩ := h
        refine WP.getR 5 0 wf_X5_67 (by decide) (by decide) rfl h18 h20 dX5_lay_24 ?_
        obtain ⟨h21, h⟩ := h
        refine WP.getIN 0 9 wf_X5_91 (by decide) (by decide) rfl h21 dX5_lay_27 ?_
        refine WP.bipush (v := 16) dX5_lay_30 rfl ?_
        refine WP.icmp_ge (tgt := 47) dX5_lay_32 (by decide) (fun c22 => ?_) (fun c22 => ?_)
        · have h := h.1 c22
          refine WP.aload_n 0 dX5_lay_47 rfl rfl ?_
          refine WP.iconst (v := 4) dX5_lay_48 rfl ?_
          refine WP.callV (y := mX5_refuse) (As := [.int 4]) (st := []) dX5_lay_49 wm_X5_87 mw_X5_refuse rfl (Nat.le_of_ble_eq_true rfl) (rmok d) h18 (by decide) rfl h (fun v23 Sm24 h26 => ?_)
          obtain ⟨m24, rfl, r25, rfl, h⟩ := h26
          show WP G _ _ _ 0 0 52 [(0, .ref b), (1, .int x1), (2, .int x2)] [.int r25] (sh, ta, m24)
          exact WP.iret dX5_lay_52 rfl (Nat.le_refl _) (Nat.le_refl _) ⟨_, rfl, h⟩
        · have h := h.2 c22
          refine WP.aload_n 0 dX5_lay_35 rfl rfl ?_
          refine WP.getR 5 0 wf_X5_67 (by decide) (by decide) rfl h18 h20 dX5_lay_36 ?_
          refine WP.iload_n 2 dX5_lay_39 rfl rfl ?_
          refine WP.callV (y := mX0_highOf) (As := [.int x2]) (st := []) dX5_lay_40 wm_X5_95 mw_X0_highOf rfl (Nat.le_of_ble_eq_true rfl) (rmok d) h21 (by decide) rfl h (fun v27 Sm28 h30 => ?_)
          obtain ⟨m28, rfl, r29, rfl, h⟩ := h30
          show WP G _ _ _ 0 0 43 [(0, .ref b), (1, .int x1), (2, .int x2)] [.int r29] (sh, ta, m28)
          refine WP.iconst (v := 5) dX5_lay_43 rfl ?_
          refine WP.icmp_lt (tgt := 53) dX5_lay_44 (by decide) (fun c31 => ?_) (fun c31 => ?_)
          · have h := h.1 c31
            refine WP.aload_n 0 dX5_lay_53 rfl rfl ?_
            refine WP.getR 5 0 wf_X5_67 (by decide) (by decide) rfl h18 h20 dX5_lay_54 ?_
            refine WP.iload_n 1 dX5_lay_57 rfl rfl ?_
            refine WP.bipush (v := 10) dX5_lay_58 rfl ?_
            obtain ⟨h32, h⟩ := h
            refine WP.idiv dX5_lay_60 h32 ?_
            refine WP.iload_n 1 dX5_lay_61 rfl rfl ?_
            refine WP.bipush (v := 10) dX5_lay_62 rfl ?_
            obtain ⟨h33, h⟩ := h
            refine WP.irem dX5_lay_64 h33 ?_
            refine WP.iload_n 2 dX5_lay_65 rfl rfl ?_
            refine WP.callV (y := mX0_add) (As := [.int (x1 / 10), .int (x1 - x1 / 10 * 10), .int x2]) (st := []) dX5_lay_66 wm_X5_98 mw_X0_add rfl (Nat.le_of_ble_eq_true rfl) (rmok d) h21 (by decide) rfl h (fun v34 Sm35 h37 => ?_)
            obtain ⟨m35, rfl, r36, rfl, h⟩ := h37
            show WP G _ _ _ 0 0 69 [(0, .ref b), (1, .int x1), (2, .int x2)] [.int r36] (sh, ta, m35)
            exact WP.iret dX5_lay_69 rfl (Nat.le_refl _) (Nat.le_refl _) ⟨_, rfl, h⟩
          · have h := h.2 c31
            refine WP.aload_n 0 dX5_lay_47 rfl rfl ?_
            refine WP.iconst (v := 4) dX5_lay_48 rfl ?_
            refine WP.callV (y := mX5_refuse) (As := [.int 4]) (st := []) dX5_lay_49 wm_X5_87 mw_X5_refuse rfl (Nat.le_of_ble_eq_true rfl) (rmok d) h18 (by decide) rfl h (fun v38 Sm39 h41 => ?_)
            obtain ⟨m39, rfl, r40, rfl, h⟩ := h41
            show WP G _ _ _ 0 0 52 [(0, .ref b), (1, .int x1), (2, .int x2)] [.int r40] (sh, ta, m39)
            exact WP.iret dX5_lay_52 rfl (Nat.le_refl _) (Nat.le_refl _) ⟨_, rfl, h⟩
      · have h := h.2 c17
        refine WP.aload_n 0 dX5_lay_17 rfl rfl ?_
        refine WP.iconst (v := 1) dX5_lay_18 rfl ?_
        obtain ⟨h46, h⟩ := h
        refine WP.callV (y := mX5_refuse) (As := [.int 1]) (st := []) dX5_lay_19 wm_X5_87 mw_X5_refuse rfl (Nat.le_of_ble_eq_true rfl) (rmok d) h46 (by decide) rfl h (fun v42 Sm43 h45 => ?_)
        obtain ⟨m43, rfl, r44, rfl, h⟩ := h45
        show WP G _ _ _ 0 0 22 [(0, .ref b), (1, .int x1), (2, .int x2)] [.int r44] (sh, ta, m43)
        exact WP.iret dX5_lay_22 rfl (Nat.le_refl _) (Nat.le_refl _) ⟨_, rfl, h⟩
set_option maxHeartbeats 4000000 in
set_option maxRecDepth 20000 in
theorem rg_X5_thingIs_0 (hG : fl G = false) (b : Nat) (x1 : Int32) (x2 : Int32) (h : sh[b]? = some (.inl 5) ∧ ∃ i2, ta b 0 = some i2 ∧ sh[i2]? = some (.inl 0) ∧ Cal G mX0_has d [.ref i2, .int x1] sh ta m (fun v4 m5 => ∃ r6, v4 = some (.int r6) ∧ ((¬ r6 = 0 → (((x2.toInt < 0 ∨ 7 < x2.toInt) → Cal G mX5_refuse d [.ref b, .int 1] sh ta m5 (fun v11 m12 => ∃ r13, v11 = some (.int r13) ∧ K (some (.int r13)) m12)) ∧ (x2 = 0 → Cal G mX0_kindOf d [.ref i2, .int x1] sh ta m5 (fun v15 m16 => ∃ r17, v15 = some (.int r17) ∧ K (some (.int r17)) m16)) ∧ (x2 = 1 → Cal G mX0_mOf d [.ref i2, .int x1] sh ta m5 (fun v19 m20 => ∃ r21, v19 = some (.int r21) ∧ K (some (.int r21)) m20)) ∧ (x2 = 2 → Cal G mX0_worthOf d [.ref i2, .int x1] sh ta m5 (fun v23 m24 => ∃ r25, v23 = some (.int r25) ∧ K (some (.int r25)) m24)) ∧ (x2 = 3 → Cal G mX0_cellOf d [.ref i2, .int x1] sh ta m5 (fun v27 m28 => ∃ r29, v27 = some (.int r29) ∧ K (some (.int r29)) m28)) ∧ (x2 = 4 → Cal G mX0_under d [.ref i2, .int x1] sh ta m5 (fun v31 m32 => ∃ r33, v31 = some (.int r33) ∧ K (some (.int r33)) m32)) ∧ (x2 = 5 → Cal G mX0_on d [.ref i2, .int x1] sh ta m5 (fun v35 m36 => ∃ r37, v35 = some (.int r37) ∧ K (some (.int r37)) m36)) ∧ (x2 = 6 → Cal G mX0_needs d [.ref i2, .int x1] sh ta m5 (fun v39 m40 => ∃ r41, v39 = some (.int r41) ∧ K (some (.int r41)) m40)) ∧ (x2 = 7 → Cal G mX0_likes d [.ref i2, .int x1] sh ta m5 (fun v43 m44 => ∃ r45, v43 = some (.int r45) ∧ K (some (.int r45)) m44)))) ∧ (r6 = 0 → Cal G mX5_refuse d [.ref b, .int 1] sh ta m5 (fun v47 m48 => ∃ r49, v47 = some (.int r49) ∧ K (some (.int r49)) m48))))) : WP G (rmD (d + 1) 0 0) mX5_thingIs (QC G sh ta K) 0 0 0 [(0, .ref b), (1, .int x1), (2, .int x2)] [] (sh, ta, m) := by
  refine WP.aload_n 0 dX5_thingIs_0 rfl rfl ?_
  obtain ⟨h1, h⟩ := h
  obtain ⟨i2, h3, h⟩ := h
  refine WP.getR 5 0 wf_X5_67 (by decide) (by decide) rfl h1 h3 dX5_thingIs_1 ?_
  refine WP.iload_n 1 dX5_thingIs_4 rfl rfl ?_
  obtain ⟨h8, h⟩ := h
  refine WP.callV (y := mX0_has) (As := [.int x1]) (st := []) dX5_thingIs_5 wm_X5_102 mw_X0_has rfl (Nat.le_of_ble_eq_true rfl) (rmok d) h8 (by decide) rfl h (fun v4 Sm5 h7 => ?_)
  obtain ⟨m5, rfl, r6, rfl, h⟩ := h7
  show WP G _ _ _ 0 0 8 [(0, .ref b), (1, .int x1), (2, .int x2)] [.int r6] (sh, ta, m5)
  refine WP.if_ne (tgt := 17) dX5_thingIs_8 (by decide) (fun c9 => ?_) (fun c9 => ?_)
  · have h := h.1 c9
    refine WP.iload_n 2 dX5_thingIs_17 rfl rfl ?_
    by_cases c10 : (x2 : Int32).toInt < 0 ∨ 7 < (x2 : Int32).toInt
    · have h := h.1 c10
      refine WP.tswO (td := 136) dX5_thingIs_18 c10 (by decide) ?_
      refine WP.aload_n 0 dX5_thingIs_136 rfl rfl ?_
      refine WP.iconst (v := 1) dX5_thingIs_137 rfl ?_
      refine WP.callV (y := mX5_refuse) (As := [.int 1]) (st := []) dX5_thingIs_138 wm_X5_87 mw_X5_refuse rfl (Nat.le_of_ble_eq_true rfl) (rmok d) h1 (by decide) rfl h (fun v11 Sm12 h14 => ?_)
      obtain ⟨m12, rfl, r13, rfl, h⟩ := h14
      show WP G _ _ _ 0 0 141 [(0, .ref b), (1, .int x1), (2, .int x2)] [.int r13] (sh, ta, m12)
      exact WP.iret dX5_thingIs_141 rfl (Nat.le_refl _) (Nat.le_refl _) ⟨_, rfl, h⟩
    rcases (show (x2 : Int32).toInt = 0 ∨ (x2 : Int32).toInt = 1 ∨ (x2 : Int32).toInt = 2 ∨ (x2 : Int32).toInt = 3 ∨ (x2 : Int32).toInt = 4 ∨ (x2 : Int32).toInt = 5 ∨ (x2 : Int32).toInt = 6 ∨ (x2 : Int32).toInt = 7 by omega) with c10 | c10 | c10 | c10 | c10 | c10 | c10 | c10
    · have h := h.2.1 (i32_of c10 rfl)
      refine WP.tswI (td := 64) 0 dX5_thingIs_18 c10 (by decide) rfl (by decide) ?_
      refine WP.aload_n 0 dX5_thingIs_64 rfl rfl ?_
      refine WP.getR 5 0 wf_X5_67 (by decide) (by decide) rfl h1 h3 dX5_thingIs_65 ?_
      refine WP.iload_n 1 dX5_thingIs_68 rfl rfl ?_
      refine WP.callV (y := mX0_kindOf) (As := [.int x1]) (st := []) dX5_thingIs_69 wm_X5_105 mw_X0_kindOf rfl (Nat.le_of_ble_eq_true rfl) (rmok d) h8 (by decide) rfl h (fun v15 Sm16 h18 => ?_)
      obtain ⟨m16, rfl, r17, rfl, h⟩ := h18
      show WP G _ _ _ 0 0 72 [(0, .ref b), (1, .int x1), (2, .int x2)] [.int r17] (sh, ta, m16)
      exact WP.iret dX5_thingIs_72 rfl (Nat.le_refl _) (Nat.le_refl _) ⟨_, rfl, h⟩
    · have h := h.2.2.1 (i32_of c10 rfl)
      refine WP.tswI (td := 73) 1 dX5_thingIs_18 c10 (by decide) rfl (by decide) ?_
      refine WP.aload_n 0 dX5_thingIs_73 rfl rfl ?_
      refine WP.getR 5 0 wf_X5_67 (by decide) (by decide) rfl h1 h3 dX5_thingIs_74 ?_
      refine WP.iload_n 1 dX5_thingIs_77 rfl rfl ?_
      refine WP.callV (y := mX0_mOf) (As := [.int x1]) (st := []) dX5_thingIs_78 wm_X5_108 mw_X0_mOf rfl (Nat.le_of_ble_eq_true rfl) (rmok d) h8 (by decide) rfl h (fun v19 Sm20 h22 => ?_)
      obtain ⟨m20, rfl, r21, rfl, h⟩ := h22
      show WP G _ _ _ 0 0 81 [(0, .ref b), (1, .int x1), (2, .int x2)] [.int r21] (sh, ta, m20)
      exact WP.iret dX5_thingIs_81 rfl (Nat.le_refl _) (Nat.le_refl _) ⟨_, rfl, h⟩
    · have h := h.2.2.2.1 (i32_of c10 rfl)
      refine WP.tswI (td := 82) 2 dX5_thingIs_18 c10 (by decide) rfl (by decide) ?_
      refine WP.aload_n 0 dX5_thingIs_82 rfl rfl ?_
      refine WP.getR 5 0 wf_X5_67 (by decide) (by decide) rfl h1 h3 dX5_thingIs_83 ?_
      refine WP.iload_n 1 dX5_thingIs_86 rfl rfl ?_
      refine WP.callV (y := mX0_worthOf) (As := [.int x1]) (st := []) dX5_thingIs_87 wm_X5_111 mw_X0_worthOf rfl (Nat.le_of_ble_eq_true rfl) (rmok d) h8 (by decide) rfl h (fun v23 Sm24 h26 => ?_)
      obtain ⟨m24, rfl, r25, rfl, h⟩ := h26
      show WP G _ _ _ 0 0 90 [(0, .ref b), (1, .int x1), (2, .int x2)] [.int r25] (sh, ta, m24)
      exact WP.iret dX5_thingIs_90 rfl (Nat.le_refl _) (Nat.le_refl _) ⟨_, rfl, h⟩
    · have h := h.2.2.2.2.1 (i32_of c10 rfl)
      refine WP.tswI (td := 91) 3 dX5_thingIs_18 c10 (by decide) rfl (by decide) ?_
      refine WP.aload_n 0 dX5_thingIs_91 rfl rfl ?_
      refine WP.getR 5 0 wf_X5_67 (by decide) (by decide) rfl h1 h3 dX5_thingIs_92 ?_
      refine WP.iload_n 1 dX5_thingIs_95 rfl rfl ?_
      refine WP.callV (y := mX0_cellOf) (As := [.int x1]) (st := []) dX5_thingIs_96 wm_X5_114 mw_X0_cellOf rfl (Nat.le_of_ble_eq_true rfl) (rmok d) h8 (by decide) rfl h (fun v27 Sm28 h30 => ?_)
      obtain ⟨m28, rfl, r29, rfl, h⟩ := h30
      show WP G _ _ _ 0 0 99 [(0, .ref b), (1, .int x1), (2, .int x2)] [.int r29] (sh, ta, m28)
      exact WP.iret dX5_thingIs_99 rfl (Nat.le_refl _) (Nat.le_refl _) ⟨_, rfl, h⟩
    · have h := h.2.2.2.2.2.1 (i32_of c10 rfl)
      refine WP.tswI (td := 100) 4 dX5_thingIs_18 c10 (by decide) rfl (by decide) ?_
      refine WP.aload_n 0 dX5_thingIs_100 rfl rfl ?_
      refine WP.getR 5 0 wf_X5_67 (by decide) (by decide) rfl h1 h3 dX5_thingIs_101 ?_
      refine WP.iload_n 1 dX5_thingIs_104 rfl rfl ?_
      refine WP.callV (y := mX0_under) (As := [.int x1]) (st := []) dX5_thingIs_105 wm_X5_117 mw_X0_under rfl (Nat.le_of_ble_eq_true rfl) (rmok d) h8 (by decide) rfl h (fun v31 Sm32 h34 => ?_)
      obtain ⟨m32, rfl, r33, rfl, h⟩ := h34
      show WP G _ _ _ 0 0 108 [(0, .ref b), (1, .int x1), (2, .int x2)] [.int r33] (sh, ta, m32)
      exact WP.iret dX5_thingIs_108 rfl (Nat.le_refl _) (Nat.le_refl _) ⟨_, rfl, h⟩
    · have h := h.2.2.2.2.2.2.1 (i32_of c10 rfl)
      refine WP.tswI (td := 109) 5 dX5_thingIs_18 c10 (by decide) rfl (by decide) ?_
      refine WP.aload_n 0 dX5_thingIs_109 rfl rfl ?_
      refine WP.getR 5 0 wf_X5_67 (by decide) (by decide) rfl h1 h3 dX5_thingIs_110 ?_
      refine WP.iload_n 1 dX5_thingIs_113 rfl rfl ?_
      refine WP.callV (y := mX0_on) (As := [.int x1]) (st := []) dX5_thingIs_114 wm_X5_120 mw_X0_on rfl (Nat.le_of_ble_eq_true rfl) (rmok d) h8 (by decide) rfl h (fun v35 Sm36 h38 => ?_)
      obtain ⟨m36, rfl, r37, rfl, h⟩ := h38
      show WP G _ _ _ 0 0 117 [(0, .ref b), (1, .int x1), (2, .int x2)] [.int r37] (sh, ta, m36)
      exact WP.iret dX5_thingIs_117 rfl (Nat.le_refl _) (Nat.le_refl _) ⟨_, rfl, h⟩
    · have h := h.2.2.2.2.2.2.2.1 (i32_of c10 rfl)
      refine WP.tswI (td := 118) 6 dX5_thingIs_18 c10 (by decide) rfl (by decide) ?_
      refine WP.aload_n 0 dX5_thingIs_118 rfl rfl ?_
      refine WP.getR 5 0 wf_X5_67 (by decide) (by decide) rfl h1 h3 dX5_thingIs_119 ?_
      refine WP.iload_n 1 dX5_thingIs_122 rfl rfl ?_
      refine WP.callV (y := mX0_needs) (As := [.int x1]) (st := []) dX5_thingIs_123 wm_X5_123 mw_X0_needs rfl (Nat.le_of_ble_eq_true rfl) (rmok d) h8 (by decide) rfl h (fun v39 Sm40 h42 => ?_)
      obtain ⟨m40, rfl, r41, rfl, h⟩ := h42
      show WP G _ _ _ 0 0 126 [(0, .ref b), (1, .int x1), (2, .int x2)] [.int r41] (sh, ta, m40)
      exact WP.iret dX5_thingIs_126 rfl (Nat.le_refl _) (Nat.le_refl _) ⟨_, rfl, h⟩
    · have h := h.2.2.2.2.2.2.2.2 (i32_of c10 rfl)
      refine WP.tswI (td := 127) 7 dX5_thingIs_18 c10 (by decide) rfl (by decide) ?_
      refine WP.aload_n 0 dX5_thingIs_127 rfl rfl ?_
      refine WP.getR 5 0 wf_X5_67 (by decide) (by decide) rfl h1 h3 dX5_thingIs_128 ?_
      refine WP.iload_n 1 dX5_thingIs_131 rfl rfl ?_
      refine WP.callV (y := mX0_likes) (As := [.int x1]) (st := []) dX5_thingIs_132 wm_X5_126 mw_X0_likes rfl (Nat.le_of_ble_eq_true rfl) (rmok d) h8 (by decide) rfl h (fun v43 Sm44 h46 => ?_)
      obtain ⟨m44, rfl, r45, rfl, h⟩ := h46
      show WP G _ _ _ 0 0 135 [(0, .ref b), (1, .int x1), (2, .int x2)] [.int r45] (sh, ta, m44)
      exact WP.iret dX5_thingIs_135 rfl (Nat.le_refl _) (Nat.le_refl _) ⟨_, rfl, h⟩
  · have h := h.2 c9
    refine WP.aload_n 0 dX5_thingIs_11 rfl rfl ?_
    refine WP.iconst (v := 1) dX5_thingIs_12 rfl ?_
    refine WP.callV (y := mX5_refuse) (As := [.int 1]) (st := []) dX5_thingIs_13 wm_X5_87 mw_X5_refuse rfl (Nat.le_of_ble_eq_true rfl) (rmok d) h1 (by decide) rfl h (fun v47 Sm48 h50 => ?_)
    obtain ⟨m48, rfl, r49, rfl, h⟩ := h50
    show WP G _ _ _ 0 0 16 [(0, .ref b), (1, .int x1), (2, .int x2)] [.int r49] (sh, ta, m48)
    exact WP.iret dX5_thingIs_16 rfl (Nat.le_refl _) (Nat.le_refl _) ⟨_, rfl, h⟩
set_option maxHeartbeats 4000000 in
set_option maxRecDepth 20000 in
theorem rg_X5_as_0 (hG : fl G = false) (b : Nat) (x1 : Int32) (x2 : Int32) (h : sh[b]? = some (.inl 5) ∧ ∃ i2, ta b 0 = some i2 ∧ sh[i2]? = some (.inl 0) ∧ Cal G mX0_has d [.ref i2, .int x1] sh ta m (fun v4 m5 => ∃ r6, v4 = some (.int r6) ∧ ((r6 = 0 → Cal G mX5_refuse d [.ref b, .int 1] sh ta m5 (fun v10 m11 => ∃ r12, v10 = some (.int r12) ∧ K (some (.int r12)) m11)) ∧ (¬ r6 = 0 → ((x2 < 0 → Cal G mX5_refuse d [.ref b, .int 1] sh ta m5 (fun v15 m16 => ∃ r17, v15 = some (.int r17) ∧ K (some (.int r17)) m16)) ∧ (¬ x2 < 0 → ((x2 < (7 : Int32) → Cal G mX0_kindOf d [.ref i2, .int x1] sh ta m5 (fun v20 m21 => ∃ r22, v20 = some (.int r22) ∧ Cal G mX5_isUnder d [.int r22, .int x2] sh ta m21 (fun v24 m25 => ∃ r26, v24 = some (.int r26) ∧ ((r26 = 0 → Cal G mX5_refuse d [.ref b, .int 5] sh ta m25 (fun v29 m30 => ∃ r31, v29 = some (.int r31) ∧ K (some (.int r31)) m30)) ∧ (¬ r26 = 0 → Cal G mX0_worthOf d [.ref i2, .int x1] sh ta m25 (fun v33 m34 => ∃ r35, v33 = some (.int r35) ∧ K (some (.int r35)) m34)))))) ∧ (¬ x2 < (7 : Int32) → Cal G mX5_refuse d [.ref b, .int 1] sh ta m5 (fun v37 m38 => ∃ r39, v37 = some (.int r39) ∧ K (some (.int r39)) m38))))))))) : WP G (rmD (d + 1) 0 0) mX5_as (QC G sh ta K) 0 0 0 [(0, .ref b), (1, .int x1), (2, .int x2)] [] (sh, ta, m) := by
  refine WP.aload_n 0 dX5_as_0 rfl rfl ?_
  obtain ⟨h1, h⟩ := h
  obtain ⟨i2, h3, h⟩ := h
  refine WP.getR 5 0 wf_X5_67 (by decide) (by decide) rfl h1 h3 dX5_as_1 ?_
  refine WP.iload_n 1 dX5_as_4 rfl rfl ?_
  obtain ⟨h8, h⟩ := h
  refine WP.callV (y := mX0_has) (As := [.int x1]) (st := []) dX5_as_5 wm_X5_102 mw_X0_has rfl (Nat.le_of_ble_eq_true rfl) (rmok d) h8 (by decide) rfl h (fun v4 Sm5 h7 => ?_)
  obtain ⟨m5, rfl, r6, rfl, h⟩ := h7
  show WP G _ _ _ 0 0 8 [(0, .ref b), (1, .int x1), (2, .int x2)] [.int r6] (sh, ta, m5)
  refine WP.if_eq (tgt := 21) dX5_as_8 (by decide) (fun c9 => ?_) (fun c9 => ?_)
  · have h := h.1 c9
    refine WP.aload_n 0 dX5_as_21 rfl rfl ?_
    refine WP.iconst (v := 1) dX5_as_22 rfl ?_
    refine WP.callV (y := mX5_refuse) (As := [.int 1]) (st := []) dX5_as_23 wm_X5_87 mw_X5_refuse rfl (Nat.le_of_ble_eq_true rfl) (rmok d) h1 (by decide) rfl h (fun v10 Sm11 h13 => ?_)
    obtain ⟨m11, rfl, r12, rfl, h⟩ := h13
    show WP G _ _ _ 0 0 26 [(0, .ref b), (1, .int x1), (2, .int x2)] [.int r12] (sh, ta, m11)
    exact WP.iret dX5_as_26 rfl (Nat.le_refl _) (Nat.le_refl _) ⟨_, rfl, h⟩
  · have h := h.2 c9
    refine WP.iload_n 2 dX5_as_11 rfl rfl ?_
    refine WP.if_lt (tgt := 21) dX5_as_12 (by decide) (fun c14 => ?_) (fun c14 => ?_)
    · have h := h.1 c14
      refine WP.aload_n 0 dX5_as_21 rfl rfl ?_
      refine WP.iconst (v := 1) dX5_as_22 rfl ?_
      refine WP.callV (y := mX5_refuse) (As := [.int 1]) (st := []) dX5_as_23 wm_X5_87 mw_X5_refuse rfl (Nat.le_of_ble_eq_true rfl) (rmok d) h1 (by decide) rfl h (fun v15 Sm16 h18 => ?_)
      obtain ⟨m16, rfl, r17, rfl, h⟩ := h18
      show WP G _ _ _ 0 0 26 [(0, .ref b), (1, .int x1), (2, .int x2)] [.int r17] (sh, ta, m16)
      exact WP.iret dX5_as_26 rfl (Nat.le_refl _) (Nat.le_refl _) ⟨_, rfl, h⟩
    · have h := h.2 c14
      refine WP.iload_n 2 dX5_as_15 rfl rfl ?_
      refine WP.bipush (v := 7) dX5_as_16 rfl ?_
      refine WP.icmp_lt (tgt := 27) dX5_as_18 (by decide) (fun c19 => ?_) (fun c19 => ?_)
      · have h := h.1 c19
        refine WP.aload_n 0 dX5_as_27 rfl rfl ?_
        refine WP.getR 5 0 wf_X5_67 (by decide) (by decide) rfl h1 h3 dX5_as_28 ?_
        refine WP.iload_n 1 dX5_as_31 rfl rfl ?_
        refine WP.callV (y := mX0_kindOf) (As := [.int x1]) (st := []) dX5_as_32 wm_X5_105 mw_X0_kindOf rfl (Nat.le_of_ble_eq_true rfl) (rmok d) h8 (by decide) rfl h (fun v20 Sm21 h23 => ?_)
        obtain ⟨m21, rfl, r22, rfl, h⟩ := h23
        show WP G _ _ _ 0 0 35 [(0, .ref b), (1, .int x1), (2, .int x2)] [.int r22] (sh, ta, m21)
        refine WP.iload_n 2 dX5_as_35 rfl rfl ?_
        refine WP.callS (y := mX5_isUnder) (As := [.int r22, .int x2]) (st := []) dX5_as_36 wm_X5_129 mw_X5_isUnder rfl (Nat.le_of_ble_eq_true rfl) (rmok d) rfl h (fun v24 Sm25 h27 => ?_)
        obtain ⟨m25, rfl, r26, rfl, h⟩ := h27
        show WP G _ _ _ 0 0 39 [(0, .ref b), (1, .int x1), (2, .int x2)] [.int r26] (sh, ta, m25)
        refine WP.if_eq (tgt := 53) dX5_as_39 (by decide) (fun c28 => ?_) (fun c28 => ?_)
        · have h := h.1 c28
          refine WP.aload_n 0 dX5_as_53 rfl rfl ?_
          refine WP.iconst (v := 5) dX5_as_54 rfl ?_
          refine WP.callV (y := mX5_refuse) (As := [.int 5]) (st := []) dX5_as_55 wm_X5_87 mw_X5_refuse rfl (Nat.le_of_ble_eq_true rfl) (rmok d) h1 (by decide) rfl h (fun v29 Sm30 h32 => ?_)
          obtain ⟨m30, rfl, r31, rfl, h⟩ := h32
          show WP G _ _ _ 0 0 58 [(0, .ref b), (1, .int x1), (2, .int x2)] [.int r31] (sh, ta, m30)
          exact WP.iret dX5_as_58 rfl (Nat.le_refl _) (Nat.le_refl _) ⟨_, rfl, h⟩
        · have h := h.2 c28
          refine WP.aload_n 0 dX5_as_42 rfl rfl ?_
          refine WP.getR 5 0 wf_X5_67 (by decide) (by decide) rfl h1 h3 dX5_as_43 ?_
          refine WP.iload_n 1 dX5_as_46 rfl rfl ?_
          refine WP.callV (y := mX0_worthOf) (As := [.int x1]) (st := []) dX5_as_47 wm_X5_111 mw_X0_worthOf rfl (Nat.le_of_ble_eq_true rfl) (rmok d) h8 (by decide) rfl h (fun v33 Sm34 h36 => ?_)
          obtain ⟨m34, rfl, r35, rfl, h⟩ := h36
          show WP G _ _ _ 0 0 50 [(0, .ref b), (1, .int x1), (2, .int x2)] [.int r35] (sh, ta, m34)
          refine WP.goto (tgt := 58) dX5_as_50 (by decide) ?_
          exact WP.iret dX5_as_58 rfl (Nat.le_refl _) (Nat.le_refl _) ⟨_, rfl, h⟩
      · have h := h.2 c19
        refine WP.aload_n 0 dX5_as_21 rfl rfl ?_
        refine WP.iconst (v := 1) dX5_as_22 rfl ?_
        refine WP.callV (y := mX5_refuse) (As := [.int 1]) (st := []) dX5_as_23 wm_X5_87 mw_X5_refuse rfl (Nat.le_of_ble_eq_true rfl) (rmok d) h1 (by decide) rfl h (fun v37 Sm38 h40 => ?_)
        obtain ⟨m38, rfl, r39, rfl, h⟩ := h40
        show WP G _ _ _ 0 0 26 [(0, .ref b), (1, .int x1), (2, .int x2)] [.int r39] (sh, ta, m38)
        exact WP.iret dX5_as_26 rfl (Nat.le_refl _) (Nat.le_refl _) ⟨_, rfl, h⟩
set_option maxHeartbeats 4000000 in
set_option maxRecDepth 20000 in
theorem rg_X5_set_0 (hG : fl G = false) (b : Nat) (x1 : Int32) (x2 : Int32) (x3 : Int32) (h : sh[b]? = some (.inl 5) ∧ ∃ i2, ta b 0 = some i2 ∧ sh[i2]? = some (.inl 0) ∧ Cal G mX0_has d [.ref i2, .int x1] sh ta m (fun v4 m5 => ∃ r6, v4 = some (.int r6) ∧ ((r6 = 0 → Cal G mX5_refuse d [.ref b, .int 1] sh ta m5 (fun v10 m11 => ∃ r12, v10 = some (.int r12) ∧ K (some (.int r12)) m11)) ∧ (¬ r6 = 0 → ((x2 < 0 → Cal G mX5_refuse d [.ref b, .int 1] sh ta m5 (fun v15 m16 => ∃ r17, v15 = some (.int r17) ∧ K (some (.int r17)) m16)) ∧ (¬ x2 < 0 → (((2 : Int32) < x2 → Cal G mX5_refuse d [.ref b, .int 1] sh ta m5 (fun v20 m21 => ∃ r22, v20 = some (.int r22) ∧ K (some (.int r22)) m21)) ∧ (¬ (2 : Int32) < x2 → ((x3 < 0 → Cal G mX5_refuse d [.ref b, .int 1] sh ta m5 (fun v25 m26 => ∃ r27, v25 = some (.int r27) ∧ K (some (.int r27)) m26)) ∧ (¬ x3 < 0 → Cal G mX5_mostOf d [.int x2] sh ta m5 (fun v29 m30 => ∃ r31, v29 = some (.int r31) ∧ ((x3 ≤ r31 → Cal G mX0_become d [.ref i2, .int x1, .int x2, .int x3] sh ta m30 (fun v34 m35 => ∃ r36, v34 = some (.int r36) ∧ K (some (.int r36)) m35)) ∧ (¬ x3 ≤ r31 → Cal G mX5_refuse d [.ref b, .int 1] sh ta m30 (fun v38 m39 => ∃ r40, v38 = some (.int r40) ∧ K (some (.int r40)) m39)))))))))))))) : WP G (rmD (d + 1) 0 0) mX5_set (QC G sh ta K) 0 0 0 [(0, .ref b), (1, .int x1), (2, .int x2), (3, .int x3)] [] (sh, ta, m) := by
  refine WP.aload_n 0 dX5_set_0 rfl rfl ?_
  obtain ⟨h1, h⟩ := h
  obtain ⟨i2, h3, h⟩ := h
  refine WP.getR 5 0 wf_X5_67 (by decide) (by decide) rfl h1 h3 dX5_set_1 ?_
  refine WP.iload_n 1 dX5_set_4 rfl rfl ?_
  obtain ⟨h8, h⟩ := h
  refine WP.callV (y := mX0_has) (As := [.int x1]) (st := []) dX5_set_5 wm_X5_102 mw_X0_has rfl (Nat.le_of_ble_eq_true rfl) (rmok d) h8 (by decide) rfl h (fun v4 Sm5 h7 => ?_)
  obtain ⟨m5, rfl, r6, rfl, h⟩ := h7
  show WP G _ _ _ 0 0 8 [(0, .ref b), (1, .int x1), (2, .int x2), (3, .int x3)] [.int r6] (sh, ta, m5)
  refine WP.if_eq (tgt := 32) dX5_set_8 (by decide) (fun c9 => ?_) (fun c9 => ?_)
  · have h := h.1 c9
    refine WP.aload_n 0 dX5_set_32 rfl rfl ?_
    refine WP.iconst (v := 1) dX5_set_33 rfl ?_
    refine WP.callV (y := mX5_refuse) (As := [.int 1]) (st := []) dX5_set_34 wm_X5_87 mw_X5_refuse rfl (Nat.le_of_ble_eq_true rfl) (rmok d) h1 (by decide) rfl h (fun v10 Sm11 h13 => ?_)
    obtain ⟨m11, rfl, r12, rfl, h⟩ := h13
    show WP G _ _ _ 0 0 37 [(0, .ref b), (1, .int x1), (2, .int x2), (3, .int x3)] [.int r12] (sh, ta, m11)
    exact WP.iret dX5_set_37 rfl (Nat.le_refl _) (Nat.le_refl _) ⟨_, rfl, h⟩
  · have h := h.2 c9
    refine WP.iload_n 2 dX5_set_11 rfl rfl ?_
    refine WP.if_lt (tgt := 32) dX5_set_12 (by decide) (fun c14 => ?_) (fun c14 => ?_)
    · have h := h.1 c14
      refine WP.aload_n 0 dX5_set_32 rfl rfl ?_
      refine WP.iconst (v := 1) dX5_set_33 rfl ?_
      refine WP.callV (y := mX5_refuse) (As := [.int 1]) (st := []) dX5_set_34 wm_X5_87 mw_X5_refuse rfl (Nat.le_of_ble_eq_true rfl) (rmok d) h1 (by decide) rfl h (fun v15 Sm16 h18 => ?_)
      obtain ⟨m16, rfl, r17, rfl, h⟩ := h18
      show WP G _ _ _ 0 0 37 [(0, .ref b), (1, .int x1), (2, .int x2), (3, .int x3)] [.int r17] (sh, ta, m16)
      exact WP.iret dX5_set_37 rfl (Nat.le_refl _) (Nat.le_refl _) ⟨_, rfl, h⟩
    · have h := h.2 c14
      refine WP.iload_n 2 dX5_set_15 rfl rfl ?_
      refine WP.iconst (v := 2) dX5_set_16 rfl ?_
      refine WP.icmp_gt (tgt := 32) dX5_set_17 (by decide) (fun c19 => ?_) (fun c19 => ?_)
      · have h := h.1 c19
        refine WP.aload_n 0 dX5_set_32 rfl rfl ?_
        refine WP.iconst (v := 1) dX5_set_33 rfl ?_
        refine WP.callV (y := mX5_refuse) (As := [.int 1]) (st := []) dX5_set_34 wm_X5_87 mw_X5_refuse rfl (Nat.le_of_ble_eq_true rfl) (rmok d) h1 (by decide) rfl h (fun v20 Sm21 h23 => ?_)
        obtain ⟨m21, rfl, r22, rfl, h⟩ := h23
        show WP G _ _ _ 0 0 37 [(0, .ref b), (1, .int x1), (2, .int x2), (3, .int x3)] [.int r22] (sh, ta, m21)
        exact WP.iret dX5_set_37 rfl (Nat.le_refl _) (Nat.le_refl _) ⟨_, rfl, h⟩
      · have h := h.2 c19
        refine WP.iload_n 3 dX5_set_20 rfl rfl ?_
        refine WP.if_lt (tgt := 32) dX5_set_21 (by decide) (fun c24 => ?_) (fun c24 => ?_)
        · have h := h.1 c24
          refine WP.aload_n 0 dX5_set_32 rfl rfl ?_
          refine WP.iconst (v := 1) dX5_set_33 rfl ?_
          refine WP.callV (y := mX5_refuse) (As := [.int 1]) (st := []) dX5_set_34 wm_X5_87 mw_X5_refuse rfl (Nat.le_of_ble_eq_true rfl) (rmok d) h1 (by decide) rfl h (fun v25 Sm26 h28 => ?_)
          obtain ⟨m26, rfl, r27, rfl, h⟩ := h28
          show WP G _ _ _ 0 0 37 [(0, .ref b), (1, .int x1), (2, .int x2), (3, .int x3)] [.int r27] (sh, ta, m26)
          exact WP.iret dX5_set_37 rfl (Nat.le_refl _) (Nat.le_refl _) ⟨_, rfl, h⟩
        · have h := h.2 c24
          refine WP.iload_n 3 dX5_set_24 rfl rfl ?_
          refine WP.iload_n 2 dX5_set_25 rfl rfl ?_
          refine WP.callS (y := mX5_mostOf) (As := [.int x2]) (st := [.int x3]) dX5_set_26 wm_X5_133 mw_X5_mostOf rfl (Nat.le_of_ble_eq_true rfl) (rmok d) rfl h (fun v29 Sm30 h32 => ?_)
          obtain ⟨m30, rfl, r31, rfl, h⟩ := h32
          show WP G _ _ _ 0 0 29 [(0, .ref b), (1, .int x1), (2, .int x2), (3, .int x3)] [.int r31, .int x3] (sh, ta, m30)
          refine WP.icmp_le (tgt := 38) dX5_set_29 (by decide) (fun c33 => ?_) (fun c33 => ?_)
          · have h := h.1 c33
            refine WP.aload_n 0 dX5_set_38 rfl rfl ?_
            refine WP.getR 5 0 wf_X5_67 (by decide) (by decide) rfl h1 h3 dX5_set_39 ?_
            refine WP.iload_n 1 dX5_set_42 rfl rfl ?_
            refine WP.iload_n 2 dX5_set_43 rfl rfl ?_
            refine WP.iload_n 3 dX5_set_44 rfl rfl ?_
            refine WP.callV (y := mX0_become) (As := [.int x1, .int x2, .int x3]) (st := []) dX5_set_45 wm_X5_136 mw_X0_become rfl (Nat.le_of_ble_eq_true rfl) (rmok d) h8 (by decide) rfl h (fun v34 Sm35 h37 => ?_)
            obtain ⟨m35, rfl, r36, rfl, h⟩ := h37
            show WP G _ _ _ 0 0 48 [(0, .ref b), (1, .int x1), (2, .int x2), (3, .int x3)] [.int r36] (sh, ta, m35)
            exact WP.iret dX5_set_48 rfl (Nat.le_refl _) (Nat.le_refl _) ⟨_, rfl, h⟩
          · have h := h.2 c33
            refine WP.aload_n 0 dX5_set_32 rfl rfl ?_
            refine WP.iconst (v := 1) dX5_set_33 rfl ?_
            refine WP.callV (y := mX5_refuse) (As := [.int 1]) (st := []) dX5_set_34 wm_X5_87 mw_X5_refuse rfl (Nat.le_of_ble_eq_true rfl) (rmok d) h1 (by decide) rfl h (fun v38 Sm39 h41 => ?_)
            obtain ⟨m39, rfl, r40, rfl, h⟩ := h41
            show WP G _ _ _ 0 0 37 [(0, .ref b), (1, .int x1), (2, .int x2), (3, .int x3)] [.int r40] (sh, ta, m39)
            exact WP.iret dX5_set_37 rfl (Nat.le_refl _) (Nat.le_refl _) ⟨_, rfl, h⟩
set_option maxHeartbeats 4000000 in
set_option maxRecDepth 20000 in
theorem rg_X5_out_0 (hG : fl G = false) (b : Nat) (x1 : Int32) (h : sh[b]? = some (.inl 5) ∧ ∃ i2, ta b 0 = some i2 ∧ sh[i2]? = some (.inl 0) ∧ Cal G mX0_has d [.ref i2, .int x1] sh ta m (fun v4 m5 => ∃ r6, v4 = some (.int r6) ∧ ((¬ r6 = 0 → Cal G mX0_cellOf d [.ref i2, .int x1] sh ta m5 (fun v10 m11 => ∃ r12, v10 = some (.int r12) ∧ ((0 ≤ r12 → Cal G mX0_take d [.ref i2, .int x1, .int ((-2))] sh ta m11 (fun v15 m16 => v15 = none ∧ K (some (.int r12)) m16)) ∧ (¬ 0 ≤ r12 → Cal G mX5_refuse d [.ref b, .int 3] sh ta m11 (fun v19 m20 => ∃ r21, v19 = some (.int r21) ∧ K (some (.int r21)) m20))))) ∧ (r6 = 0 → Cal G mX5_refuse d [.ref b, .int 1] sh ta m5 (fun v23 m24 => ∃ r25, v23 = some (.int r25) ∧ K (some (.int r25)) m24))))) : WP G (rmD (d + 1) 0 0) mX5_out (QC G sh ta K) 0 0 0 [(0, .ref b), (1, .int x1)] [] (sh, ta, m) := by
  refine WP.aload_n 0 dX5_out_0 rfl rfl ?_
  obtain ⟨h1, h⟩ := h
  obtain ⟨i2, h3, h⟩ := h
  refine WP.getR 5 0 wf_X5_67 (by decide) (by decide) rfl h1 h3 dX5_out_1 ?_
  refine WP.iload_n 1 dX5_out_4 rfl rfl ?_
  obtain ⟨h8, h⟩ := h
  refine WP.callV (y := mX0_has) (As := [.int x1]) (st := []) dX5_out_5 wm_X5_102 mw_X0_has rfl (Nat.le_of_ble_eq_true rfl) (rmok d) h8 (by decide) rfl h (fun v4 Sm5 h7 => ?_)
  obtain ⟨m5, rfl, r6, rfl, h⟩ := h7
  show WP G _ _ _ 0 0 8 [(0, .ref b), (1, .int x1)] [.int r6] (sh, ta, m5)
  refine WP.if_ne (tgt := 17) dX5_out_8 (by decide) (fun c9 => ?_) (fun c9 => ?_)
  · have h := h.1 c9
    refine WP.aload_n 0 dX5_out_17 rfl rfl ?_
    refine WP.getR 5 0 wf_X5_67 (by decide) (by decide) rfl h1 h3 dX5_out_18 ?_
    refine WP.iload_n 1 dX5_out_21 rfl rfl ?_
    refine WP.callV (y := mX0_cellOf) (As := [.int x1]) (st := []) dX5_out_22 wm_X5_114 mw_X0_cellOf rfl (Nat.le_of_ble_eq_true rfl) (rmok d) h8 (by decide) rfl h (fun v10 Sm11 h13 => ?_)
    obtain ⟨m11, rfl, r12, rfl, h⟩ := h13
    show WP G _ _ _ 0 0 25 [(0, .ref b), (1, .int x1)] [.int r12] (sh, ta, m11)
    refine WP.istore_n (lv2 := [(2, .int r12), (0, .ref b), (1, .int x1)]) dX5_out_25 rfl (by decide) rfl ?_
    refine WP.iload_n 0 dX5_out_26 rfl rfl ?_
    refine WP.if_ge (tgt := 36) dX5_out_27 (by decide) (fun c14 => ?_) (fun c14 => ?_)
    · have h := h.1 c14
      refine WP.aload_n 1 dX5_out_36 rfl rfl ?_
      refine WP.getR 5 0 wf_X5_67 (by decide) (by decide) rfl h1 h3 dX5_out_37 ?_
      refine WP.iload_n 2 dX5_out_40 rfl rfl ?_
      refine WP.bipush (v := (-2)) dX5_out_41 rfl ?_
      refine WP.callV (y := mX0_take) (As := [.int x1, .int ((-2))]) (st := []) dX5_out_43 wm_X5_139 mw_X0_take rfl (Nat.le_of_ble_eq_true rfl) (rmok d) h8 (by decide) rfl h (fun v15 Sm16 h18 => ?_)
      obtain ⟨m16, rfl, rfl, h⟩ := h18
      show WP G _ _ _ 0 0 46 [(2, .int r12), (0, .ref b), (1, .int x1)] [] (sh, ta, m16)
      refine WP.iload_n 0 dX5_out_46 rfl rfl ?_
      exact WP.iret dX5_out_47 rfl (Nat.le_refl _) (Nat.le_refl _) ⟨_, rfl, h⟩
    · have h := h.2 c14
      refine WP.aload_n 1 dX5_out_30 rfl rfl ?_
      refine WP.iconst (v := 3) dX5_out_31 rfl ?_
      refine WP.callV (y := mX5_refuse) (As := [.int 3]) (st := []) dX5_out_32 wm_X5_87 mw_X5_refuse rfl (Nat.le_of_ble_eq_true rfl) (rmok d) h1 (by decide) rfl h (fun v19 Sm20 h22 => ?_)
      obtain ⟨m20, rfl, r21, rfl, h⟩ := h22
      show WP G _ _ _ 0 0 35 [(2, .int r12), (0, .ref b), (1, .int x1)] [.int r21] (sh, ta, m20)
      exact WP.iret dX5_out_35 rfl (Nat.le_refl _) (Nat.le_refl _) ⟨_, rfl, h⟩
  · have h := h.2 c9
    refine WP.aload_n 0 dX5_out_11 rfl rfl ?_
    refine WP.iconst (v := 1) dX5_out_12 rfl ?_
    refine WP.callV (y := mX5_refuse) (As := [.int 1]) (st := []) dX5_out_13 wm_X5_87 mw_X5_refuse rfl (Nat.le_of_ble_eq_true rfl) (rmok d) h1 (by decide) rfl h (fun v23 Sm24 h26 => ?_)
    obtain ⟨m24, rfl, r25, rfl, h⟩ := h26
    show WP G _ _ _ 0 0 16 [(0, .ref b), (1, .int x1)] [.int r25] (sh, ta, m24)
    exact WP.iret dX5_out_16 rfl (Nat.le_refl _) (Nat.le_refl _) ⟨_, rfl, h⟩
set_option maxHeartbeats 4000000 in
set_option maxRecDepth 20000 in
theorem rg_X5_back_0 (hG : fl G = false) (b : Nat) (x1 : Int32) (x2 : Int32) (h : sh[b]? = some (.inl 5) ∧ ∃ i2, ta b 0 = some i2 ∧ sh[i2]? = some (.inl 0) ∧ Cal G mX0_has d [.ref i2, .int x1] sh ta m (fun v4 m5 => ∃ r6, v4 = some (.int r6) ∧ ((r6 = 0 → Cal G mX5_refuse d [.ref b, .int 1] sh ta m5 (fun v10 m11 => ∃ r12, v10 = some (.int r12) ∧ K (some (.int r12)) m11)) ∧ (¬ r6 = 0 → Cal G mX5_isPile d [.int x2] sh ta m5 (fun v14 m15 => ∃ r16, v14 = some (.int r16) ∧ ((¬ r16 = 0 → Cal G mX0_cellOf d [.ref i2, .int x1] sh ta m15 (fun v19 m20 => ∃ r21, v19 = some (.int r21) ∧ ((r21 < 0 → Cal G mX0_highOf d [.ref i2, .int x2] sh ta m20 (fun v24 m25 => ∃ r26, v24 = some (.int r26) ∧ ((r26 < (5 : Int32) → Cal G mX0_lower d [.ref i2, .int x1, .int x2] sh ta m25 (fun v29 m30 => v29 = none ∧ Cal G mX0_highOf d [.ref i2, .int x2] sh ta m30 (fun v33 m34 => ∃ r35, v33 = some (.int r35) ∧ K (some (.int r35)) m34))) ∧ (¬ r26 < (5 : Int32) → Cal G mX5_refuse d [.ref b, .int 4] sh ta m25 (fun v37 m38 => ∃ r39, v37 = some (.int r39) ∧ K (some (.int r39)) m38))))) ∧ (¬ r21 < 0 → Cal G mX5_refuse d [.ref b, .int 3] sh ta m20 (fun v41 m42 => ∃ r43, v41 = some (.int r43) ∧ K (some (.int r43)) m42))))) ∧ (r16 = 0 → Cal G mX5_refuse d [.ref b, .int 1] sh ta m15 (fun v45 m46 => ∃ r47, v45 = some (.int r47) ∧ K (some (.int r47)) m46)))))))) : WP G (rmD (d + 1) 0 0) mX5_back (QC G sh ta K) 0 0 0 [(0, .ref b), (1, .int x1), (2, .int x2)] [] (sh, ta, m) := by
  refine WP.aload_n 0 dX5_back_0 rfl rfl ?_
  obtain ⟨h1, h⟩ := h
  obtain ⟨i2, h3, h⟩ := h
  refine WP.getR 5 0 wf_X5_67 (by decide) (by decide) rfl h1 h3 dX5_back_1 ?_
  refine WP.iload_n 1 dX5_back_4 rfl rfl ?_
  obtain ⟨h8, h⟩ := h
  refine WP.callV (y := mX0_has) (As := [.int x1]) (st := []) dX5_back_5 wm_X5_102 mw_X0_has rfl (Nat.le_of_ble_eq_true rfl) (rmok d) h8 (by decide) rfl h (fun v4 Sm5 h7 => ?_)
  obtain ⟨m5, rfl, r6, rfl, h⟩ := h7
  show WP G _ _ _ 0 0 8 [(0, .ref b), (1, .int x1), (2, .int x2)] [.int r6] (sh, ta, m5)
  refine WP.if_eq (tgt := 18) dX5_back_8 (by decide) (fun c9 => ?_) (fun c9 => ?_)
  · have h := h.1 c9
    refine WP.aload_n 0 dX5_back_18 rfl rfl ?_
    refine WP.iconst (v := 1) dX5_back_19 rfl ?_
    refine WP.callV (y := mX5_refuse) (As := [.int 1]) (st := []) dX5_back_20 wm_X5_87 mw_X5_refuse rfl (Nat.le_of_ble_eq_true rfl) (rmok d) h1 (by decide) rfl h (fun v10 Sm11 h13 => ?_)
    obtain ⟨m11, rfl, r12, rfl, h⟩ := h13
    show WP G _ _ _ 0 0 23 [(0, .ref b), (1, .int x1), (2, .int x2)] [.int r12] (sh, ta, m11)
    exact WP.iret dX5_back_23 rfl (Nat.le_refl _) (Nat.le_refl _) ⟨_, rfl, h⟩
  · have h := h.2 c9
    refine WP.iload_n 2 dX5_back_11 rfl rfl ?_
    refine WP.callS (y := mX5_isPile) (As := [.int x2]) (st := []) dX5_back_12 wm_X5_83 mw_X5_isPile rfl (Nat.le_of_ble_eq_true rfl) (rmok d) rfl h (fun v14 Sm15 h17 => ?_)
    obtain ⟨m15, rfl, r16, rfl, h⟩ := h17
    show WP G _ _ _ 0 0 15 [(0, .ref b), (1, .int x1), (2, .int x2)] [.int r16] (sh, ta, m15)
    refine WP.if_ne (tgt := 24) dX5_back_15 (by decide) (fun c18 => ?_) (fun c18 => ?_)
    · have h := h.1 c18
      refine WP.aload_n 0 dX5_back_24 rfl rfl ?_
      refine WP.getR 5 0 wf_X5_67 (by decide) (by decide) rfl h1 h3 dX5_back_25 ?_
      refine WP.iload_n 1 dX5_back_28 rfl rfl ?_
      refine WP.callV (y := mX0_cellOf) (As := [.int x1]) (st := []) dX5_back_29 wm_X5_114 mw_X0_cellOf rfl (Nat.le_of_ble_eq_true rfl) (rmok d) h8 (by decide) rfl h (fun v19 Sm20 h22 => ?_)
      obtain ⟨m20, rfl, r21, rfl, h⟩ := h22
      show WP G _ _ _ 0 0 32 [(0, .ref b), (1, .int x1), (2, .int x2)] [.int r21] (sh, ta, m20)
      refine WP.if_lt (tgt := 41) dX5_back_32 (by decide) (fun c23 => ?_) (fun c23 => ?_)
      · have h := h.1 c23
        refine WP.aload_n 0 dX5_back_41 rfl rfl ?_
        refine WP.getR 5 0 wf_X5_67 (by decide) (by decide) rfl h1 h3 dX5_back_42 ?_
        refine WP.iload_n 2 dX5_back_45 rfl rfl ?_
        refine WP.callV (y := mX0_highOf) (As := [.int x2]) (st := []) dX5_back_46 wm_X5_95 mw_X0_highOf rfl (Nat.le_of_ble_eq_true rfl) (rmok d) h8 (by decide) rfl h (fun v24 Sm25 h27 => ?_)
        obtain ⟨m25, rfl, r26, rfl, h⟩ := h27
        show WP G _ _ _ 0 0 49 [(0, .ref b), (1, .int x1), (2, .int x2)] [.int r26] (sh, ta, m25)
        refine WP.iconst (v := 5) dX5_back_49 rfl ?_
        refine WP.icmp_lt (tgt := 59) dX5_back_50 (by decide) (fun c28 => ?_) (fun c28 => ?_)
        · have h := h.1 c28
          refine WP.aload_n 0 dX5_back_59 rfl rfl ?_
          refine WP.getR 5 0 wf_X5_67 (by decide) (by decide) rfl h1 h3 dX5_back_60 ?_
          refine WP.iload_n 1 dX5_back_63 rfl rfl ?_
          refine WP.iload_n 2 dX5_back_64 rfl rfl ?_
          refine WP.callV (y := mX0_lower) (As := [.int x1, .int x2]) (st := []) dX5_back_65 wm_X5_143 mw_X0_lower rfl (Nat.le_of_ble_eq_true rfl) (rmok d) h8 (by decide) rfl h (fun v29 Sm30 h32 => ?_)
          obtain ⟨m30, rfl, rfl, h⟩ := h32
          show WP G _ _ _ 0 0 68 [(0, .ref b), (1, .int x1), (2, .int x2)] [] (sh, ta, m30)
          refine WP.aload_n 0 dX5_back_68 rfl rfl ?_
          refine WP.getR 5 0 wf_X5_67 (by decide) (by decide) rfl h1 h3 dX5_back_69 ?_
          refine WP.iload_n 2 dX5_back_72 rfl rfl ?_
          refine WP.callV (y := mX0_highOf) (As := [.int x2]) (st := []) dX5_back_73 wm_X5_95 mw_X0_highOf rfl (Nat.le_of_ble_eq_true rfl) (rmok d) h8 (by decide) rfl h (fun v33 Sm34 h36 => ?_)
          obtain ⟨m34, rfl, r35, rfl, h⟩ := h36
          show WP G _ _ _ 0 0 76 [(0, .ref b), (1, .int x1), (2, .int x2)] [.int r35] (sh, ta, m34)
          exact WP.iret dX5_back_76 rfl (Nat.le_refl _) (Nat.le_refl _) ⟨_, rfl, h⟩
        · have h := h.2 c28
          refine WP.aload_n 0 dX5_back_53 rfl rfl ?_
          refine WP.iconst (v := 4) dX5_back_54 rfl ?_
          refine WP.callV (y := mX5_refuse) (As := [.int 4]) (st := []) dX5_back_55 wm_X5_87 mw_X5_refuse rfl (Nat.le_of_ble_eq_true rfl) (rmok d) h1 (by decide) rfl h (fun v37 Sm38 h40 => ?_)
          obtain ⟨m38, rfl, r39, rfl, h⟩ := h40
          show WP G _ _ _ 0 0 58 [(0, .ref b), (1, .int x1), (2, .int x2)] [.int r39] (sh, ta, m38)
          exact WP.iret dX5_back_58 rfl (Nat.le_refl _) (Nat.le_refl _) ⟨_, rfl, h⟩
      · have h := h.2 c23
        refine WP.aload_n 0 dX5_back_35 rfl rfl ?_
        refine WP.iconst (v := 3) dX5_back_36 rfl ?_
        refine WP.callV (y := mX5_refuse) (As := [.int 3]) (st := []) dX5_back_37 wm_X5_87 mw_X5_refuse rfl (Nat.le_of_ble_eq_true rfl) (rmok d) h1 (by decide) rfl h (fun v41 Sm42 h44 => ?_)
        obtain ⟨m42, rfl, r43, rfl, h⟩ := h44
        show WP G _ _ _ 0 0 40 [(0, .ref b), (1, .int x1), (2, .int x2)] [.int r43] (sh, ta, m42)
        exact WP.iret dX5_back_40 rfl (Nat.le_refl _) (Nat.le_refl _) ⟨_, rfl, h⟩
    · have h := h.2 c18
      refine WP.aload_n 0 dX5_back_18 rfl rfl ?_
      refine WP.iconst (v := 1) dX5_back_19 rfl ?_
      refine WP.callV (y := mX5_refuse) (As := [.int 1]) (st := []) dX5_back_20 wm_X5_87 mw_X5_refuse rfl (Nat.le_of_ble_eq_true rfl) (rmok d) h1 (by decide) rfl h (fun v45 Sm46 h48 => ?_)
      obtain ⟨m46, rfl, r47, rfl, h⟩ := h48
      show WP G _ _ _ 0 0 23 [(0, .ref b), (1, .int x1), (2, .int x2)] [.int r47] (sh, ta, m46)
      exact WP.iret dX5_back_23 rfl (Nat.le_refl _) (Nat.le_refl _) ⟨_, rfl, h⟩
set_option maxHeartbeats 4000000 in
set_option maxRecDepth 20000 in
theorem rg_X5_spring_0 (hG : fl G = false) (b : Nat) (x1 : Int32) (x2 : Int32) (h : ((x1 < 0 → sh[b]? = some (.inl 5) ∧ Cal G mX5_refuse d [.ref b, .int 1] sh ta m (fun v2 m3 => ∃ r4, v2 = some (.int r4) ∧ K (some (.int r4)) m3)) ∧ (¬ x1 < 0 → (((1 : Int32) < x1 → sh[b]? = some (.inl 5) ∧ Cal G mX5_refuse d [.ref b, .int 1] sh ta m (fun v8 m9 => ∃ r10, v8 = some (.int r10) ∧ K (some (.int r10)) m9)) ∧ (¬ (1 : Int32) < x1 → ((x2 < 0 → sh[b]? = some (.inl 5) ∧ Cal G mX5_refuse d [.ref b, .int 1] sh ta m (fun v14 m15 => ∃ r16, v14 = some (.int r16) ∧ K (some (.int r16)) m15)) ∧ (¬ x2 < 0 → ((¬ x1 = 0 → ((x2 ≤ (9 : Int32) → ((¬ x1 = 0 → sh[b]? = some (.inl 5) ∧ ∃ i23, ta b 0 = some i23 ∧ sh[i23]? = some (.inl 0) ∧ ((¬ x1 = 0 → ∀ m27, m27 = up2 m i23 11 x2 → K (some (.int (m i23 11))) m27) ∧ (x1 = 0 → ∀ m28, m28 = up2 m i23 10 x2 → K (some (.int (m i23 11))) m28))) ∧ (x1 = 0 → sh[b]? = some (.inl 5) ∧ ∃ i30, ta b 0 = some i30 ∧ sh[i30]? = some (.inl 0) ∧ ((¬ x1 = 0 → ∀ m34, m34 = up2 m i30 11 x2 → K (some (.int (m i30 10))) m34) ∧ (x1 = 0 → ∀ m35, m35 = up2 m i30 10 x2 → K (some (.int (m i30 10))) m35))))) ∧ (¬ x2 ≤ (9 : Int32) → sh[b]? = some (.inl 5) ∧ Cal G mX5_refuse d [.ref b, .int 1] sh ta m (fun v36 m37 => ∃ r38, v36 = some (.int r38) ∧ K (some (.int r38)) m37)))) ∧ (x1 = 0 → ((x2 ≤ (99 : Int32) → ((¬ x1 = 0 → sh[b]? = some (.inl 5) ∧ ∃ i44, ta b 0 = some i44 ∧ sh[i44]? = some (.inl 0) ∧ ((¬ x1 = 0 → ∀ m48, m48 = up2 m i44 11 x2 → K (some (.int (m i44 11))) m48) ∧ (x1 = 0 → ∀ m49, m49 = up2 m i44 10 x2 → K (some (.int (m i44 11))) m49))) ∧ (x1 = 0 → sh[b]? = some (.inl 5) ∧ ∃ i51, ta b 0 = some i51 ∧ sh[i51]? = some (.inl 0) ∧ ((¬ x1 = 0 → ∀ m55, m55 = up2 m i51 11 x2 → K (some (.int (m i51 10))) m55) ∧ (x1 = 0 → ∀ m56, m56 = up2 m i51 10 x2 → K (some (.int (m i51 10))) m56))))) ∧ (¬ x2 ≤ (99 : Int32) → sh[b]? = some (.inl 5) ∧ Cal G mX5_refuse d [.ref b, .int 1] sh ta m (fun v57 m58 => ∃ r59, v57 = some (.int r59) ∧ K (some (.int r59)) m58)))))))))))) : WP G (rmD (d + 1) 0 0) mX5_spring (QC G sh ta K) 0 0 0 [(0, .ref b), (1, .int x1), (2, .int x2)] [] (sh, ta, m) := by
  refine WP.iload_n 1 dX5_spring_0 rfl rfl ?_
  refine WP.if_lt (tgt := 28) dX5_spring_1 (by decide) (fun c1 => ?_) (fun c1 => ?_)
  · have h := h.1 c1
    refine WP.aload_n 0 dX5_spring_28 rfl rfl ?_
    refine WP.iconst (v := 1) dX5_spring_29 rfl ?_
    obtain ⟨h6, h⟩ := h
    refine WP.callV (y := mX5_refuse) (As := [.int 1]) (st := []) dX5_spring_30 wm_X5_87 mw_X5_refuse rfl (Nat.le_of_ble_eq_true rfl) (rmok d) h6 (by decide) rfl h (fun v2 Sm3 h5 => ?_)
    obtain ⟨m3, rfl, r4, rfl, h⟩ := h5
    show WP G _ _ _ 0 0 33 [(0, .ref b), (1, .int x1), (2, .int x2)] [.int r4] (sh, ta, m3)
    exact WP.iret dX5_spring_33 rfl (Nat.le_refl _) (Nat.le_refl _) ⟨_, rfl, h⟩
  · have h := h.2 c1
    refine WP.iload_n 1 dX5_spring_4 rfl rfl ?_
    refine WP.iconst (v := 1) dX5_spring_5 rfl ?_
    refine WP.icmp_gt (tgt := 28) dX5_spring_6 (by decide) (fun c7 => ?_) (fun c7 => ?_)
    · have h := h.1 c7
      refine WP.aload_n 0 dX5_spring_28 rfl rfl ?_
      refine WP.iconst (v := 1) dX5_spring_29 rfl ?_
      obtain ⟨h12, h⟩ := h
      refine WP.callV (y := mX5_refuse) (As := [.int 1]) (st := []) dX5_spring_30 wm_X5_87 mw_X5_refuse rfl (Nat.le_of_ble_eq_true rfl) (rmok d) h12 (by decide) rfl h (fun v8 Sm9 h11 => ?_)
      obtain ⟨m9, rfl, r10, rfl, h⟩ := h11
      show WP G _ _ _ 0 0 33 [(0, .ref b), (1, .int x1), (2, .int x2)] [.int r10] (sh, ta, m9)
      exact WP.iret dX5_spring_33 rfl (Nat.le_refl _) (Nat.le_refl _) ⟨_, rfl, h⟩
    · have h := h.2 c7
      refine WP.iload_n 2 dX5_spring_9 rfl rfl ?_
      refine WP.if_lt (tgt := 28) dX5_spring_10 (by decide) (fun c13 => ?_) (fun c13 => ?_)
      · have h := h.1 c13
        refine WP.aload_n 0 dX5_spring_28 rfl rfl ?_
        refine WP.iconst (v := 1) dX5_spring_29 rfl ?_
        obtain ⟨h18, h⟩ := h
        refine WP.callV (y := mX5_refuse) (As := [.int 1]) (st := []) dX5_spring_30 wm_X5_87 mw_X5_refuse rfl (Nat.le_of_ble_eq_true rfl) (rmok d) h18 (by decide) rfl h (fun v14 Sm15 h17 => ?_)
        obtain ⟨m15, rfl, r16, rfl, h⟩ := h17
        show WP G _ _ _ 0 0 33 [(0, .ref b), (1, .int x1), (2, .int x2)] [.int r16] (sh, ta, m15)
        exact WP.iret dX5_spring_33 rfl (Nat.le_refl _) (Nat.le_refl _) ⟨_, rfl, h⟩
      · have h := h.2 c13
        refine WP.iload_n 2 dX5_spring_13 rfl rfl ?_
        refine WP.iload_n 1 dX5_spring_14 rfl rfl ?_
        refine WP.if_ne (tgt := 23) dX5_spring_15 (by decide) (fun c19 => ?_) (fun c19 => ?_)
        · have h := h.1 c19
          refine WP.bipush (v := 9) dX5_spring_23 rfl ?_
          refine WP.icmp_le (tgt := 34) dX5_spring_25 (by decide) (fun c20 => ?_) (fun c20 => ?_)
          · have h := h.1 c20
            refine WP.iload_n 1 dX5_spring_34 rfl rfl ?_
            refine WP.if_ne (tgt := 48) dX5_spring_35 (by decide) (fun c21 => ?_) (fun c21 => ?_)
            · have h := h.1 c21
              refine WP.aload_n 0 dX5_spring_48 rfl rfl ?_
              obtain ⟨h22, h⟩ := h
              obtain ⟨i23, h24, h⟩ := h
              refine WP.getR 5 0 wf_X5_67 (by decide) (by decide) rfl h22 h24 dX5_spring_49 ?_
              obtain ⟨h25, h⟩ := h
              refine WP.getIN 0 11 wf_X5_149 (by decide) (by decide) rfl h25 dX5_spring_52 ?_
              refine WP.istore_n (lv2 := [(3, .int (m i23 11)), (0, .ref b), (1, .int x1), (2, .int x2)]) dX5_spring_55 rfl (by decide) rfl ?_
              refine WP.iload_n 2 dX5_spring_56 rfl rfl ?_
              refine WP.if_ne (tgt := 71) dX5_spring_57 (by decide) (fun c26 => ?_) (fun c26 => ?_)
              · have h := h.1 c26
                refine WP.aload_n 1 dX5_spring_71 rfl rfl ?_
                refine WP.getR 5 0 wf_X5_67 (by decide) (by decide) rfl h22 h24 dX5_spring_72 ?_
                refine WP.iload_n 3 dX5_spring_75 rfl rfl ?_
                have h := h _ rfl
                refine WP.putIN 0 11 wf_X5_149 (by decide) (by decide) rfl h25 rfl hG rfl rfl dX5_spring_76 ?_
                generalize up2 m i23 11 x2 = m27 at h ⊢
                refine WP.iload_n 0 dX5_spring_79 rfl rfl ?_
                exact WP.iret dX5_spring_80 rfl (Nat.le_refl _) (Nat.le_refl _) ⟨_, rfl, h⟩
              · have h := h.2 c26
                refine WP.aload_n 1 dX5_spring_60 rfl rfl ?_
                refine WP.getR 5 0 wf_X5_67 (by decide) (by decide) rfl h22 h24 dX5_spring_61 ?_
                refine WP.iload_n 3 dX5_spring_64 rfl rfl ?_
                have h := h _ rfl
                refine WP.putIN 0 10 wf_X5_146 (by decide) (by decide) rfl h25 rfl hG rfl rfl dX5_spring_65 ?_
                generalize up2 m i23 10 x2 = m28 at h ⊢
                refine WP.goto (tgt := 79) dX5_spring_68 (by decide) ?_
                refine WP.iload_n 0 dX5_spring_79 rfl rfl ?_
                exact WP.iret dX5_spring_80 rfl (Nat.le_refl _) (Nat.le_refl _) ⟨_, rfl, h⟩
            · have h := h.2 c21
              refine WP.aload_n 0 dX5_spring_38 rfl rfl ?_
              obtain ⟨h29, h⟩ := h
              obtain ⟨i30, h31, h⟩ := h
              refine WP.getR 5 0 wf_X5_67 (by decide) (by decide) rfl h29 h31 dX5_spring_39 ?_
              obtain ⟨h32, h⟩ := h
              refine WP.getIN 0 10 wf_X5_146 (by decide) (by decide) rfl h32 dX5_spring_42 ?_
              refine WP.goto (tgt := 55) dX5_spring_45 (by decide) ?_
              refine WP.istore_n (lv2 := [(3, .int (m i30 10)), (0, .ref b), (1, .int x1), (2, .int x2)]) dX5_spring_55 rfl (by decide) rfl ?_
              refine WP.iload_n 2 dX5_spring_56 rfl rfl ?_
              refine WP.if_ne (tgt := 71) dX5_spring_57 (by decide) (fun c33 => ?_) (fun c33 => ?_)
              · have h := h.1 c33
                refine WP.aload_n 1 dX5_spring_71 rfl rfl ?_
                refine WP.getR 5 0 wf_X5_67 (by decide) (by decide) rfl h29 h31 dX5_spring_72 ?_
                refine WP.iload_n 3 dX5_spring_75 rfl rfl ?_
                have h := h _ rfl
                refine WP.putIN 0 11 wf_X5_149 (by decide) (by decide) rfl h32 rfl hG rfl rfl dX5_spring_76 ?_
                generalize up2 m i30 11 x2 = m34 at h ⊢
                refine WP.iload_n 0 dX5_spring_79 rfl rfl ?_
                exact WP.iret dX5_spring_80 rfl (Nat.le_refl _) (Nat.le_refl _) ⟨_, rfl, h⟩
              · have h := h.2 c33
                refine WP.aload_n 1 dX5_spring_60 rfl rfl ?_
                refine WP.getR 5 0 wf_X5_67 (by decide) (by decide) rfl h29 h31 dX5_spring_61 ?_
                refine WP.iload_n 3 dX5_spring_64 rfl rfl ?_
                have h := h _ rfl
                refine WP.putIN 0 10 wf_X5_146 (by decide) (by decide) rfl h32 rfl hG rfl rfl dX5_spring_65 ?_
                generalize up2 m i30 10 x2 = m35 at h ⊢
                refine WP.goto (tgt := 79) dX5_spring_68 (by decide) ?_
                refine WP.iload_n 0 dX5_spring_79 rfl rfl ?_
                exact WP.iret dX5_spring_80 rfl (Nat.le_refl _) (Nat.le_refl _) ⟨_, rfl, h⟩
          · have h := h.2 c20
            refine WP.aload_n 0 dX5_spring_28 rfl rfl ?_
            refine WP.iconst (v := 1) dX5_spring_29 rfl ?_
            obtain ⟨h40, h⟩ := h
            refine WP.callV (y := mX5_refuse) (As := [.int 1]) (st := []) dX5_spring_30 wm_X5_87 mw_X5_refuse rfl (Nat.le_of_ble_eq_true rfl) (rmok d) h40 (by decide) rfl h (fun v36 Sm37 h39 => ?_)
            obtain ⟨m37, rfl, r38, rfl, h⟩ := h39
            show WP G _ _ _ 0 0 33 [(0, .ref b), (1, .int x1), (2, .int x2)] [.int r38] (sh, ta, m37)
            exact WP.iret dX5_spring_33 rfl (Nat.le_refl _) (Nat.le_refl _) ⟨_, rfl, h⟩
        · have h := h.2 c19
          refine WP.bipush (v := 99) dX5_spring_18 rfl ?_
          refine WP.goto (tgt := 25) dX5_spring_20 (by decide) ?_
          refine WP.icmp_le (tgt := 34) dX5_spring_25 (by decide) (fun c41 => ?_) (fun c41 => ?_)
          · have h := h.1 c41
            refine WP.iload_n 1 dX5_spring_34 rfl rfl ?_
            refine WP.if_ne (tgt := 48) dX5_spring_35 (by decide) (fun c42 => ?_) (fun c42 => ?_)
            · have h := h.1 c42
              refine WP.aload_n 0 dX5_spring_48 rfl rfl ?_
              obtain ⟨h43, h⟩ := h
              obtain ⟨i44, h45, h⟩ := h
              refine WP.getR 5 0 wf_X5_67 (by decide) (by decide) rfl h43 h45 dX5_spring_49 ?_
              obtain ⟨h46, h⟩ := h
              refine WP.getIN 0 11 wf_X5_149 (by decide) (by decide) rfl h46 dX5_spring_52 ?_
              refine WP.istore_n (lv2 := [(3, .int (m i44 11)), (0, .ref b), (1, .int x1), (2, .int x2)]) dX5_spring_55 rfl (by decide) rfl ?_
              refine WP.iload_n 2 dX5_spring_56 rfl rfl ?_
              refine WP.if_ne (tgt := 71) dX5_spring_57 (by decide) (fun c47 => ?_) (fun c47 => ?_)
              · have h := h.1 c47
                refine WP.aload_n 1 dX5_spring_71 rfl rfl ?_
                refine WP.getR 5 0 wf_X5_67 (by decide) (by decide) rfl h43 h45 dX5_spring_72 ?_
                refine WP.iload_n 3 dX5_spring_75 rfl rfl ?_
                have h := h _ rfl
                refine WP.putIN 0 11 wf_X5_149 (by decide) (by decide) rfl h46 rfl hG rfl rfl dX5_spring_76 ?_
                generalize up2 m i44 11 x2 = m48 at h ⊢
                refine WP.iload_n 0 dX5_spring_79 rfl rfl ?_
                exact WP.iret dX5_spring_80 rfl (Nat.le_refl _) (Nat.le_refl _) ⟨_, rfl, h⟩
              · have h := h.2 c47
                refine WP.aload_n 1 dX5_spring_60 rfl rfl ?_
                refine WP.getR 5 0 wf_X5_67 (by decide) (by decide) rfl h43 h45 dX5_spring_61 ?_
                refine WP.iload_n 3 dX5_spring_64 rfl rfl ?_
                have h := h _ rfl
                refine WP.putIN 0 10 wf_X5_146 (by decide) (by decide) rfl h46 rfl hG rfl rfl dX5_spring_65 ?_
                generalize up2 m i44 10 x2 = m49 at h ⊢
                refine WP.goto (tgt := 79) dX5_spring_68 (by decide) ?_
                refine WP.iload_n 0 dX5_spring_79 rfl rfl ?_
                exact WP.iret dX5_spring_80 rfl (Nat.le_refl _) (Nat.le_refl _) ⟨_, rfl, h⟩
            · have h := h.2 c42
              refine WP.aload_n 0 dX5_spring_38 rfl rfl ?_
              obtain ⟨h50, h⟩ := h
              obtain ⟨i51, h52, h⟩ := h
              refine WP.getR 5 0 wf_X5_67 (by decide) (by decide) rfl h50 h52 dX5_spring_39 ?_
              obtain ⟨h53, h⟩ := h
              refine WP.getIN 0 10 wf_X5_146 (by decide) (by decide) rfl h53 dX5_spring_42 ?_
              refine WP.goto (tgt := 55) dX5_spring_45 (by decide) ?_
              refine WP.istore_n (lv2 := [(3, .int (m i51 10)), (0, .ref b), (1, .int x1), (2, .int x2)]) dX5_spring_55 rfl (by decide) rfl ?_
              refine WP.iload_n 2 dX5_spring_56 rfl rfl ?_
              refine WP.if_ne (tgt := 71) dX5_spring_57 (by decide) (fun c54 => ?_) (fun c54 => ?_)
              · have h := h.1 c54
                refine WP.aload_n 1 dX5_spring_71 rfl rfl ?_
                refine WP.getR 5 0 wf_X5_67 (by decide) (by decide) rfl h50 h52 dX5_spring_72 ?_
                refine WP.iload_n 3 dX5_spring_75 rfl rfl ?_
                have h := h _ rfl
                refine WP.putIN 0 11 wf_X5_149 (by decide) (by decide) rfl h53 rfl hG rfl rfl dX5_spring_76 ?_
                generalize up2 m i51 11 x2 = m55 at h ⊢
                refine WP.iload_n 0 dX5_spring_79 rfl rfl ?_
                exact WP.iret dX5_spring_80 rfl (Nat.le_refl _) (Nat.le_refl _) ⟨_, rfl, h⟩
              · have h := h.2 c54
                refine WP.aload_n 1 dX5_spring_60 rfl rfl ?_
                refine WP.getR 5 0 wf_X5_67 (by decide) (by decide) rfl h50 h52 dX5_spring_61 ?_
                refine WP.iload_n 3 dX5_spring_64 rfl rfl ?_
                have h := h _ rfl
                refine WP.putIN 0 10 wf_X5_146 (by decide) (by decide) rfl h53 rfl hG rfl rfl dX5_spring_65 ?_
                generalize up2 m i51 10 x2 = m56 at h ⊢
                refine WP.goto (tgt := 79) dX5_spring_68 (by decide) ?_
                refine WP.iload_n 0 dX5_spring_79 rfl rfl ?_
                exact WP.iret dX5_spring_80 rfl (Nat.le_refl _) (Nat.le_refl _) ⟨_, rfl, h⟩
          · have h := h.2 c41
            refine WP.aload_n 0 dX5_spring_28 rfl rfl ?_
            refine WP.iconst (v := 1) dX5_spring_29 rfl ?_
            obtain ⟨h61, h⟩ := h
            refine WP.callV (y := mX5_refuse) (As := [.int 1]) (st := []) dX5_spring_30 wm_X5_87 mw_X5_refuse rfl (Nat.le_of_ble_eq_true rfl) (rmok d) h61 (by decide) rfl h (fun v57 Sm58 h60 => ?_)
            obtain ⟨m58, rfl, r59, rfl, h⟩ := h60
            show WP G _ _ _ 0 0 33 [(0, .ref b), (1, .int x1), (2, .int x2)] [.int r59] (sh, ta, m58)
            exact WP.iret dX5_spring_33 rfl (Nat.le_refl _) (Nat.le_refl _) ⟨_, rfl, h⟩
set_option maxHeartbeats 4000000 in
set_option maxRecDepth 20000 in
theorem rg_X5_wind_0 (hG : fl G = false) (b : Nat) (h : sh[b]? = some (.inl 5) ∧ ∃ i2, ta b 0 = some i2 ∧ sh[i2]? = some (.inl 0) ∧ ∀ m5, m5 = up2 m i2 12 0 → K (some (.int (m i2 12))) m5) : WP G (rmD (d + 1) 0 0) mX5_wind (QC G sh ta K) 0 0 0 [(0, .ref b)] [] (sh, ta, m) := by
  refine WP.aload_n 0 dX5_wind_0 rfl rfl ?_
  obtain ⟨h1, h⟩ := h
  obtain ⟨i2, h3, h⟩ := h
  refine WP.getR 5 0 wf_X5_67 (by decide) (by decide) rfl h1 h3 dX5_wind_1 ?_
  obtain ⟨h4, h⟩ := h
  refine WP.getIN 0 12 wf_X5_152 (by decide) (by decide) rfl h4 dX5_wind_4 ?_
  refine WP.istore_n (lv2 := [(1, .int (m i2 12)), (0, .ref b)]) dX5_wind_7 rfl (by decide) rfl ?_
  refine WP.aload_n 1 dX5_wind_8 rfl rfl ?_
  refine WP.getR 5 0 wf_X5_67 (by decide) (by decide) rfl h1 h3 dX5_wind_9 ?_
  refine WP.iconst (v := 0) dX5_wind_12 rfl ?_
  have h := h _ rfl
  refine WP.putIN 0 12 wf_X5_152 (by decide) (by decide) rfl h4 rfl hG rfl rfl dX5_wind_13 ?_
  generalize up2 m i2 12 0 = m5 at h ⊢
  refine WP.iload_n 0 dX5_wind_16 rfl rfl ?_
  exact WP.iret dX5_wind_17 rfl (Nat.le_refl _) (Nat.le_refl _) ⟨_, rfl, h⟩
set_option maxHeartbeats 4000000 in
set_option maxRecDepth 20000 in
theorem rg_X5_cellIs_0 (hG : fl G = false) (b : Nat) (x1 : Int32) (x2 : Int32) (h : Cal G mX5_isCell d [.int x1] sh ta m (fun v1 m2 => ∃ r3, v1 = some (.int r3) ∧ ((¬ r3 = 0 → (((x2.toInt < 0 ∨ 3 < x2.toInt) → sh[b]? = some (.inl 5) ∧ Cal G mX5_refuse d [.ref b, .int 1] sh ta m2 (fun v7 m8 => ∃ r9, v7 = some (.int r9) ∧ K (some (.int r9)) m8)) ∧ (x2 = 0 → sh[b]? = some (.inl 5) ∧ ∃ i13, ta b 0 = some i13 ∧ sh[i13]? = some (.inl 0) ∧ Cal G mX0_highOf d [.ref i13, .int x1] sh ta m2 (fun v15 m16 => ∃ r17, v15 = some (.int r17) ∧ K (some (.int r17)) m16)) ∧ (x2 = 1 → sh[b]? = some (.inl 5) ∧ ∃ i21, ta b 0 = some i21 ∧ sh[i21]? = some (.inl 0) ∧ Cal G mX0_top d [.ref i21, .int x1] sh ta m2 (fun v23 m24 => ∃ r25, v23 = some (.int r25) ∧ K (some (.int r25)) m24)) ∧ (x2 = 2 → sh[b]? = some (.inl 5) ∧ ∃ i29, ta b 0 = some i29 ∧ sh[i29]? = some (.inl 0) ∧ Cal G mX0_thingAt d [.ref i29, .int x1, .int 0] sh ta m2 (fun v31 m32 => ∃ r33, v31 = some (.int r33) ∧ K (some (.int r33)) m32)) ∧ (x2 = 3 → sh[b]? = some (.inl 5) ∧ ∃ i37, ta b 0 = some i37 ∧ sh[i37]? = some (.inl 0) ∧ Cal G mX0_does d [.ref i37, .int x1] sh ta m2 (fun v39 m40 => ∃ r41, v39 = some (.int r41) ∧ K (some (.int r41)) m40)))) ∧ (r3 = 0 → sh[b]? = some (.inl 5) ∧ Cal G mX5_refuse d [.ref b, .int 1] sh ta m2 (fun v44 m45 => ∃ r46, v44 = some (.int r46) ∧ K (some (.int r46)) m45))))) : WP G (rmD (d + 1) 0 0) mX5_cellIs (QC G sh ta K) 0 0 0 [(0, .ref b), (1, .int x1), (2, .int x2)] [] (sh, ta, m) := by
  refine WP.iload_n 1 dX5_cellIs_0 rfl rfl ?_
  refine WP.callS (y := mX5_isCell) (As := [.int x1]) (st := []) dX5_cellIs_1 wm_X5_155 mw_X5_isCell rfl (Nat.le_of_ble_eq_true rfl) (rmok d) rfl h (fun v1 Sm2 h4 => ?_)
  obtain ⟨m2, rfl, r3, rfl, h⟩ := h4
  show WP G _ _ _ 0 0 4 [(0, .ref b), (1, .int x1), (2, .int x2)] [.int r3] (sh, ta, m2)
  refine WP.if_ne (tgt := 13) dX5_cellIs_4 (by decide) (fun c5 => ?_) (fun c5 => ?_)
  · have h := h.1 c5
    refine WP.iload_n 2 dX5_cellIs_13 rfl rfl ?_
    by_cases c6 : (x2 : Int32).toInt < 0 ∨ 3 < (x2 : Int32).toInt
    · have h := h.1 c6
      refine WP.tswO (td := 81) dX5_cellIs_14 c6 (by decide) ?_
      refine WP.aload_n 0 dX5_cellIs_81 rfl rfl ?_
      refine WP.iconst (v := 1) dX5_cellIs_82 rfl ?_
      obtain ⟨h11, h⟩ := h
      refine WP.callV (y := mX5_refuse) (As := [.int 1]) (st := []) dX5_cellIs_83 wm_X5_87 mw_X5_refuse rfl (Nat.le_of_ble_eq_true rfl) (rmok d) h11 (by decide) rfl h (fun v7 Sm8 h10 => ?_)
      obtain ⟨m8, rfl, r9, rfl, h⟩ := h10
      show WP G _ _ _ 0 0 86 [(0, .ref b), (1, .int x1), (2, .int x2)] [.int r9] (sh, ta, m8)
      exact WP.iret dX5_cellIs_86 rfl (Nat.le_refl _) (Nat.le_refl _) ⟨_, rfl, h⟩
    rcases (show (x2 : Int32).toInt = 0 ∨ (x2 : Int32).toInt = 1 ∨ (x2 : Int32).toInt = 2 ∨ (x2 : Int32).toInt = 3 by omega) with c6 | c6 | c6 | c6
    · have h := h.2.1 (i32_of c6 rfl)
      refine WP.tswI (td := 44) 0 dX5_cellIs_14 c6 (by decide) rfl (by decide) ?_
      refine WP.aload_n 0 dX5_cellIs_44 rfl rfl ?_
      obtain ⟨h12, h⟩ := h
      obtain ⟨i13, h14, h⟩ := h
      refine WP.getR 5 0 wf_X5_67 (by decide) (by decide) rfl h12 h14 dX5_cellIs_45 ?_
      refine WP.iload_n 1 dX5_cellIs_48 rfl rfl ?_
      obtain ⟨h19, h⟩ := h
      refine WP.callV (y := mX0_highOf) (As := [.int x1]) (st := []) dX5_cellIs_49 wm_X5_95 mw_X0_highOf rfl (Nat.le_of_ble_eq_true rfl) (rmok d) h19 (by decide) rfl h (fun v15 Sm16 h18 => ?_)
      obtain ⟨m16, rfl, r17, rfl, h⟩ := h18
      show WP G _ _ _ 0 0 52 [(0, .ref b), (1, .int x1), (2, .int x2)] [.int r17] (sh, ta, m16)
      exact WP.iret dX5_cellIs_52 rfl (Nat.le_refl _) (Nat.le_refl _) ⟨_, rfl, h⟩
    · have h := h.2.2.1 (i32_of c6 rfl)
      refine WP.tswI (td := 53) 1 dX5_cellIs_14 c6 (by decide) rfl (by decide) ?_
      refine WP.aload_n 0 dX5_cellIs_53 rfl rfl ?_
      obtain ⟨h20, h⟩ := h
      obtain ⟨i21, h22, h⟩ := h
      refine WP.getR 5 0 wf_X5_67 (by decide) (by decide) rfl h20 h22 dX5_cellIs_54 ?_
      refine WP.iload_n 1 dX5_cellIs_57 rfl rfl ?_
      obtain ⟨h27, h⟩ := h
      refine WP.callV (y := mX0_top) (As := [.int x1]) (st := []) dX5_cellIs_58 wm_X5_158 mw_X0_top rfl (Nat.le_of_ble_eq_true rfl) (rmok d) h27 (by decide) rfl h (fun v23 Sm24 h26 => ?_)
      obtain ⟨m24, rfl, r25, rfl, h⟩ := h26
      show WP G _ _ _ 0 0 61 [(0, .ref b), (1, .int x1), (2, .int x2)] [.int r25] (sh, ta, m24)
      exact WP.iret dX5_cellIs_61 rfl (Nat.le_refl _) (Nat.le_refl _) ⟨_, rfl, h⟩
    · have h := h.2.2.2.1 (i32_of c6 rfl)
      refine WP.tswI (td := 62) 2 dX5_cellIs_14 c6 (by decide) rfl (by decide) ?_
      refine WP.aload_n 0 dX5_cellIs_62 rfl rfl ?_
      obtain ⟨h28, h⟩ := h
      obtain ⟨i29, h30, h⟩ := h
      refine WP.getR 5 0 wf_X5_67 (by decide) (by decide) rfl h28 h30 dX5_cellIs_63 ?_
      refine WP.iload_n 1 dX5_cellIs_66 rfl rfl ?_
      refine WP.iconst (v := 0) dX5_cellIs_67 rfl ?_
      obtain ⟨h35, h⟩ := h
      refine WP.callV (y := mX0_thingAt) (As := [.int x1, .int 0]) (st := []) dX5_cellIs_68 wm_X5_161 mw_X0_thingAt rfl (Nat.le_of_ble_eq_true rfl) (rmok d) h35 (by decide) rfl h (fun v31 Sm32 h34 => ?_)
      obtain ⟨m32, rfl, r33, rfl, h⟩ := h34
      show WP G _ _ _ 0 0 71 [(0, .ref b), (1, .int x1), (2, .int x2)] [.int r33] (sh, ta, m32)
      exact WP.iret dX5_cellIs_71 rfl (Nat.le_refl _) (Nat.le_refl _) ⟨_, rfl, h⟩
    · have h := h.2.2.2.2 (i32_of c6 rfl)
      refine WP.tswI (td := 72) 3 dX5_cellIs_14 c6 (by decide) rfl (by decide) ?_
      refine WP.aload_n 0 dX5_cellIs_72 rfl rfl ?_
      obtain ⟨h36, h⟩ := h
      obtain ⟨i37, h38, h⟩ := h
      refine WP.getR 5 0 wf_X5_67 (by decide) (by decide) rfl h36 h38 dX5_cellIs_73 ?_
      refine WP.iload_n 1 dX5_cellIs_76 rfl rfl ?_
      obtain ⟨h43, h⟩ := h
      refine WP.callV (y := mX0_does) (As := [.int x1]) (st := []) dX5_cellIs_77 wm_X5_165 mw_X0_does rfl (Nat.le_of_ble_eq_true rfl) (rmok d) h43 (by decide) rfl h (fun v39 Sm40 h42 => ?_)
      obtain ⟨m40, rfl, r41, rfl, h⟩ := h42
      show WP G _ _ _ 0 0 80 [(0, .ref b), (1, .int x1), (2, .int x2)] [.int r41] (sh, ta, m40)
      exact WP.iret dX5_cellIs_80 rfl (Nat.le_refl _) (Nat.le_refl _) ⟨_, rfl, h⟩
  · have h := h.2 c5
    refine WP.aload_n 0 dX5_cellIs_7 rfl rfl ?_
    refine WP.iconst (v := 1) dX5_cellIs_8 rfl ?_
    obtain ⟨h48, h⟩ := h
    refine WP.callV (y := mX5_refuse) (As := [.int 1]) (st := []) dX5_cellIs_9 wm_X5_87 mw_X5_refuse rfl (Nat.le_of_ble_eq_true rfl) (rmok d) h48 (by decide) rfl h (fun v44 Sm45 h47 => ?_)
    obtain ⟨m45, rfl, r46, rfl, h⟩ := h47
    show WP G _ _ _ 0 0 12 [(0, .ref b), (1, .int x1), (2, .int x2)] [.int r46] (sh, ta, m45)
    exact WP.iret dX5_cellIs_12 rfl (Nat.le_refl _) (Nat.le_refl _) ⟨_, rfl, h⟩
set_option maxHeartbeats 4000000 in
set_option maxRecDepth 20000 in
theorem rg_X5_feed_0 (hG : fl G = false) (b : Nat) (l1 : Int64) (x3 : Int32) (h : ((x3 < (1 : Int32) → sh[b]? = some (.inl 5) ∧ Cal G mX5_refuse d [.ref b, .int 1] sh ta m (fun v2 m3 => ∃ r4, v2 = some (.int r4) ∧ K (some (.int r4)) m3)) ∧ (¬ x3 < (1 : Int32) → ((x3 ≤ (8 : Int32) → sh[b]? = some (.inl 5) ∧ ∃ i9, ta b 3 = some i9 ∧ sh[i9]? = some (.inl 2) ∧ ((((m i9 1) + x3) ≤ (60 : Int32) → WP G (rmD (d + 1) 0 0) mX5_feed (QC G sh ta K) 0 0 40 [(0, .ref b), (1, .long l1), (3, .int x3), (4, .int 0)] [] (sh, ta, m)) ∧ (¬ ((m i9 1) + x3) ≤ (60 : Int32) → Cal G mX5_refuse d [.ref b, .int 4] sh ta m (fun v13 m14 => ∃ r15, v13 = some (.int r15) ∧ K (some (.int r15)) m14)))) ∧ (¬ x3 ≤ (8 : Int32) → sh[b]? = some (.inl 5) ∧ Cal G mX5_refuse d [.ref b, .int 1] sh ta m (fun v17 m18 => ∃ r19, v17 = some (.int r19) ∧ K (some (.int r19)) m18)))))) : WP G (rmD (d + 1) 0 0) mX5_feed (QC G sh ta K) 0 0 0 [(0, .ref b), (1, .long l1), (3, .int x3)] [] (sh, ta, m) := by
  refine WP.iload_n 2 dX5_feed_0 rfl rfl ?_
  refine WP.iconst (v := 1) dX5_feed_1 rfl ?_
  refine WP.icmp_lt (tgt := 11) dX5_feed_2 (by decide) (fun c1 => ?_) (fun c1 => ?_)
  · have h := h.1 c1
    refine WP.aload_n 0 dX5_feed_11 rfl rfl ?_
    refine WP.iconst (v := 1) dX5_feed_12 rfl ?_
    obtain ⟨h6, h⟩ := h
    refine WP.callV (y := mX5_refuse) (As := [.int 1]) (st := []) dX5_feed_13 wm_X5_87 mw_X5_refuse rfl (Nat.le_of_ble_eq_true rfl) (rmok d) h6 (by decide) rfl h (fun v2 Sm3 h5 => ?_)
    obtain ⟨m3, rfl, r4, rfl, h⟩ := h5
    show WP G _ _ _ 0 0 16 [(0, .ref b), (1, .long l1), (3, .int x3)] [.int r4] (sh, ta, m3)
    exact WP.iret dX5_feed_16 rfl (Nat.le_refl _) (Nat.le_refl _) ⟨_, rfl, h⟩
  · have h := h.2 c1
    refine WP.iload_n 2 dX5_feed_5 rfl rfl ?_
    refine WP.bipush (v := 8) dX5_feed_6 rfl ?_
    refine WP.icmp_le (tgt := 17) dX5_feed_8 (by decide) (fun c7 => ?_) (fun c7 => ?_)
    · have h := h.1 c7
      refine WP.aload_n 0 dX5_feed_17 rfl rfl ?_
      obtain ⟨h8, h⟩ := h
      obtain ⟨i9, h10, h⟩ := h
      refine WP.getR 5 3 wf_X5_14 (by decide) (by decide) rfl h8 h10 dX5_feed_18 ?_
      obtain ⟨h11, h⟩ := h
      refine WP.getIN 2 1 wf_X5_168 (by decide) (by decide) rfl h11 dX5_feed_21 ?_
      refine WP.iload_n 2 dX5_feed_24 rfl rfl ?_
      refine WP.iadd dX5_feed_25 ?_
      refine WP.bipush (v := 60) dX5_feed_26 rfl ?_
      refine WP.icmp_le (tgt := 37) dX5_feed_28 (by decide) (fun c12 => ?_) (fun c12 => ?_)
      · have h := h.1 c12
        refine WP.iconst (v := 0) dX5_feed_37 rfl ?_
        refine WP.istore (lv2 := [(4, .int 0), (0, .ref b), (1, .long l1), (3, .int x3)]) dX5_feed_38 (by decide) rfl ?_
        exact WP.pick [1, 2, 3, 0] rfl h
      · have h := h.2 c12
        refine WP.aload_n 0 dX5_feed_31 rfl rfl ?_
        refine WP.iconst (v := 4) dX5_feed_32 rfl ?_
        refine WP.callV (y := mX5_refuse) (As := [.int 4]) (st := []) dX5_feed_33 wm_X5_87 mw_X5_refuse rfl (Nat.le_of_ble_eq_true rfl) (rmok d) h8 (by decide) rfl h (fun v13 Sm14 h16 => ?_)
        obtain ⟨m14, rfl, r15, rfl, h⟩ := h16
        show WP G _ _ _ 0 0 36 [(0, .ref b), (1, .long l1), (3, .int x3)] [.int r15] (sh, ta, m14)
        exact WP.iret dX5_feed_36 rfl (Nat.le_refl _) (Nat.le_refl _) ⟨_, rfl, h⟩
    · have h := h.2 c7
      refine WP.aload_n 0 dX5_feed_11 rfl rfl ?_
      refine WP.iconst (v := 1) dX5_feed_12 rfl ?_
      obtain ⟨h21, h⟩ := h
      refine WP.callV (y := mX5_refuse) (As := [.int 1]) (st := []) dX5_feed_13 wm_X5_87 mw_X5_refuse rfl (Nat.le_of_ble_eq_true rfl) (rmok d) h21 (by decide) rfl h (fun v17 Sm18 h20 => ?_)
      obtain ⟨m18, rfl, r19, rfl, h⟩ := h20
      show WP G _ _ _ 0 0 16 [(0, .ref b), (1, .long l1), (3, .int x3)] [.int r19] (sh, ta, m18)
      exact WP.iret dX5_feed_16 rfl (Nat.le_refl _) (Nat.le_refl _) ⟨_, rfl, h⟩
set_option maxHeartbeats 4000000 in
set_option maxRecDepth 20000 in
theorem rg_X5_feed_40 (hG : fl G = false) (b : Nat) (l1 : Int64) (x3 : Int32) (x4 : Int32) (h : ((x3 ≤ x4 → sh[b]? = some (.inl 5) ∧ ∃ i3, ta b 3 = some i3 ∧ sh[i3]? = some (.inl 2) ∧ K (some (.int (m i3 1))) m) ∧ (¬ x3 ≤ x4 → sh[b]? = some (.inl 5) ∧ ∃ i7, ta b 3 = some i7 ∧ sh[i7]? = some (.inl 2) ∧ Cal G mX2_add d [.ref i7, .int (((((l1).toUInt64 >>> ((8 * x4 : Int32).toInt64.toUInt64 &&& Int64.toUInt64 63)).toInt64 : Int64).toInt32) &&& 255)] sh ta m (fun v9 m10 => v9 = none ∧ WP G (rmD (d + 1) 0 0) mX5_feed (QC G sh ta K) 0 0 40 [(0, .ref b), (1, .long l1), (3, .int x3), (4, .int (x4 + 1))] [] (sh, ta, m10))))) : WP G (rmD (d + 1) 0 0) mX5_feed (QC G sh ta K) 0 0 40 [(0, .ref b), (1, .long l1), (3, .int x3), (4, .int x4)] [] (sh, ta, m) := by
  refine WP.iload 3 dX5_feed_40 rfl ?_
  refine WP.iload_n 2 dX5_feed_42 rfl rfl ?_
  refine WP.icmp_ge (tgt := 71) dX5_feed_43 (by decide) (fun c1 => ?_) (fun c1 => ?_)
  · have h := h.1 c1
    refine WP.aload_n 0 dX5_feed_71 rfl rfl ?_
    obtain ⟨h2, h⟩ := h
    obtain ⟨i3, h4, h⟩ := h
    refine WP.getR 5 3 wf_X5_14 (by decide) (by decide) rfl h2 h4 dX5_feed_72 ?_
    obtain ⟨h5, h⟩ := h
    refine WP.getIN 2 1 wf_X5_168 (by decide) (by decide) rfl h5 dX5_feed_75 ?_
    exact WP.iret dX5_feed_78 rfl (Nat.le_refl _) (Nat.le_refl _) ⟨_, rfl, h⟩
  · have h := h.2 c1
    refine WP.aload_n 0 dX5_feed_46 rfl rfl ?_
    obtain ⟨h6, h⟩ := h
    obtain ⟨i7, h8, h⟩ := h
    refine WP.getR 5 3 wf_X5_14 (by decide) (by decide) rfl h6 h8 dX5_feed_47 ?_
    refine WP.lload_n 1 dX5_feed_50 rfl rfl ?_
    refine WP.bipush (v := 8) dX5_feed_51 rfl ?_
    refine WP.iload 3 dX5_feed_53 rfl ?_
    refine WP.imul dX5_feed_55 ?_
    refine WP.lushr dX5_feed_56 ?_
    refine WP.l2i dX5_feed_57 ?_
    refine WP.sipush (v := 255) dX5_feed_58 rfl ?_
    refine WP.iand dX5_feed_61 ?_
    obtain ⟨h13, h⟩ := h
    refine WP.callV (y := mX2_add) (As := [.int (((((l1).toUInt64 >>> ((8 * x4 : Int32).toInt64.toUInt64 &&& Int64.toUInt64 63)).toInt64 : Int64).toInt32) &&& 255)]) (st := []) dX5_feed_62 wm_X5_171 mw_X2_add rfl (Nat.le_of_ble_eq_true rfl) (rmok d) h13 (by decide) rfl h (fun v9 Sm10 h12 => ?_)
    obtain ⟨m10, rfl, rfl, h⟩ := h12
    show WP G _ _ _ 0 0 65 [(0, .ref b), (1, .long l1), (3, .int x3), (4, .int x4)] [] (sh, ta, m10)
    refine WP.iinc (lv2 := [(4, .int (x4 + 1)), (0, .ref b), (1, .long l1), (3, .int x3)]) 3 1 dX5_feed_65 rfl rfl (by decide) rfl ?_
    refine WP.goto (tgt := 40) dX5_feed_68 (by decide) ?_
    exact WP.pick [1, 2, 3, 0] rfl h
set_option maxHeartbeats 4000000 in
set_option maxRecDepth 20000 in
theorem rg_X5_text_0 (hG : fl G = false) {K : Option Value → (Nat → Nat → Option Nat) → Mem → Prop} (b : Nat) (x1 : Int32) (h : ((x1 < 0 → sh[b]? = some (.inl 5) ∧ Cal G mX5_refuse d [.ref b, .int 1] sh ta m (fun v2 m3 => ∃ r4, v2 = some (.int r4) ∧ K (some (.int r4)) ta m3)) ∧ (¬ x1 < 0 → ((x1 ≤ (1 : Int32) → sh[b]? = some (.inl 5) ∧ ∃ i9, ta b 7 = some i9 ∧ ∃ i11, ta b 3 = some i11 ∧ ((¬ x1 = 0 → ∃ i14, ta b 8 = some i14 ∧ sh[i9]? = some (.inl 1) ∧ CalT G mX1_read d [.ref i9, .ref i11, .ref 1004, .ref i14] sh ta m (fun v16 t20 m17 => ∃ r18, v16 = some (.int r18) ∧ ∃ i22, t20 b 3 = some i22 ∧ sh[i22]? = some (.inl 2) ∧ Cal G mX2_clear d [.ref i22] sh t20 m17 (fun v24 m25 => v24 = none ∧ ((r18 < 0 → ∃ i30, t20 b 0 = some i30 ∧ sh[i30]? = some (.inl 0) ∧ Cal G mX0_textFor d [.ref i30, .int x1] sh t20 m25 (fun v32 m33 => ∃ r34, v32 = some (.ref r34) ∧ ∃ i37, t20 b 8 = some i37 ∧ sh[r34]? = some (.inl 3) ∧ Cal G mX3_copyFrom d [.ref r34, .ref i37] sh t20 m33 (fun v39 m40 => v39 = none ∧ K (some (.int 1)) t20 m40))) ∧ (¬ r18 < 0 → K (some (.int (((-10)) - r18))) t20 m25))))) ∧ (x1 = 0 → ∃ i44, ta b 8 = some i44 ∧ sh[i9]? = some (.inl 1) ∧ CalT G mX1_read d [.ref i9, .ref i11, .ref 1003, .ref i44] sh ta m (fun v46 t50 m47 => ∃ r48, v46 = some (.int r48) ∧ ∃ i52, t50 b 3 = some i52 ∧ sh[i52]? = some (.inl 2) ∧ Cal G mX2_clear d [.ref i52] sh t50 m47 (fun v54 m55 => v54 = none ∧ ((r48 < 0 → ∃ i60, t50 b 0 = some i60 ∧ sh[i60]? = some (.inl 0) ∧ Cal G mX0_textFor d [.ref i60, .int x1] sh t50 m55 (fun v62 m63 => ∃ r64, v62 = some (.ref r64) ∧ ∃ i67, t50 b 8 = some i67 ∧ sh[r64]? = some (.inl 3) ∧ Cal G mX3_copyFrom d [.ref r64, .ref i67] sh t50 m63 (fun v69 m70 => v69 = none ∧ K (some (.int 1)) t50 m70))) ∧ (¬ r48 < 0 → K (some (.int (((-10)) - r48))) t50 m55))))))) ∧ (¬ x1 ≤ (1 : Int32) → sh[b]? = some (.inl 5) ∧ Cal G mX5_refuse d [.ref b, .int 1] sh ta m (fun v74 m75 => ∃ r76, v74 = some (.int r76) ∧ K (some (.int r76)) ta m75)))))) : WP G (rmD (d + 1) 0 0) mX5_text (QT G sh K) 0 0 0 [(0, .ref b), (1, .int x1)] [] (sh, ta, m) := by
  refine WP.iload_n 1 dX5_text_0 rfl rfl ?_
  refine WP.if_lt (tgt := 9) dX5_text_1 (by decide) (fun c1 => ?_) (fun c1 => ?_)
  · have h := h.1 c1
    refine WP.aload_n 0 dX5_text_9 rfl rfl ?_
    refine WP.iconst (v := 1) dX5_text_10 rfl ?_
    obtain ⟨h6, h⟩ := h
    refine WP.callV (y := mX5_refuse) (As := [.int 1]) (st := []) dX5_text_11 wm_X5_87 mw_X5_refuse rfl (Nat.le_of_ble_eq_true rfl) (rmok d) h6 (by decide) rfl h (fun v2 Sm3 h5 => ?_)
    obtain ⟨m3, rfl, r4, rfl, h⟩ := h5
    show WP G _ _ _ 0 0 14 [(0, .ref b), (1, .int x1)] [.int r4] (sh, ta, m3)
    exact WP.iret dX5_text_14 rfl (Nat.le_refl _) (Nat.le_refl _) ⟨_, _, rfl, h⟩
  · have h := h.2 c1
    refine WP.iload_n 1 dX5_text_4 rfl rfl ?_
    refine WP.iconst (v := 1) dX5_text_5 rfl ?_
    refine WP.icmp_le (tgt := 15) dX5_text_6 (by decide) (fun c7 => ?_) (fun c7 => ?_)
    · have h := h.1 c7
      refine WP.aload_n 0 dX5_text_15 rfl rfl ?_
      obtain ⟨h8, h⟩ := h
      obtain ⟨i9, h10, h⟩ := h
      refine WP.getR 5 7 wf_X5_30 (by decide) (by decide) rfl h8 h10 dX5_text_16 ?_
      refine WP.aload_n 0 dX5_text_19 rfl rfl ?_
      obtain ⟨i11, h12, h⟩ := h
      refine WP.getR 5 3 wf_X5_14 (by decide) (by decide) rfl h8 h12 dX5_text_20 ?_
      refine WP.iload_n 1 dX5_text_23 rfl rfl ?_
      refine WP.if_ne (tgt := 32) dX5_text_24 (by decide) (fun c13 => ?_) (fun c13 => ?_)
      · have h := h.1 c13
        refine WP.ldcWkm rfl dX5_text_32 ?_
        refine WP.aload_n 0 dX5_text_34 rfl rfl ?_
        obtain ⟨i14, h15, h⟩ := h
        refine WP.getR 5 8 wf_X5_37 (by decide) (by decide) rfl h8 h15 dX5_text_35 ?_
        obtain ⟨h21, h⟩ := h
        refine WP.callV (y := mX1_read) (As := [.ref i11, .ref 1004, .ref i14]) (st := []) dX5_text_38 wm_X5_177 mw_X1_read rfl (Nat.le_of_ble_eq_true rfl) (rmok d) h21 (by decide) rfl h (fun v16 Sm17 h19 => ?_)
        obtain ⟨t20, m17, rfl, r18, rfl, h⟩ := h19
        show WP G _ _ _ 0 0 41 [(0, .ref b), (1, .int x1)] [.int r18] (sh, t20, m17)
        refine WP.istore_n (lv2 := [(2, .int r18), (0, .ref b), (1, .int x1)]) dX5_text_41 rfl (by decide) rfl ?_
        refine WP.aload_n 1 dX5_text_42 rfl rfl ?_
        obtain ⟨i22, h23, h⟩ := h
        refine WP.getR 5 3 wf_X5_14 (by decide) (by decide) rfl h8 h23 dX5_text_43 ?_
        obtain ⟨h28, h⟩ := h
        refine WP.callV (y := mX2_clear) (As := []) (st := []) dX5_text_46 wm_X5_181 mw_X2_clear rfl (Nat.le_of_ble_eq_true rfl) (rmok d) h28 (by decide) rfl h (fun v24 Sm25 h27 => ?_)
        obtain ⟨m25, rfl, rfl, h⟩ := h27
        show WP G _ _ _ 0 0 49 [(2, .int r18), (0, .ref b), (1, .int x1)] [] (sh, t20, m25)
        refine WP.iload_n 0 dX5_text_49 rfl rfl ?_
        refine WP.if_lt (tgt := 58) dX5_text_50 (by decide) (fun c29 => ?_) (fun c29 => ?_)
        · have h := h.1 c29
          refine WP.aload_n 1 dX5_text_58 rfl rfl ?_
          obtain ⟨i30, h31, h⟩ := h
          refine WP.getR 5 0 wf_X5_67 (by decide) (by decide) rfl h8 h31 dX5_text_59 ?_
          refine WP.iload_n 2 dX5_text_62 rfl rfl ?_
          obtain ⟨h36, h⟩ := h
          refine WP.callV (y := mX0_textFor) (As := [.int x1]) (st := []) dX5_text_63 wm_X5_184 mw_X0_textFor rfl (Nat.le_of_ble_eq_true rfl) (rmok d) h36 (by decide) rfl h (fun v32 Sm33 h35 => ?_)
          obtain ⟨m33, rfl, r34, rfl, h⟩ := h35
          show WP G _ _ _ 0 0 66 [(2, .int r18), (0, .ref b), (1, .int x1)] [.ref r34] (sh, t20, m33)
          refine WP.aload_n 1 dX5_text_66 rfl rfl ?_
          obtain ⟨i37, h38, h⟩ := h
          refine WP.getR 5 8 wf_X5_37 (by decide) (by decide) rfl h8 h38 dX5_text_67 ?_
          obtain ⟨h43, h⟩ := h
          refine WP.callV (y := mX3_copyFrom) (As := [.ref i37]) (st := []) dX5_text_70 wm_X5_188 mw_X3_copyFrom rfl (Nat.le_of_ble_eq_true rfl) (rmok d) h43 (by decide) rfl h (fun v39 Sm40 h42 => ?_)
          obtain ⟨m40, rfl, rfl, h⟩ := h42
          show WP G _ _ _ 0 0 73 [(2, .int r18), (0, .ref b), (1, .int x1)] [] (sh, t20, m40)
          refine WP.iconst (v := 1) dX5_text_73 rfl ?_
          exact WP.iret dX5_text_74 rfl (Nat.le_refl _) (Nat.le_refl _) ⟨_, _, rfl, h⟩
        · have h := h.2 c29
          refine WP.bipush (v := (-10)) dX5_text_53 rfl ?_
          refine WP.iload_n 0 dX5_text_55 rfl rfl ?_
          refine WP.isub dX5_text_56 ?_
          exact WP.iret dX5_text_57 rfl (Nat.le_refl _) (Nat.le_refl _) ⟨_, _, rfl, h⟩
      · have h := h.2 c13
        refine WP.ldcMouc rfl dX5_text_27 ?_
        refine WP.goto (tgt := 34) dX5_text_29 (by decide) ?_
        refine WP.aload_n 0 dX5_text_34 rfl rfl ?_
        obtain ⟨i44, h45, h⟩ := h
        refine WP.getR 5 8 wf_X5_37 (by decide) (by decide) rfl h8 h45 dX5_text_35 ?_
        obtain ⟨h51, h⟩ := h
        refine WP.callV (y := mX1_read) (As := [.ref i11, .ref 1003, .ref i44]) (st := []) dX5_text_38 wm_X5_177 mw_X1_read rfl (Nat.le_of_ble_eq_true rfl) (rmok d) h51 (by decide) rfl h (fun v46 Sm47 h49 => ?_)
        obtain ⟨t50, m47, rfl, r48, rfl, h⟩ := h49
        show WP G _ _ _ 0 0 41 [(0, .ref b), (1, .int x1)] [.int r48] (sh, t50, m47)
        refine WP.istore_n (lv2 := [(2, .int r48), (0, .ref b), (1, .int x1)]) dX5_text_41 rfl (by decide) rfl ?_
        refine WP.aload_n 1 dX5_text_42 rfl rfl ?_
        obtain ⟨i52, h53, h⟩ := h
        refine WP.getR 5 3 wf_X5_14 (by decide) (by decide) rfl h8 h53 dX5_text_43 ?_
        obtain ⟨h58, h⟩ := h
        refine WP.callV (y := mX2_clear) (As := []) (st := []) dX5_text_46 wm_X5_181 mw_X2_clear rfl (Nat.le_of_ble_eq_true rfl) (rmok d) h58 (by decide) rfl h (fun v54 Sm55 h57 => ?_)
        obtain ⟨m55, rfl, rfl, h⟩ := h57
        show WP G _ _ _ 0 0 49 [(2, .int r48), (0, .ref b), (1, .int x1)] [] (sh, t50, m55)
        refine WP.iload_n 0 dX5_text_49 rfl rfl ?_
        refine WP.if_lt (tgt := 58) dX5_text_50 (by decide) (fun c59 => ?_) (fun c59 => ?_)
        · have h := h.1 c59
          refine WP.aload_n 1 dX5_text_58 rfl rfl ?_
          obtain ⟨i60, h61, h⟩ := h
          refine WP.getR 5 0 wf_X5_67 (by decide) (by decide) rfl h8 h61 dX5_text_59 ?_
          refine WP.iload_n 2 dX5_text_62 rfl rfl ?_
          obtain ⟨h66, h⟩ := h
          refine WP.callV (y := mX0_textFor) (As := [.int x1]) (st := []) dX5_text_63 wm_X5_184 mw_X0_textFor rfl (Nat.le_of_ble_eq_true rfl) (rmok d) h66 (by decide) rfl h (fun v62 Sm63 h65 => ?_)
          obtain ⟨m63, rfl, r64, rfl, h⟩ := h65
          show WP G _ _ _ 0 0 66 [(2, .int r48), (0, .ref b), (1, .int x1)] [.ref r64] (sh, t50, m63)
          refine WP.aload_n 1 dX5_text_66 rfl rfl ?_
          obtain ⟨i67, h68, h⟩ := h
          refine WP.getR 5 8 wf_X5_37 (by decide) (by decide) rfl h8 h68 dX5_text_67 ?_
          obtain ⟨h73, h⟩ := h
          refine WP.callV (y := mX3_copyFrom) (As := [.ref i67]) (st := []) dX5_text_70 wm_X5_188 mw_X3_copyFrom rfl (Nat.le_of_ble_eq_true rfl) (rmok d) h73 (by decide) rfl h (fun v69 Sm70 h72 => ?_)
          obtain ⟨m70, rfl, rfl, h⟩ := h72
          show WP G _ _ _ 0 0 73 [(2, .int r48), (0, .ref b), (1, .int x1)] [] (sh, t50, m70)
          refine WP.iconst (v := 1) dX5_text_73 rfl ?_
          exact WP.iret dX5_text_74 rfl (Nat.le_refl _) (Nat.le_refl _) ⟨_, _, rfl, h⟩
        · have h := h.2 c59
          refine WP.bipush (v := (-10)) dX5_text_53 rfl ?_
          refine WP.iload_n 0 dX5_text_55 rfl rfl ?_
          refine WP.isub dX5_text_56 ?_
          exact WP.iret dX5_text_57 rfl (Nat.le_refl _) (Nat.le_refl _) ⟨_, _, rfl, h⟩
    · have h := h.2 c7
      refine WP.aload_n 0 dX5_text_9 rfl rfl ?_
      refine WP.iconst (v := 1) dX5_text_10 rfl ?_
      obtain ⟨h78, h⟩ := h
      refine WP.callV (y := mX5_refuse) (As := [.int 1]) (st := []) dX5_text_11 wm_X5_87 mw_X5_refuse rfl (Nat.le_of_ble_eq_true rfl) (rmok d) h78 (by decide) rfl h (fun v74 Sm75 h77 => ?_)
      obtain ⟨m75, rfl, r76, rfl, h⟩ := h77
      show WP G _ _ _ 0 0 14 [(0, .ref b), (1, .int x1)] [.int r76] (sh, ta, m75)
      exact WP.iret dX5_text_14 rfl (Nat.le_refl _) (Nat.le_refl _) ⟨_, _, rfl, h⟩
set_option maxHeartbeats 4000000 in
set_option maxRecDepth 20000 in
theorem rg_X5_untell_0 (hG : fl G = false) (b : Nat) (x1 : Int32) (h : ((x1 < 0 → sh[b]? = some (.inl 5) ∧ Cal G mX5_refuse d [.ref b, .int 1] sh ta m (fun v2 m3 => ∃ r4, v2 = some (.int r4) ∧ K (some (.int r4)) m3)) ∧ (¬ x1 < 0 → ((x1 ≤ (1 : Int32) → sh[b]? = some (.inl 5) ∧ ∃ i9, ta b 0 = some i9 ∧ sh[i9]? = some (.inl 0) ∧ Cal G mX0_textFor d [.ref i9, .int x1] sh ta m (fun v11 m12 => ∃ r13, v11 = some (.ref r13) ∧ sh[r13]? = some (.inl 3) ∧ Cal G mX3_isThere d [.ref r13] sh ta m12 (fun v16 m17 => ∃ r18, v16 = some (.int r18) ∧ ((r18 = 0 → Cal G mX3_clear d [.ref r13] sh ta m17 (fun v22 m23 => v22 = none ∧ K (some (.int 0)) m23)) ∧ (¬ r18 = 0 → Cal G mX3_clear d [.ref r13] sh ta m17 (fun v26 m27 => v26 = none ∧ K (some (.int 1)) m27)))))) ∧ (¬ x1 ≤ (1 : Int32) → sh[b]? = some (.inl 5) ∧ Cal G mX5_refuse d [.ref b, .int 1] sh ta m (fun v30 m31 => ∃ r32, v30 = some (.int r32) ∧ K (some (.int r32)) m31)))))) : WP G (rmD (d + 1) 0 0) mX5_untell (QC G sh ta K) 0 0 0 [(0, .ref b), (1, .int x1)] [] (sh, ta, m) := by
  refine WP.iload_n 1 dX5_untell_0 rfl rfl ?_
  refine WP.if_lt (tgt := 9) dX5_untell_1 (by decide) (fun c1 => ?_) (fun c1 => ?_)
  · have h := h.1 c1
    refine WP.aload_n 0 dX5_untell_9 rfl rfl ?_
    refine WP.iconst (v := 1) dX5_untell_10 rfl ?_
    obtain ⟨h6, h⟩ := h
    refine WP.callV (y := mX5_refuse) (As := [.int 1]) (st := []) dX5_untell_11 wm_X5_87 mw_X5_refuse rfl (Nat.le_of_ble_eq_true rfl) (rmok d) h6 (by decide) rfl h (fun v2 Sm3 h5 => ?_)
    obtain ⟨m3, rfl, r4, rfl, h⟩ := h5
    show WP G _ _ _ 0 0 14 [(0, .ref b), (1, .int x1)] [.int r4] (sh, ta, m3)
    exact WP.iret dX5_untell_14 rfl (Nat.le_refl _) (Nat.le_refl _) ⟨_, rfl, h⟩
  · have h := h.2 c1
    refine WP.iload_n 1 dX5_untell_4 rfl rfl ?_
    refine WP.iconst (v := 1) dX5_untell_5 rfl ?_
    refine WP.icmp_le (tgt := 15) dX5_untell_6 (by decide) (fun c7 => ?_) (fun c7 => ?_)
    · have h := h.1 c7
      refine WP.aload_n 0 dX5_untell_15 rfl rfl ?_
      obtain ⟨h8, h⟩ := h
      obtain ⟨i9, h10, h⟩ := h
      refine WP.getR 5 0 wf_X5_67 (by decide) (by decide) rfl h8 h10 dX5_untell_16 ?_
      refine WP.iload_n 1 dX5_untell_19 rfl rfl ?_
      obtain ⟨h15, h⟩ := h
      refine WP.callV (y := mX0_textFor) (As := [.int x1]) (st := []) dX5_untell_20 wm_X5_184 mw_X0_textFor rfl (Nat.le_of_ble_eq_true rfl) (rmok d) h15 (by decide) rfl h (fun v11 Sm12 h14 => ?_)
      obtain ⟨m12, rfl, r13, rfl, h⟩ := h14
      show WP G _ _ _ 0 0 23 [(0, .ref b), (1, .int x1)] [.ref r13] (sh, ta, m12)
      refine WP.astore_n (lv2 := [(2, .ref r13), (0, .ref b), (1, .int x1)]) dX5_untell_23 rfl (by decide) rfl ?_
      refine WP.aload_n 0 dX5_untell_24 rfl rfl ?_
      obtain ⟨h20, h⟩ := h
      refine WP.callV (y := mX3_isThere) (As := []) (st := []) dX5_untell_25 wm_X5_192 mw_X3_isThere rfl (Nat.le_of_ble_eq_true rfl) (rmok d) h20 (by decide) rfl h (fun v16 Sm17 h19 => ?_)
      obtain ⟨m17, rfl, r18, rfl, h⟩ := h19
      show WP G _ _ _ 0 0 28 [(2, .ref r13), (0, .ref b), (1, .int x1)] [.int r18] (sh, ta, m17)
      refine WP.if_eq (tgt := 35) dX5_untell_28 (by decide) (fun c21 => ?_) (fun c21 => ?_)
      · have h := h.1 c21
        refine WP.iconst (v := 0) dX5_untell_35 rfl ?_
        refine WP.istore_n (lv2 := [(3, .int 0), (2, .ref r13), (0, .ref b), (1, .int x1)]) dX5_untell_36 rfl (by decide) rfl ?_
        refine WP.aload_n 1 dX5_untell_37 rfl rfl ?_
        refine WP.callV (y := mX3_clear) (As := []) (st := []) dX5_untell_38 wm_X5_196 mw_X3_clear rfl (Nat.le_of_ble_eq_true rfl) (rmok d) h20 (by decide) rfl h (fun v22 Sm23 h25 => ?_)
        obtain ⟨m23, rfl, rfl, h⟩ := h25
        show WP G _ _ _ 0 0 41 [(3, .int 0), (2, .ref r13), (0, .ref b), (1, .int x1)] [] (sh, ta, m23)
        refine WP.iload_n 0 dX5_untell_41 rfl rfl ?_
        exact WP.iret dX5_untell_42 rfl (Nat.le_refl _) (Nat.le_refl _) ⟨_, rfl, h⟩
      · have h := h.2 c21
        refine WP.iconst (v := 1) dX5_untell_31 rfl ?_
        refine WP.goto (tgt := 36) dX5_untell_32 (by decide) ?_
        refine WP.istore_n (lv2 := [(3, .int 1), (2, .ref r13), (0, .ref b), (1, .int x1)]) dX5_untell_36 rfl (by decide) rfl ?_
        refine WP.aload_n 1 dX5_untell_37 rfl rfl ?_
        refine WP.callV (y := mX3_clear) (As := []) (st := []) dX5_untell_38 wm_X5_196 mw_X3_clear rfl (Nat.le_of_ble_eq_true rfl) (rmok d) h20 (by decide) rfl h (fun v26 Sm27 h29 => ?_)
        obtain ⟨m27, rfl, rfl, h⟩ := h29
        show WP G _ _ _ 0 0 41 [(3, .int 1), (2, .ref r13), (0, .ref b), (1, .int x1)] [] (sh, ta, m27)
        refine WP.iload_n 0 dX5_untell_41 rfl rfl ?_
        exact WP.iret dX5_untell_42 rfl (Nat.le_refl _) (Nat.le_refl _) ⟨_, rfl, h⟩
    · have h := h.2 c7
      refine WP.aload_n 0 dX5_untell_9 rfl rfl ?_
      refine WP.iconst (v := 1) dX5_untell_10 rfl ?_
      obtain ⟨h34, h⟩ := h
      refine WP.callV (y := mX5_refuse) (As := [.int 1]) (st := []) dX5_untell_11 wm_X5_87 mw_X5_refuse rfl (Nat.le_of_ble_eq_true rfl) (rmok d) h34 (by decide) rfl h (fun v30 Sm31 h33 => ?_)
      obtain ⟨m31, rfl, r32, rfl, h⟩ := h33
      show WP G _ _ _ 0 0 14 [(0, .ref b), (1, .int x1)] [.int r32] (sh, ta, m31)
      exact WP.iret dX5_untell_14 rfl (Nat.le_refl _) (Nat.le_refl _) ⟨_, rfl, h⟩
set_option maxHeartbeats 4000000 in
set_option maxRecDepth 20000 in
theorem rg_X5_pull_0 (hG : fl G = false) (b : Nat) (x1 : Int32) (h : Cal G mX5_isPile d [.int x1] sh ta m (fun v1 m2 => ∃ r3, v1 = some (.int r3) ∧ ((¬ r3 = 0 → sh[b]? = some (.inl 5) ∧ ∃ i7, ta b 0 = some i7 ∧ sh[i7]? = some (.inl 0) ∧ Cal G mX0_grip d [.ref i7, .int x1] sh ta m2 (fun v9 m10 => ∃ r11, v9 = some (.int r11) ∧ ((¬ r11 = (2 : Int32) → K (some (.int ((-1)))) m10) ∧ (r11 = (2 : Int32) → K (some (.int (m10 i7 15))) m10)))) ∧ (r3 = 0 → sh[b]? = some (.inl 5) ∧ Cal G mX5_refuse d [.ref b, .int 1] sh ta m2 (fun v15 m16 => ∃ r17, v15 = some (.int r17) ∧ K (some (.int r17)) m16))))) : WP G (rmD (d + 1) 0 0) mX5_pull (QC G sh ta K) 0 0 0 [(0, .ref b), (1, .int x1)] [] (sh, ta, m) := by
  refine WP.iload_n 1 dX5_pull_0 rfl rfl ?_
  refine WP.callS (y := mX5_isPile) (As := [.int x1]) (st := []) dX5_pull_1 wm_X5_83 mw_X5_isPile rfl (Nat.le_of_ble_eq_true rfl) (rmok d) rfl h (fun v1 Sm2 h4 => ?_)
  obtain ⟨m2, rfl, r3, rfl, h⟩ := h4
  show WP G _ _ _ 0 0 4 [(0, .ref b), (1, .int x1)] [.int r3] (sh, ta, m2)
  refine WP.if_ne (tgt := 13) dX5_pull_4 (by decide) (fun c5 => ?_) (fun c5 => ?_)
  · have h := h.1 c5
    refine WP.aload_n 0 dX5_pull_13 rfl rfl ?_
    obtain ⟨h6, h⟩ := h
    obtain ⟨i7, h8, h⟩ := h
    refine WP.getR 5 0 wf_X5_67 (by decide) (by decide) rfl h6 h8 dX5_pull_14 ?_
    refine WP.iload_n 1 dX5_pull_17 rfl rfl ?_
    obtain ⟨h13, h⟩ := h
    refine WP.callV (y := mX0_grip) (As := [.int x1]) (st := []) dX5_pull_18 wm_X5_197 mw_X0_grip rfl (Nat.le_of_ble_eq_true rfl) (rmok d) h13 (by decide) rfl h (fun v9 Sm10 h12 => ?_)
    obtain ⟨m10, rfl, r11, rfl, h⟩ := h12
    show WP G _ _ _ 0 0 21 [(0, .ref b), (1, .int x1)] [.int r11] (sh, ta, m10)
    refine WP.iconst (v := 2) dX5_pull_21 rfl ?_
    refine WP.icmp_ne (tgt := 35) dX5_pull_22 (by decide) (fun c14 => ?_) (fun c14 => ?_)
    · have h := h.1 c14
      refine WP.iconst (v := (-1)) dX5_pull_35 rfl ?_
      exact WP.iret dX5_pull_36 rfl (Nat.le_refl _) (Nat.le_refl _) ⟨_, rfl, h⟩
    · have h := h.2 c14
      refine WP.aload_n 0 dX5_pull_25 rfl rfl ?_
      refine WP.getR 5 0 wf_X5_67 (by decide) (by decide) rfl h6 h8 dX5_pull_26 ?_
      refine WP.getIN 0 15 wf_X5_200 (by decide) (by decide) rfl h13 dX5_pull_29 ?_
      refine WP.goto (tgt := 36) dX5_pull_32 (by decide) ?_
      exact WP.iret dX5_pull_36 rfl (Nat.le_refl _) (Nat.le_refl _) ⟨_, rfl, h⟩
  · have h := h.2 c5
    refine WP.aload_n 0 dX5_pull_7 rfl rfl ?_
    refine WP.iconst (v := 1) dX5_pull_8 rfl ?_
    obtain ⟨h19, h⟩ := h
    refine WP.callV (y := mX5_refuse) (As := [.int 1]) (st := []) dX5_pull_9 wm_X5_87 mw_X5_refuse rfl (Nat.le_of_ble_eq_true rfl) (rmok d) h19 (by decide) rfl h (fun v15 Sm16 h18 => ?_)
    obtain ⟨m16, rfl, r17, rfl, h⟩ := h18
    show WP G _ _ _ 0 0 12 [(0, .ref b), (1, .int x1)] [.int r17] (sh, ta, m16)
    exact WP.iret dX5_pull_12 rfl (Nat.le_refl _) (Nat.le_refl _) ⟨_, rfl, h⟩
set_option maxHeartbeats 4000000 in
set_option maxRecDepth 20000 in
theorem rg_X5_pulls_0 (hG : fl G = false) (b : Nat) (x1 : Int32) (h : sh[b]? = some (.inl 5) ∧ Cal G mX5_lackOf d [.ref b, .int x1] sh ta m (fun v1 m2 => ∃ r3, v1 = some (.int r3) ∧ ((r3 = 0 → ∃ i7, ta b 10 = some i7 ∧ ∃ n10, sh[i7]? = some (.inr (1, n10)) ∧ InB x1 n10 ∧ ∃ i12, ta i7 (x1 : Int32).toNatClampNeg = some i12 ∧ Cal G mX5_pullsIn d [.ref i12] sh ta m2 (fun v14 m15 => ∃ r16, v14 = some (.int r16) ∧ WP G (rmD (d + 1) 0 0) mX5_pulls (QC G sh ta K) 0 0 32 [(0, .ref b), (3, .ref i12), (4, .int r16), (5, .int 0)] [] (sh, ta, m15))) ∧ (¬ r3 = 0 → Cal G mX5_refuse d [.ref b, .int r3] sh ta m2 (fun v18 m19 => ∃ r20, v18 = some (.int r20) ∧ K (some (.int r20)) m19))))) : WP G (rmD (d + 1) 0 0) mX5_pulls (QC G sh ta K) 0 0 0 [(0, .ref b), (1, .int x1)] [] (sh, ta, m) := by
  refine WP.aload_n 0 dX5_pulls_0 rfl rfl ?_
  refine WP.iload_n 1 dX5_pulls_1 rfl rfl ?_
  obtain ⟨h5, h⟩ := h
  refine WP.callV (y := mX5_lackOf) (As := [.int x1]) (st := []) dX5_pulls_2 wm_X5_203 mw_X5_lackOf rfl (Nat.le_of_ble_eq_true rfl) (rmok d) h5 (by decide) rfl h (fun v1 Sm2 h4 => ?_)
  obtain ⟨m2, rfl, r3, rfl, h⟩ := h4
  show WP G _ _ _ 0 0 5 [(0, .ref b), (1, .int x1)] [.int r3] (sh, ta, m2)
  refine WP.istore_n (lv2 := [(2, .int r3), (0, .ref b), (1, .int x1)]) dX5_pulls_5 rfl (by decide) rfl ?_
  refine WP.iload_n 0 dX5_pulls_6 rfl rfl ?_
  refine WP.if_eq (tgt := 16) dX5_pulls_7 (by decide) (fun c6 => ?_) (fun c6 => ?_)
  · have h := h.1 c6
    refine WP.aload_n 1 dX5_pulls_16 rfl rfl ?_
    obtain ⟨i7, h8, h⟩ := h
    refine WP.getR 5 10 wf_X5_48 (by decide) (by decide) rfl h5 h8 dX5_pulls_17 ?_
    refine WP.iload_n 2 dX5_pulls_20 rfl rfl ?_
    obtain ⟨n10, h9, h⟩ := h
    obtain ⟨h11, i12, h13, h⟩ := h
    refine WP.aald h9 h11 h13 dX5_pulls_21 ?_
    refine WP.astore_n (lv2 := [(3, .ref i12), (2, .int r3), (0, .ref b), (1, .int x1)]) dX5_pulls_22 rfl (by decide) rfl ?_
    refine WP.aload_n 0 dX5_pulls_23 rfl rfl ?_
    refine WP.callS (y := mX5_pullsIn) (As := [.ref i12]) (st := []) dX5_pulls_24 wm_X5_206 mw_X5_pullsIn rfl (Nat.le_of_ble_eq_true rfl) (rmok d) rfl h (fun v14 Sm15 h17 => ?_)
    obtain ⟨m15, rfl, r16, rfl, h⟩ := h17
    show WP G _ _ _ 0 0 27 [(3, .ref i12), (2, .int r3), (0, .ref b), (1, .int x1)] [.int r16] (sh, ta, m15)
    refine WP.istore (lv2 := [(4, .int r16), (3, .ref i12), (2, .int r3), (0, .ref b), (1, .int x1)]) dX5_pulls_27 (by decide) rfl ?_
    refine WP.iconst (v := 0) dX5_pulls_29 rfl ?_
    refine WP.istore (lv2 := [(5, .int 0), (4, .int r16), (3, .ref i12), (2, .int r3), (0, .ref b), (1, .int x1)]) dX5_pulls_30 (by decide) rfl ?_
    exact WP.pick [4, 2, 1, 0] rfl h
  · have h := h.2 c6
    refine WP.aload_n 1 dX5_pulls_10 rfl rfl ?_
    refine WP.iload_n 0 dX5_pulls_11 rfl rfl ?_
    refine WP.callV (y := mX5_refuse) (As := [.int r3]) (st := []) dX5_pulls_12 wm_X5_87 mw_X5_refuse rfl (Nat.le_of_ble_eq_true rfl) (rmok d) h5 (by decide) rfl h (fun v18 Sm19 h21 => ?_)
    obtain ⟨m19, rfl, r20, rfl, h⟩ := h21
    show WP G _ _ _ 0 0 15 [(2, .int r3), (0, .ref b), (1, .int x1)] [.int r20] (sh, ta, m19)
    exact WP.iret dX5_pulls_15 rfl (Nat.le_refl _) (Nat.le_refl _) ⟨_, rfl, h⟩
set_option maxHeartbeats 4000000 in
set_option maxRecDepth 20000 in
theorem rg_X5_pulls_32 (hG : fl G = false) (b : Nat) (b3 : Nat) (x4 : Int32) (x5 : Int32) (h : ((x4 ≤ x5 → K (some (.int x4)) m) ∧ (¬ x4 ≤ x5 → sh[b]? = some (.inl 5) ∧ ∃ i3, ta b 0 = some i3 ∧ sh[b3]? = some (.inl 2) ∧ Cal G mX2_at d [.ref b3, .int x5] sh ta m (fun v5 m6 => ∃ r7, v5 = some (.int r7) ∧ sh[i3]? = some (.inl 0) ∧ Cal G mX0_grip d [.ref i3, .int r7] sh ta m6 (fun v10 m11 => ∃ r12, v10 = some (.int r12) ∧ WP G (rmD (d + 1) 0 0) mX5_pulls (QC G sh ta K) 0 0 32 [(0, .ref b), (3, .ref b3), (4, .int x4), (5, .int (x5 + 1))] [] (sh, ta, m11)))))) : WP G (rmD (d + 1) 0 0) mX5_pulls (QC G sh ta K) 0 0 32 [(0, .ref b), (3, .ref b3), (4, .int x4), (5, .int x5)] [] (sh, ta, m) := by
  refine WP.iload 3 dX5_pulls_32 rfl ?_
  refine WP.iload 2 dX5_pulls_34 rfl ?_
  refine WP.icmp_ge (tgt := 59) dX5_pulls_36 (by decide) (fun c1 => ?_) (fun c1 => ?_)
  · have h := h.1 c1
    refine WP.iload 2 dX5_pulls_59 rfl ?_
    exact WP.iret dX5_pulls_61 rfl (Nat.le_refl _) (Nat.le_refl _) ⟨_, rfl, h⟩
  · have h := h.2 c1
    refine WP.aload_n 0 dX5_pulls_39 rfl rfl ?_
    obtain ⟨h2, h⟩ := h
    obtain ⟨i3, h4, h⟩ := h
    refine WP.getR 5 0 wf_X5_67 (by decide) (by decide) rfl h2 h4 dX5_pulls_40 ?_
    refine WP.aload_n 1 dX5_pulls_43 rfl rfl ?_
    refine WP.iload 3 dX5_pulls_44 rfl ?_
    obtain ⟨h9, h⟩ := h
    refine WP.callV (y := mX2_at) (As := [.int x5]) (st := [.ref i3]) dX5_pulls_46 wm_X5_210 mw_X2_at rfl (Nat.le_of_ble_eq_true rfl) (rmok d) h9 (by decide) rfl h (fun v5 Sm6 h8 => ?_)
    obtain ⟨m6, rfl, r7, rfl, h⟩ := h8
    show WP G _ _ _ 0 0 49 [(0, .ref b), (3, .ref b3), (4, .int x4), (5, .int x5)] [.int r7, .ref i3] (sh, ta, m6)
    obtain ⟨h14, h⟩ := h
    refine WP.callV (y := mX0_grip) (As := [.int r7]) (st := []) dX5_pulls_49 wm_X5_197 mw_X0_grip rfl (Nat.le_of_ble_eq_true rfl) (rmok d) h14 (by decide) rfl h (fun v10 Sm11 h13 => ?_)
    obtain ⟨m11, rfl, r12, rfl, h⟩ := h13
    show WP G _ _ _ 0 0 52 [(0, .ref b), (3, .ref b3), (4, .int x4), (5, .int x5)] [.int r12] (sh, ta, m11)
    refine WP.pop dX5_pulls_52 rfl ?_
    refine WP.iinc (lv2 := [(5, .int (x5 + 1)), (0, .ref b), (3, .ref b3), (4, .int x4)]) 3 1 dX5_pulls_53 rfl rfl (by decide) rfl ?_
    refine WP.goto (tgt := 32) dX5_pulls_56 (by decide) ?_
    exact WP.pick [1, 2, 3, 0] rfl h
set_option maxHeartbeats 4000000 in
set_option maxRecDepth 20000 in
theorem rg_X5_draws_0 (hG : fl G = false) (b : Nat) (x1 : Int32) (h : ((x1 < (1 : Int32) → sh[b]? = some (.inl 5) ∧ Cal G mX5_refuse d [.ref b, .int 1] sh ta m (fun v2 m3 => ∃ r4, v2 = some (.int r4) ∧ K (some (.int r4)) m3)) ∧ (¬ x1 < (1 : Int32) → ((x1 ≤ (60 : Int32) → WP G (rmD (d + 1) 0 0) mX5_draws (QC G sh ta K) 0 0 21 [(0, .ref b), (1, .int x1), (2, .int 0), (3, .int 0)] [] (sh, ta, m)) ∧ (¬ x1 ≤ (60 : Int32) → sh[b]? = some (.inl 5) ∧ Cal G mX5_refuse d [.ref b, .int 1] sh ta m (fun v8 m9 => ∃ r10, v8 = some (.int r10) ∧ K (some (.int r10)) m9)))))) : WP G (rmD (d + 1) 0 0) mX5_draws (QC G sh ta K) 0 0 0 [(0, .ref b), (1, .int x1)] [] (sh, ta, m) := by
  refine WP.iload_n 1 dX5_draws_0 rfl rfl ?_
  refine WP.iconst (v := 1) dX5_draws_1 rfl ?_
  refine WP.icmp_lt (tgt := 11) dX5_draws_2 (by decide) (fun c1 => ?_) (fun c1 => ?_)
  · have h := h.1 c1
    refine WP.aload_n 0 dX5_draws_11 rfl rfl ?_
    refine WP.iconst (v := 1) dX5_draws_12 rfl ?_
    obtain ⟨h6, h⟩ := h
    refine WP.callV (y := mX5_refuse) (As := [.int 1]) (st := []) dX5_draws_13 wm_X5_87 mw_X5_refuse rfl (Nat.le_of_ble_eq_true rfl) (rmok d) h6 (by decide) rfl h (fun v2 Sm3 h5 => ?_)
    obtain ⟨m3, rfl, r4, rfl, h⟩ := h5
    show WP G _ _ _ 0 0 16 [(0, .ref b), (1, .int x1)] [.int r4] (sh, ta, m3)
    exact WP.iret dX5_draws_16 rfl (Nat.le_refl _) (Nat.le_refl _) ⟨_, rfl, h⟩
  · have h := h.2 c1
    refine WP.iload_n 1 dX5_draws_5 rfl rfl ?_
    refine WP.bipush (v := 60) dX5_draws_6 rfl ?_
    refine WP.icmp_le (tgt := 17) dX5_draws_8 (by decide) (fun c7 => ?_) (fun c7 => ?_)
    · have h := h.1 c7
      refine WP.iconst (v := 0) dX5_draws_17 rfl ?_
      refine WP.istore_n (lv2 := [(2, .int 0), (0, .ref b), (1, .int x1)]) dX5_draws_18 rfl (by decide) rfl ?_
      refine WP.iconst (v := 0) dX5_draws_19 rfl ?_
      refine WP.istore_n (lv2 := [(3, .int 0), (2, .int 0), (0, .ref b), (1, .int x1)]) dX5_draws_20 rfl (by decide) rfl ?_
      exact WP.pick [2, 3, 1, 0] rfl h
    · have h := h.2 c7
      refine WP.aload_n 0 dX5_draws_11 rfl rfl ?_
      refine WP.iconst (v := 1) dX5_draws_12 rfl ?_
      obtain ⟨h12, h⟩ := h
      refine WP.callV (y := mX5_refuse) (As := [.int 1]) (st := []) dX5_draws_13 wm_X5_87 mw_X5_refuse rfl (Nat.le_of_ble_eq_true rfl) (rmok d) h12 (by decide) rfl h (fun v8 Sm9 h11 => ?_)
      obtain ⟨m9, rfl, r10, rfl, h⟩ := h11
      show WP G _ _ _ 0 0 16 [(0, .ref b), (1, .int x1)] [.int r10] (sh, ta, m9)
      exact WP.iret dX5_draws_16 rfl (Nat.le_refl _) (Nat.le_refl _) ⟨_, rfl, h⟩
set_option maxHeartbeats 4000000 in
set_option maxRecDepth 20000 in
theorem rg_X5_draws_21 (hG : fl G = false) (b : Nat) (x1 : Int32) (x2 : Int32) (x3 : Int32) (h : ((x1 ≤ x3 → K (some (.int x2)) m) ∧ (¬ x1 ≤ x3 → sh[b]? = some (.inl 5) ∧ ∃ i3, ta b 0 = some i3 ∧ sh[i3]? = some (.inl 0) ∧ Cal G mX0_draw d [.ref i3] sh ta m (fun v5 m6 => ∃ r7, v5 = some (.int r7) ∧ ¬ (15 : Int32) = 0 ∧ Cal G mX0_grip d [.ref i3, .int (1 + (r7 - r7 / 15 * 15))] sh ta m6 (fun v11 m12 => ∃ r13, v11 = some (.int r13) ∧ ((¬ r13 = (2 : Int32) → WP G (rmD (d + 1) 0 0) mX5_draws (QC G sh ta K) 0 0 21 [(0, .ref b), (1, .int x1), (2, .int x2), (3, .int (x3 + 1))] [] (sh, ta, m12)) ∧ (r13 = (2 : Int32) → WP G (rmD (d + 1) 0 0) mX5_draws (QC G sh ta K) 0 0 21 [(0, .ref b), (1, .int x1), (2, .int (x2 + 1)), (3, .int (x3 + 1))] [] (sh, ta, m12)))))))) : WP G (rmD (d + 1) 0 0) mX5_draws (QC G sh ta K) 0 0 21 [(0, .ref b), (1, .int x1), (2, .int x2), (3, .int x3)] [] (sh, ta, m) := by
  refine WP.iload_n 3 dX5_draws_21 rfl rfl ?_
  refine WP.iload_n 1 dX5_draws_22 rfl rfl ?_
  refine WP.icmp_ge (tgt := 58) dX5_draws_23 (by decide) (fun c1 => ?_) (fun c1 => ?_)
  · have h := h.1 c1
    refine WP.iload_n 2 dX5_draws_58 rfl rfl ?_
    exact WP.iret dX5_draws_59 rfl (Nat.le_refl _) (Nat.le_refl _) ⟨_, rfl, h⟩
  · have h := h.2 c1
    refine WP.aload_n 0 dX5_draws_26 rfl rfl ?_
    obtain ⟨h2, h⟩ := h
    obtain ⟨i3, h4, h⟩ := h
    refine WP.getR 5 0 wf_X5_67 (by decide) (by decide) rfl h2 h4 dX5_draws_27 ?_
    refine WP.iconst (v := 1) dX5_draws_30 rfl ?_
    refine WP.aload_n 0 dX5_draws_31 rfl rfl ?_
    refine WP.getR 5 0 wf_X5_67 (by decide) (by decide) rfl h2 h4 dX5_draws_32 ?_
    obtain ⟨h9, h⟩ := h
    refine WP.callV (y := mX0_draw) (As := []) (st := [.int 1, .ref i3]) dX5_draws_35 wm_X5_213 mw_X0_draw rfl (Nat.le_of_ble_eq_true rfl) (rmok d) h9 (by decide) rfl h (fun v5 Sm6 h8 => ?_)
    obtain ⟨m6, rfl, r7, rfl, h⟩ := h8
    show WP G _ _ _ 0 0 38 [(0, .ref b), (1, .int x1), (2, .int x2), (3, .int x3)] [.int r7, .int 1, .ref i3] (sh, ta, m6)
    refine WP.bipush (v := 15) dX5_draws_38 rfl ?_
    obtain ⟨h10, h⟩ := h
    refine WP.irem dX5_draws_40 h10 ?_
    refine WP.iadd dX5_draws_41 ?_
    refine WP.callV (y := mX0_grip) (As := [.int (1 + (r7 - r7 / 15 * 15))]) (st := []) dX5_draws_42 wm_X5_197 mw_X0_grip rfl (Nat.le_of_ble_eq_true rfl) (rmok d) h9 (by decide) rfl h (fun v11 Sm12 h14 => ?_)
    obtain ⟨m12, rfl, r13, rfl, h⟩ := h14
    show WP G _ _ _ 0 0 45 [(0, .ref b), (1, .int x1), (2, .int x2), (3, .int x3)] [.int r13] (sh, ta, m12)
    refine WP.iconst (v := 2) dX5_draws_45 rfl ?_
    refine WP.icmp_ne (tgt := 52) dX5_draws_46 (by decide) (fun c15 => ?_) (fun c15 => ?_)
    · have h := h.1 c15
      refine WP.iinc (lv2 := [(3, .int (x3 + 1)), (0, .ref b), (1, .int x1), (2, .int x2)]) 3 1 dX5_draws_52 rfl rfl (by decide) rfl ?_
      refine WP.goto (tgt := 21) dX5_draws_55 (by decide) ?_
      exact WP.pick [1, 2, 3, 0] rfl h
    · have h := h.2 c15
      refine WP.iinc (lv2 := [(2, .int (x2 + 1)), (0, .ref b), (1, .int x1), (3, .int x3)]) 2 1 dX5_draws_49 rfl rfl (by decide) rfl ?_
      refine WP.iinc (lv2 := [(3, .int (x3 + 1)), (2, .int (x2 + 1)), (0, .ref b), (1, .int x1)]) 3 1 dX5_draws_52 rfl rfl (by decide) rfl ?_
      refine WP.goto (tgt := 21) dX5_draws_55 (by decide) ?_
      exact WP.pick [2, 3, 1, 0] rfl h
set_option maxHeartbeats 4000000 in
set_option maxRecDepth 20000 in
theorem rg_X5_seed_0 (hG : fl G = false) (b : Nat) (x1 : Int32) (h : sh[b]? = some (.inl 5) ∧ ∃ i2, ta b 0 = some i2 ∧ sh[i2]? = some (.inl 0) ∧ ∀ m5, m5 = up2 m i2 14 x1 → K (some (.int (m i2 14))) m5) : WP G (rmD (d + 1) 0 0) mX5_seed (QC G sh ta K) 0 0 0 [(0, .ref b), (1, .int x1)] [] (sh, ta, m) := by
  refine WP.aload_n 0 dX5_seed_0 rfl rfl ?_
  obtain ⟨h1, h⟩ := h
  obtain ⟨i2, h3, h⟩ := h
  refine WP.getR 5 0 wf_X5_67 (by decide) (by decide) rfl h1 h3 dX5_seed_1 ?_
  obtain ⟨h4, h⟩ := h
  refine WP.getIN 0 14 wf_X5_217 (by decide) (by decide) rfl h4 dX5_seed_4 ?_
  refine WP.istore_n (lv2 := [(2, .int (m i2 14)), (0, .ref b), (1, .int x1)]) dX5_seed_7 rfl (by decide) rfl ?_
  refine WP.aload_n 1 dX5_seed_8 rfl rfl ?_
  refine WP.getR 5 0 wf_X5_67 (by decide) (by decide) rfl h1 h3 dX5_seed_9 ?_
  refine WP.iload_n 2 dX5_seed_12 rfl rfl ?_
  have h := h _ rfl
  refine WP.putIN 0 14 wf_X5_217 (by decide) (by decide) rfl h4 rfl hG rfl rfl dX5_seed_13 ?_
  generalize up2 m i2 14 x1 = m5 at h ⊢
  refine WP.iload_n 0 dX5_seed_16 rfl rfl ?_
  exact WP.iret dX5_seed_17 rfl (Nat.le_refl _) (Nat.le_refl _) ⟨_, rfl, h⟩
set_option maxHeartbeats 4000000 in
set_option maxRecDepth 20000 in
theorem rg_X5_fewest_0 (hG : fl G = false) (b : Nat) (x1 : Int32) (x2 : Int32) (x3 : Int32) (h : sh[b]? = some (.inl 5) ∧ ∃ i2, ta b 0 = some i2 ∧ sh[i2]? = some (.inl 0) ∧ Cal G mX0_has d [.ref i2, .int x1] sh ta m (fun v4 m5 => ∃ r6, v4 = some (.int r6) ∧ ((r6 = 0 → Cal G mX5_refuse d [.ref b, .int 1] sh ta m5 (fun v10 m11 => ∃ r12, v10 = some (.int r12) ∧ K (some (.int r12)) m11)) ∧ (¬ r6 = 0 → Cal G mX5_isAhead d [.int x2] sh ta m5 (fun v14 m15 => ∃ r16, v14 = some (.int r16) ∧ ((r16 = 0 → Cal G mX5_refuse d [.ref b, .int 1] sh ta m15 (fun v19 m20 => ∃ r21, v19 = some (.int r21) ∧ K (some (.int r21)) m20)) ∧ (¬ r16 = 0 → ((x3 < ((-1) : Int32) → Cal G mX5_refuse d [.ref b, .int 1] sh ta m15 (fun v24 m25 => ∃ r26, v24 = some (.int r26) ∧ K (some (.int r26)) m25)) ∧ (¬ x3 < ((-1) : Int32) → ((x3 < (3 : Int32) → Cal G mX0_cellOf d [.ref i2, .int x1] sh ta m15 (fun v29 m30 => ∃ r31, v29 = some (.int r31) ∧ ((0 ≤ r31 → ∃ i34, ta b 2 = some i34 ∧ sh[i34]? = some (.inl 0) ∧ Cal G mX0_copyFrom d [.ref i34, .ref i2] sh ta m30 (fun v36 m37 => v36 = none ∧ WP G (rmD (d + 1) 0 0) mX5_fewest (QC G sh ta K) 0 0 68 [(0, .ref b), (1, .int x1), (2, .int x2), (3, .int x3), (4, .int 0), (5, .int 1)] [] (sh, ta, m37))) ∧ (¬ 0 ≤ r31 → Cal G mX5_refuse d [.ref b, .int 3] sh ta m30 (fun v41 m42 => ∃ r43, v41 = some (.int r43) ∧ K (some (.int r43)) m42))))) ∧ (¬ x3 < (3 : Int32) → Cal G mX5_refuse d [.ref b, .int 1] sh ta m15 (fun v45 m46 => ∃ r47, v45 = some (.int r47) ∧ K (some (.int r47)) m46)))))))))))) : WP G (rmD (d + 1) 0 0) mX5_fewest (QC G sh ta K) 0 0 0 [(0, .ref b), (1, .int x1), (2, .int x2), (3, .int x3)] [] (sh, ta, m) := by
  refine WP.aload_n 0 dX5_fewest_0 rfl rfl ?_
  obtain ⟨h1, h⟩ := h
  obtain ⟨i2, h3, h⟩ := h
  refine WP.getR 5 0 wf_X5_67 (by decide) (by decide) rfl h1 h3 dX5_fewest_1 ?_
  refine WP.iload_n 1 dX5_fewest_4 rfl rfl ?_
  obtain ⟨h8, h⟩ := h
  refine WP.callV (y := mX0_has) (As := [.int x1]) (st := []) dX5_fewest_5 wm_X5_102 mw_X0_has rfl (Nat.le_of_ble_eq_true rfl) (rmok d) h8 (by decide) rfl h (fun v4 Sm5 h7 => ?_)
  obtain ⟨m5, rfl, r6, rfl, h⟩ := h7
  show WP G _ _ _ 0 0 8 [(0, .ref b), (1, .int x1), (2, .int x2), (3, .int x3)] [.int r6] (sh, ta, m5)
  refine WP.if_eq (tgt := 28) dX5_fewest_8 (by decide) (fun c9 => ?_) (fun c9 => ?_)
  · have h := h.1 c9
    refine WP.aload_n 0 dX5_fewest_28 rfl rfl ?_
    refine WP.iconst (v := 1) dX5_fewest_29 rfl ?_
    refine WP.callV (y := mX5_refuse) (As := [.int 1]) (st := []) dX5_fewest_30 wm_X5_87 mw_X5_refuse rfl (Nat.le_of_ble_eq_true rfl) (rmok d) h1 (by decide) rfl h (fun v10 Sm11 h13 => ?_)
    obtain ⟨m11, rfl, r12, rfl, h⟩ := h13
    show WP G _ _ _ 0 0 33 [(0, .ref b), (1, .int x1), (2, .int x2), (3, .int x3)] [.int r12] (sh, ta, m11)
    exact WP.iret dX5_fewest_33 rfl (Nat.le_refl _) (Nat.le_refl _) ⟨_, rfl, h⟩
  · have h := h.2 c9
    refine WP.iload_n 2 dX5_fewest_11 rfl rfl ?_
    refine WP.callS (y := mX5_isAhead) (As := [.int x2]) (st := []) dX5_fewest_12 wm_X5_220 mw_X5_isAhead rfl (Nat.le_of_ble_eq_true rfl) (rmok d) rfl h (fun v14 Sm15 h17 => ?_)
    obtain ⟨m15, rfl, r16, rfl, h⟩ := h17
    show WP G _ _ _ 0 0 15 [(0, .ref b), (1, .int x1), (2, .int x2), (3, .int x3)] [.int r16] (sh, ta, m15)
    refine WP.if_eq (tgt := 28) dX5_fewest_15 (by decide) (fun c18 => ?_) (fun c18 => ?_)
    · have h := h.1 c18
      refine WP.aload_n 0 dX5_fewest_28 rfl rfl ?_
      refine WP.iconst (v := 1) dX5_fewest_29 rfl ?_
      refine WP.callV (y := mX5_refuse) (As := [.int 1]) (st := []) dX5_fewest_30 wm_X5_87 mw_X5_refuse rfl (Nat.le_of_ble_eq_true rfl) (rmok d) h1 (by decide) rfl h (fun v19 Sm20 h22 => ?_)
      obtain ⟨m20, rfl, r21, rfl, h⟩ := h22
      show WP G _ _ _ 0 0 33 [(0, .ref b), (1, .int x1), (2, .int x2), (3, .int x3)] [.int r21] (sh, ta, m20)
      exact WP.iret dX5_fewest_33 rfl (Nat.le_refl _) (Nat.le_refl _) ⟨_, rfl, h⟩
    · have h := h.2 c18
      refine WP.iload_n 3 dX5_fewest_18 rfl rfl ?_
      refine WP.iconst (v := (-1)) dX5_fewest_19 rfl ?_
      refine WP.icmp_lt (tgt := 28) dX5_fewest_20 (by decide) (fun c23 => ?_) (fun c23 => ?_)
      · have h := h.1 c23
        refine WP.aload_n 0 dX5_fewest_28 rfl rfl ?_
        refine WP.iconst (v := 1) dX5_fewest_29 rfl ?_
        refine WP.callV (y := mX5_refuse) (As := [.int 1]) (st := []) dX5_fewest_30 wm_X5_87 mw_X5_refuse rfl (Nat.le_of_ble_eq_true rfl) (rmok d) h1 (by decide) rfl h (fun v24 Sm25 h27 => ?_)
        obtain ⟨m25, rfl, r26, rfl, h⟩ := h27
        show WP G _ _ _ 0 0 33 [(0, .ref b), (1, .int x1), (2, .int x2), (3, .int x3)] [.int r26] (sh, ta, m25)
        exact WP.iret dX5_fewest_33 rfl (Nat.le_refl _) (Nat.le_refl _) ⟨_, rfl, h⟩
      · have h := h.2 c23
        refine WP.iload_n 3 dX5_fewest_23 rfl rfl ?_
        refine WP.iconst (v := 3) dX5_fewest_24 rfl ?_
        refine WP.icmp_lt (tgt := 34) dX5_fewest_25 (by decide) (fun c28 => ?_) (fun c28 => ?_)
        · have h := h.1 c28
          refine WP.aload_n 0 dX5_fewest_34 rfl rfl ?_
          refine WP.getR 5 0 wf_X5_67 (by decide) (by decide) rfl h1 h3 dX5_fewest_35 ?_
          refine WP.iload_n 1 dX5_fewest_38 rfl rfl ?_
          refine WP.callV (y := mX0_cellOf) (As := [.int x1]) (st := []) dX5_fewest_39 wm_X5_114 mw_X0_cellOf rfl (Nat.le_of_ble_eq_true rfl) (rmok d) h8 (by decide) rfl h (fun v29 Sm30 h32 => ?_)
          obtain ⟨m30, rfl, r31, rfl, h⟩ := h32
          show WP G _ _ _ 0 0 42 [(0, .ref b), (1, .int x1), (2, .int x2), (3, .int x3)] [.int r31] (sh, ta, m30)
          refine WP.if_ge (tgt := 51) dX5_fewest_42 (by decide) (fun c33 => ?_) (fun c33 => ?_)
          · have h := h.1 c33
            refine WP.aload_n 0 dX5_fewest_51 rfl rfl ?_
            obtain ⟨i34, h35, h⟩ := h
            refine WP.getR 5 2 wf_X5_80 (by decide) (by decide) rfl h1 h35 dX5_fewest_52 ?_
            refine WP.aload_n 0 dX5_fewest_55 rfl rfl ?_
            refine WP.getR 5 0 wf_X5_67 (by decide) (by decide) rfl h1 h3 dX5_fewest_56 ?_
            obtain ⟨h40, h⟩ := h
            refine WP.callV (y := mX0_copyFrom) (As := [.ref i2]) (st := []) dX5_fewest_59 wm_X5_223 mw_X0_copyFrom rfl (Nat.le_of_ble_eq_true rfl) (rmok d) h40 (by decide) rfl h (fun v36 Sm37 h39 => ?_)
            obtain ⟨m37, rfl, rfl, h⟩ := h39
            show WP G _ _ _ 0 0 62 [(0, .ref b), (1, .int x1), (2, .int x2), (3, .int x3)] [] (sh, ta, m37)
            refine WP.iconst (v := 0) dX5_fewest_62 rfl ?_
            refine WP.istore (lv2 := [(4, .int 0), (0, .ref b), (1, .int x1), (2, .int x2), (3, .int x3)]) dX5_fewest_63 (by decide) rfl ?_
            refine WP.iconst (v := 1) dX5_fewest_65 rfl ?_
            refine WP.istore (lv2 := [(5, .int 1), (4, .int 0), (0, .ref b), (1, .int x1), (2, .int x2), (3, .int x3)]) dX5_fewest_66 (by decide) rfl ?_
            exact WP.pick [2, 3, 4, 5, 1, 0] rfl h
          · have h := h.2 c33
            refine WP.aload_n 0 dX5_fewest_45 rfl rfl ?_
            refine WP.iconst (v := 3) dX5_fewest_46 rfl ?_
            refine WP.callV (y := mX5_refuse) (As := [.int 3]) (st := []) dX5_fewest_47 wm_X5_87 mw_X5_refuse rfl (Nat.le_of_ble_eq_true rfl) (rmok d) h1 (by decide) rfl h (fun v41 Sm42 h44 => ?_)
            obtain ⟨m42, rfl, r43, rfl, h⟩ := h44
            show WP G _ _ _ 0 0 50 [(0, .ref b), (1, .int x1), (2, .int x2), (3, .int x3)] [.int r43] (sh, ta, m42)
            exact WP.iret dX5_fewest_50 rfl (Nat.le_refl _) (Nat.le_refl _) ⟨_, rfl, h⟩
        · have h := h.2 c28
          refine WP.aload_n 0 dX5_fewest_28 rfl rfl ?_
          refine WP.iconst (v := 1) dX5_fewest_29 rfl ?_
          refine WP.callV (y := mX5_refuse) (As := [.int 1]) (st := []) dX5_fewest_30 wm_X5_87 mw_X5_refuse rfl (Nat.le_of_ble_eq_true rfl) (rmok d) h1 (by decide) rfl h (fun v45 Sm46 h48 => ?_)
          obtain ⟨m46, rfl, r47, rfl, h⟩ := h48
          show WP G _ _ _ 0 0 33 [(0, .ref b), (1, .int x1), (2, .int x2), (3, .int x3)] [.int r47] (sh, ta, m46)
          exact WP.iret dX5_fewest_33 rfl (Nat.le_refl _) (Nat.le_refl _) ⟨_, rfl, h⟩
set_option maxHeartbeats 4000000 in
set_option maxRecDepth 20000 in
theorem rg_X5_fewest_68 (hG : fl G = false) (b : Nat) (x1 : Int32) (x2 : Int32) (x3 : Int32) (x4 : Int32) (x5 : Int32) (h : ((x2 < x5 → ((x4 = 0 → sh[b]? = some (.inl 5) ∧ Cal G mX5_refuse d [.ref b, .int 2] sh ta m (fun v3 m4 => ∃ r5, v3 = some (.int r5) ∧ K (some (.int r5)) m4)) ∧ (¬ x4 = 0 → ((x3 < x4 → ((0 ≤ x3 → sh[b]? = some (.inl 5) ∧ ∃ i11, ta b 12 = some i11 ∧ ∃ n14, sh[i11]? = some (.inr (0, n14)) ∧ InB x3 n14 ∧ K (some (.int (rd (m i11) x3))) m) ∧ (¬ 0 ≤ x3 → K (some (.int x4)) m))) ∧ (¬ x3 < x4 → sh[b]? = some (.inl 5) ∧ Cal G mX5_refuse d [.ref b, .int 2] sh ta m (fun v16 m17 => ∃ r18, v16 = some (.int r18) ∧ K (some (.int r18)) m17)))))) ∧ (¬ x2 < x5 → ((¬ x4 = 0 → ((x4 = 0 → sh[b]? = some (.inl 5) ∧ Cal G mX5_refuse d [.ref b, .int 2] sh ta m (fun v23 m24 => ∃ r25, v23 = some (.int r25) ∧ K (some (.int r25)) m24)) ∧ (¬ x4 = 0 → ((x3 < x4 → ((0 ≤ x3 → sh[b]? = some (.inl 5) ∧ ∃ i31, ta b 12 = some i31 ∧ ∃ n34, sh[i31]? = some (.inr (0, n34)) ∧ InB x3 n34 ∧ K (some (.int (rd (m i31) x3))) m) ∧ (¬ 0 ≤ x3 → K (some (.int x4)) m))) ∧ (¬ x3 < x4 → sh[b]? = some (.inl 5) ∧ Cal G mX5_refuse d [.ref b, .int 2] sh ta m (fun v36 m37 => ∃ r38, v36 = some (.int r38) ∧ K (some (.int r38)) m37)))))) ∧ (x4 = 0 → sh[b]? = some (.inl 5) ∧ ∃ i42, ta b 2 = some i42 ∧ ∃ i44, ta b 12 = some i44 ∧ Cal G mX5_leadsToWin d [.ref i42, .int x1, .ref i44, .int 0, .int x5] sh ta m (fun v46 m47 => ∃ r48, v46 = some (.int r48) ∧ ((r48 = 0 → WP G (rmD (d + 1) 0 0) mX5_fewest (QC G sh ta K) 0 0 68 [(0, .ref b), (1, .int x1), (2, .int x2), (3, .int x3), (4, .int 0), (5, .int (x5 + 1))] [] (sh, ta, m47)) ∧ (¬ r48 = 0 → WP G (rmD (d + 1) 0 0) mX5_fewest (QC G sh ta K) 0 0 68 [(0, .ref b), (1, .int x1), (2, .int x2), (3, .int x3), (4, .int x5), (5, .int (x5 + 1))] [] (sh, ta, m47))))))))) : WP G (rmD (d + 1) 0 0) mX5_fewest (QC G sh ta K) 0 0 68 [(0, .ref b), (1, .int x1), (2, .int x2), (3, .int x3), (4, .int x4), (5, .int x5)] [] (sh, ta, m) := by
  refine WP.iload 5 dX5_fewest_68 rfl ?_
  refine WP.iload_n 2 dX5_fewest_70 rfl rfl ?_
  refine WP.icmp_gt (tgt := 111) dX5_fewest_71 (by decide) (fun c1 => ?_) (fun c1 => ?_)
  · have h := h.1 c1
    refine WP.iload 4 dX5_fewest_111 rfl ?_
    refine WP.if_eq (tgt := 122) dX5_fewest_113 (by decide) (fun c2 => ?_) (fun c2 => ?_)
    · have h := h.1 c2
      refine WP.aload_n 0 dX5_fewest_122 rfl rfl ?_
      refine WP.iconst (v := 2) dX5_fewest_123 rfl ?_
      obtain ⟨h7, h⟩ := h
      refine WP.callV (y := mX5_refuse) (As := [.int 2]) (st := []) dX5_fewest_124 wm_X5_87 mw_X5_refuse rfl (Nat.le_of_ble_eq_true rfl) (rmok d) h7 (by decide) rfl h (fun v3 Sm4 h6 => ?_)
      obtain ⟨m4, rfl, r5, rfl, h⟩ := h6
      show WP G _ _ _ 0 0 127 [(0, .ref b), (1, .int x1), (2, .int x2), (3, .int x3), (4, .int x4), (5, .int x5)] [.int r5] (sh, ta, m4)
      exact WP.iret dX5_fewest_127 rfl (Nat.le_refl _) (Nat.le_refl _) ⟨_, rfl, h⟩
    · have h := h.2 c2
      refine WP.iload_n 3 dX5_fewest_116 rfl rfl ?_
      refine WP.iload 4 dX5_fewest_117 rfl ?_
      refine WP.icmp_lt (tgt := 128) dX5_fewest_119 (by decide) (fun c8 => ?_) (fun c8 => ?_)
      · have h := h.1 c8
        refine WP.iload_n 3 dX5_fewest_128 rfl rfl ?_
        refine WP.if_ge (tgt := 137) dX5_fewest_129 (by decide) (fun c9 => ?_) (fun c9 => ?_)
        · have h := h.1 c9
          refine WP.aload_n 0 dX5_fewest_137 rfl rfl ?_
          obtain ⟨h10, h⟩ := h
          obtain ⟨i11, h12, h⟩ := h
          refine WP.getR 5 12 wf_X5_56 (by decide) (by decide) rfl h10 h12 dX5_fewest_138 ?_
          refine WP.iload_n 3 dX5_fewest_141 rfl rfl ?_
          obtain ⟨n14, h13, h⟩ := h
          obtain ⟨h15, h⟩ := h
          refine WP.iald h13 h15 dX5_fewest_142 ?_
          exact WP.iret dX5_fewest_143 rfl (Nat.le_refl _) (Nat.le_refl _) ⟨_, rfl, h⟩
        · have h := h.2 c9
          refine WP.iload 4 dX5_fewest_132 rfl ?_
          refine WP.goto (tgt := 143) dX5_fewest_134 (by decide) ?_
          exact WP.iret dX5_fewest_143 rfl (Nat.le_refl _) (Nat.le_refl _) ⟨_, rfl, h⟩
      · have h := h.2 c8
        refine WP.aload_n 0 dX5_fewest_122 rfl rfl ?_
        refine WP.iconst (v := 2) dX5_fewest_123 rfl ?_
        obtain ⟨h20, h⟩ := h
        refine WP.callV (y := mX5_refuse) (As := [.int 2]) (st := []) dX5_fewest_124 wm_X5_87 mw_X5_refuse rfl (Nat.le_of_ble_eq_true rfl) (rmok d) h20 (by decide) rfl h (fun v16 Sm17 h19 => ?_)
        obtain ⟨m17, rfl, r18, rfl, h⟩ := h19
        show WP G _ _ _ 0 0 127 [(0, .ref b), (1, .int x1), (2, .int x2), (3, .int x3), (4, .int x4), (5, .int x5)] [.int r18] (sh, ta, m17)
        exact WP.iret dX5_fewest_127 rfl (Nat.le_refl _) (Nat.le_refl _) ⟨_, rfl, h⟩
  · have h := h.2 c1
    refine WP.iload 4 dX5_fewest_74 rfl ?_
    refine WP.if_ne (tgt := 111) dX5_fewest_76 (by decide) (fun c21 => ?_) (fun c21 => ?_)
    · have h := h.1 c21
      refine WP.iload 4 dX5_fewest_111 rfl ?_
      refine WP.if_eq (tgt := 122) dX5_fewest_113 (by decide) (fun c22 => ?_) (fun c22 => ?_)
      · have h := h.1 c22
        refine WP.aload_n 0 dX5_fewest_122 rfl rfl ?_
        refine WP.iconst (v := 2) dX5_fewest_123 rfl ?_
        obtain ⟨h27, h⟩ := h
        refine WP.callV (y := mX5_refuse) (As := [.int 2]) (st := []) dX5_fewest_124 wm_X5_87 mw_X5_refuse rfl (Nat.le_of_ble_eq_true rfl) (rmok d) h27 (by decide) rfl h (fun v23 Sm24 h26 => ?_)
        obtain ⟨m24, rfl, r25, rfl, h⟩ := h26
        show WP G _ _ _ 0 0 127 [(0, .ref b), (1, .int x1), (2, .int x2), (3, .int x3), (4, .int x4), (5, .int x5)] [.int r25] (sh, ta, m24)
        exact WP.iret dX5_fewest_127 rfl (Nat.le_refl _) (Nat.le_refl _) ⟨_, rfl, h⟩
      · have h := h.2 c22
        refine WP.iload_n 3 dX5_fewest_116 rfl rfl ?_
        refine WP.iload 4 dX5_fewest_117 rfl ?_
        refine WP.icmp_lt (tgt := 128) dX5_fewest_119 (by decide) (fun c28 => ?_) (fun c28 => ?_)
        · have h := h.1 c28
          refine WP.iload_n 3 dX5_fewest_128 rfl rfl ?_
          refine WP.if_ge (tgt := 137) dX5_fewest_129 (by decide) (fun c29 => ?_) (fun c29 => ?_)
          · have h := h.1 c29
            refine WP.aload_n 0 dX5_fewest_137 rfl rfl ?_
            obtain ⟨h30, h⟩ := h
            obtain ⟨i31, h32, h⟩ := h
            refine WP.getR 5 12 wf_X5_56 (by decide) (by decide) rfl h30 h32 dX5_fewest_138 ?_
            refine WP.iload_n 3 dX5_fewest_141 rfl rfl ?_
            obtain ⟨n34, h33, h⟩ := h
            obtain ⟨h35, h⟩ := h
            refine WP.iald h33 h35 dX5_fewest_142 ?_
            exact WP.iret dX5_fewest_143 rfl (Nat.le_refl _) (Nat.le_refl _) ⟨_, rfl, h⟩
          · have h := h.2 c29
            refine WP.iload 4 dX5_fewest_132 rfl ?_
            refine WP.goto (tgt := 143) dX5_fewest_134 (by decide) ?_
            exact WP.iret dX5_fewest_143 rfl (Nat.le_refl _) (Nat.le_refl _) ⟨_, rfl, h⟩
        · have h := h.2 c28
          refine WP.aload_n 0 dX5_fewest_122 rfl rfl ?_
          refine WP.iconst (v := 2) dX5_fewest_123 rfl ?_
          obtain ⟨h40, h⟩ := h
          refine WP.callV (y := mX5_refuse) (As := [.int 2]) (st := []) dX5_fewest_124 wm_X5_87 mw_X5_refuse rfl (Nat.le_of_ble_eq_true rfl) (rmok d) h40 (by decide) rfl h (fun v36 Sm37 h39 => ?_)
          obtain ⟨m37, rfl, r38, rfl, h⟩ := h39
          show WP G _ _ _ 0 0 127 [(0, .ref b), (1, .int x1), (2, .int x2), (3, .int x3), (4, .int x4), (5, .int x5)] [.int r38] (sh, ta, m37)
          exact WP.iret dX5_fewest_127 rfl (Nat.le_refl _) (Nat.le_refl _) ⟨_, rfl, h⟩
    · have h := h.2 c21
      refine WP.aload_n 0 dX5_fewest_79 rfl rfl ?_
      obtain ⟨h41, h⟩ := h
      obtain ⟨i42, h43, h⟩ := h
      refine WP.getR 5 2 wf_X5_80 (by decide) (by decide) rfl h41 h43 dX5_fewest_80 ?_
      refine WP.iload_n 1 dX5_fewest_83 rfl rfl ?_
      refine WP.aload_n 0 dX5_fewest_84 rfl rfl ?_
      obtain ⟨i44, h45, h⟩ := h
      refine WP.getR 5 12 wf_X5_56 (by decide) (by decide) rfl h41 h45 dX5_fewest_85 ?_
      refine WP.iconst (v := 0) dX5_fewest_88 rfl ?_
      refine WP.iload 5 dX5_fewest_89 rfl ?_
      refine WP.callS (y := mX5_leadsToWin) (As := [.ref i42, .int x1, .ref i44, .int 0, .int x5]) (st := []) dX5_fewest_91 wm_X5_226 mw_X5_leadsToWin rfl (Nat.le_of_ble_eq_true rfl) (rmok d) rfl h (fun v46 Sm47 h49 => ?_)
      obtain ⟨m47, rfl, r48, rfl, h⟩ := h49
      show WP G _ _ _ 0 0 94 [(0, .ref b), (1, .int x1), (2, .int x2), (3, .int x3), (4, .int x4), (5, .int x5)] [.int r48] (sh, ta, m47)
      refine WP.if_eq (tgt := 102) dX5_fewest_94 (by decide) (fun c50 => ?_) (fun c50 => ?_)
      · have h := h.1 c50
        refine WP.iconst (v := 0) dX5_fewest_102 rfl ?_
        refine WP.istore (lv2 := [(4, .int 0), (0, .ref b), (1, .int x1), (2, .int x2), (3, .int x3), (5, .int x5)]) dX5_fewest_103 (by decide) rfl ?_
        refine WP.iinc (lv2 := [(5, .int (x5 + 1)), (4, .int 0), (0, .ref b), (1, .int x1), (2, .int x2), (3, .int x3)]) 5 1 dX5_fewest_105 rfl rfl (by decide) rfl ?_
        refine WP.goto (tgt := 68) dX5_fewest_108 (by decide) ?_
        exact WP.pick [2, 3, 4, 5, 1, 0] rfl h
      · have h := h.2 c50
        refine WP.iload 5 dX5_fewest_97 rfl ?_
        refine WP.goto (tgt := 103) dX5_fewest_99 (by decide) ?_
        refine WP.istore (lv2 := [(4, .int x5), (0, .ref b), (1, .int x1), (2, .int x2), (3, .int x3), (5, .int x5)]) dX5_fewest_103 (by decide) rfl ?_
        refine WP.iinc (lv2 := [(5, .int (x5 + 1)), (4, .int x5), (0, .ref b), (1, .int x1), (2, .int x2), (3, .int x3)]) 5 1 dX5_fewest_105 rfl rfl (by decide) rfl ?_
        refine WP.goto (tgt := 68) dX5_fewest_108 (by decide) ?_
        exact WP.pick [2, 3, 4, 5, 1, 0] rfl h
set_option maxHeartbeats 4000000 in
set_option maxRecDepth 20000 in
theorem rg_X5_game_0 (hG : fl G = false) (b : Nat) (x1 : Int32) (x2 : Int32) (h : Cal G mX5_isAhead d [.int x1] sh ta m (fun v1 m2 => ∃ r3, v1 = some (.int r3) ∧ ((r3 = 0 → sh[b]? = some (.inl 5) ∧ Cal G mX5_refuse d [.ref b, .int 1] sh ta m2 (fun v6 m7 => ∃ r8, v6 = some (.int r8) ∧ K (some (.int r8)) m7)) ∧ (¬ r3 = 0 → ((x2 < 0 → sh[b]? = some (.inl 5) ∧ Cal G mX5_refuse d [.ref b, .int 1] sh ta m2 (fun v12 m13 => ∃ r14, v12 = some (.int r14) ∧ K (some (.int r14)) m13)) ∧ (¬ x2 < 0 → ((x2 ≤ (1 : Int32) → sh[b]? = some (.inl 5) ∧ ∃ i19, ta b 2 = some i19 ∧ ∃ i21, ta b 0 = some i21 ∧ sh[i19]? = some (.inl 0) ∧ Cal G mX0_copyFrom d [.ref i19, .ref i21] sh ta m2 (fun v23 m24 => v23 = none ∧ WP G (rmD (d + 1) 0 0) mX5_game (QC G sh ta K) 0 0 41 [(0, .ref b), (1, .int x1), (2, .int x2), (3, .int 0), (4, .int 0), (5, .int 1)] [] (sh, ta, m24))) ∧ (¬ x2 ≤ (1 : Int32) → sh[b]? = some (.inl 5) ∧ Cal G mX5_refuse d [.ref b, .int 1] sh ta m2 (fun v28 m29 => ∃ r30, v28 = some (.int r30) ∧ K (some (.int r30)) m29))))))))) : WP G (rmD (d + 1) 0 0) mX5_game (QC G sh ta K) 0 0 0 [(0, .ref b), (1, .int x1), (2, .int x2)] [] (sh, ta, m) := by
  refine WP.iload_n 1 dX5_game_0 rfl rfl ?_
  refine WP.callS (y := mX5_isAhead) (As := [.int x1]) (st := []) dX5_game_1 wm_X5_220 mw_X5_isAhead rfl (Nat.le_of_ble_eq_true rfl) (rmok d) rfl h (fun v1 Sm2 h4 => ?_)
  obtain ⟨m2, rfl, r3, rfl, h⟩ := h4
  show WP G _ _ _ 0 0 4 [(0, .ref b), (1, .int x1), (2, .int x2)] [.int r3] (sh, ta, m2)
  refine WP.if_eq (tgt := 16) dX5_game_4 (by decide) (fun c5 => ?_) (fun c5 => ?_)
  · have h := h.1 c5
    refine WP.aload_n 0 dX5_game_16 rfl rfl ?_
    refine WP.iconst (v := 1) dX5_game_17 rfl ?_
    obtain ⟨h10, h⟩ := h
    refine WP.callV (y := mX5_refuse) (As := [.int 1]) (st := []) dX5_game_18 wm_X5_87 mw_X5_refuse rfl (Nat.le_of_ble_eq_true rfl) (rmok d) h10 (by decide) rfl h (fun v6 Sm7 h9 => ?_)
    obtain ⟨m7, rfl, r8, rfl, h⟩ := h9
    show WP G _ _ _ 0 0 21 [(0, .ref b), (1, .int x1), (2, .int x2)] [.int r8] (sh, ta, m7)
    exact WP.iret dX5_game_21 rfl (Nat.le_refl _) (Nat.le_refl _) ⟨_, rfl, h⟩
  · have h := h.2 c5
    refine WP.iload_n 2 dX5_game_7 rfl rfl ?_
    refine WP.if_lt (tgt := 16) dX5_game_8 (by decide) (fun c11 => ?_) (fun c11 => ?_)
    · have h := h.1 c11
      refine WP.aload_n 0 dX5_game_16 rfl rfl ?_
      refine WP.iconst (v := 1) dX5_game_17 rfl ?_
      obtain ⟨h16, h⟩ := h
      refine WP.callV (y := mX5_refuse) (As := [.int 1]) (st := []) dX5_game_18 wm_X5_87 mw_X5_refuse rfl (Nat.le_of_ble_eq_true rfl) (rmok d) h16 (by decide) rfl h (fun v12 Sm13 h15 => ?_)
      obtain ⟨m13, rfl, r14, rfl, h⟩ := h15
      show WP G _ _ _ 0 0 21 [(0, .ref b), (1, .int x1), (2, .int x2)] [.int r14] (sh, ta, m13)
      exact WP.iret dX5_game_21 rfl (Nat.le_refl _) (Nat.le_refl _) ⟨_, rfl, h⟩
    · have h := h.2 c11
      refine WP.iload_n 2 dX5_game_11 rfl rfl ?_
      refine WP.iconst (v := 1) dX5_game_12 rfl ?_
      refine WP.icmp_le (tgt := 22) dX5_game_13 (by decide) (fun c17 => ?_) (fun c17 => ?_)
      · have h := h.1 c17
        refine WP.aload_n 0 dX5_game_22 rfl rfl ?_
        obtain ⟨h18, h⟩ := h
        obtain ⟨i19, h20, h⟩ := h
        refine WP.getR 5 2 wf_X5_80 (by decide) (by decide) rfl h18 h20 dX5_game_23 ?_
        refine WP.aload_n 0 dX5_game_26 rfl rfl ?_
        obtain ⟨i21, h22, h⟩ := h
        refine WP.getR 5 0 wf_X5_67 (by decide) (by decide) rfl h18 h22 dX5_game_27 ?_
        obtain ⟨h27, h⟩ := h
        refine WP.callV (y := mX0_copyFrom) (As := [.ref i21]) (st := []) dX5_game_30 wm_X5_223 mw_X0_copyFrom rfl (Nat.le_of_ble_eq_true rfl) (rmok d) h27 (by decide) rfl h (fun v23 Sm24 h26 => ?_)
        obtain ⟨m24, rfl, rfl, h⟩ := h26
        show WP G _ _ _ 0 0 33 [(0, .ref b), (1, .int x1), (2, .int x2)] [] (sh, ta, m24)
        refine WP.iconst (v := 0) dX5_game_33 rfl ?_
        refine WP.istore_n (lv2 := [(3, .int 0), (0, .ref b), (1, .int x1), (2, .int x2)]) dX5_game_34 rfl (by decide) rfl ?_
        refine WP.iconst (v := 0) dX5_game_35 rfl ?_
        refine WP.istore (lv2 := [(4, .int 0), (3, .int 0), (0, .ref b), (1, .int x1), (2, .int x2)]) dX5_game_36 (by decide) rfl ?_
        refine WP.iconst (v := 1) dX5_game_38 rfl ?_
        refine WP.istore (lv2 := [(5, .int 1), (4, .int 0), (3, .int 0), (0, .ref b), (1, .int x1), (2, .int x2)]) dX5_game_39 (by decide) rfl ?_
        exact WP.pick [3, 4, 5, 2, 1, 0] rfl h
      · have h := h.2 c17
        refine WP.aload_n 0 dX5_game_16 rfl rfl ?_
        refine WP.iconst (v := 1) dX5_game_17 rfl ?_
        obtain ⟨h32, h⟩ := h
        refine WP.callV (y := mX5_refuse) (As := [.int 1]) (st := []) dX5_game_18 wm_X5_87 mw_X5_refuse rfl (Nat.le_of_ble_eq_true rfl) (rmok d) h32 (by decide) rfl h (fun v28 Sm29 h31 => ?_)
        obtain ⟨m29, rfl, r30, rfl, h⟩ := h31
        show WP G _ _ _ 0 0 21 [(0, .ref b), (1, .int x1), (2, .int x2)] [.int r30] (sh, ta, m29)
        exact WP.iret dX5_game_21 rfl (Nat.le_refl _) (Nat.le_refl _) ⟨_, rfl, h⟩
set_option maxHeartbeats 4000000 in
set_option maxRecDepth 20000 in
theorem rg_X5_game_41 (hG : fl G = false) (b : Nat) (x1 : Int32) (x2 : Int32) (x3 : Int32) (x4 : Int32) (x5 : Int32) (h : (((16 : Int32) ≤ x5 → ((¬ x2 = 0 → K (some (.int x4)) m) ∧ (x2 = 0 → K (some (.int x3)) m))) ∧ (¬ (16 : Int32) ≤ x5 → sh[b]? = some (.inl 5) ∧ ∃ i4, ta b 2 = some i4 ∧ Cal G mX5_isLikeOneAhead d [.ref i4, .int x5] sh ta m (fun v6 m7 => ∃ r8, v6 = some (.int r8) ∧ ((r8 = 0 → Cal G mX5_gainAt d [.ref i4, .int x5, .int x1] sh ta m7 (fun v11 m12 => ∃ r13, v11 = some (.int r13) ∧ ((x4 = 0 → WP G (rmD (d + 1) 0 0) mX5_game (QC G sh ta K) 0 0 41 [(0, .ref b), (1, .int x1), (2, .int x2), (3, .int r13), (4, .int x5), (5, .int (x5 + 1))] [] (sh, ta, m12)) ∧ (¬ x4 = 0 → ((r13 ≤ x3 → WP G (rmD (d + 1) 0 0) mX5_game (QC G sh ta K) 0 0 41 [(0, .ref b), (1, .int x1), (2, .int x2), (3, .int x3), (4, .int x4), (5, .int (x5 + 1))] [] (sh, ta, m12)) ∧ (¬ r13 ≤ x3 → WP G (rmD (d + 1) 0 0) mX5_game (QC G sh ta K) 0 0 41 [(0, .ref b), (1, .int x1), (2, .int x2), (3, .int r13), (4, .int x5), (5, .int (x5 + 1))] [] (sh, ta, m12))))))) ∧ (¬ r8 = 0 → WP G (rmD (d + 1) 0 0) mX5_game (QC G sh ta K) 0 0 41 [(0, .ref b), (1, .int x1), (2, .int x2), (3, .int x3), (4, .int x4), (5, .int (x5 + 1))] [] (sh, ta, m7))))))) : WP G (rmD (d + 1) 0 0) mX5_game (QC G sh ta K) 0 0 41 [(0, .ref b), (1, .int x1), (2, .int x2), (3, .int x3), (4, .int x4), (5, .int x5)] [] (sh, ta, m) := by
  refine WP.iload 5 dX5_game_41 rfl ?_
  refine WP.bipush (v := 16) dX5_game_43 rfl ?_
  refine WP.icmp_ge (tgt := 99) dX5_game_45 (by decide) (fun c1 => ?_) (fun c1 => ?_)
  · have h := h.1 c1
    refine WP.iload_n 2 dX5_game_99 rfl rfl ?_
    refine WP.if_ne (tgt := 107) dX5_game_100 (by decide) (fun c2 => ?_) (fun c2 => ?_)
    · have h := h.1 c2
      refine WP.iload 4 dX5_game_107 rfl ?_
      exact WP.iret dX5_game_109 rfl (Nat.le_refl _) (Nat.le_refl _) ⟨_, rfl, h⟩
    · have h := h.2 c2
      refine WP.iload_n 3 dX5_game_103 rfl rfl ?_
      refine WP.goto (tgt := 109) dX5_game_104 (by decide) ?_
      exact WP.iret dX5_game_109 rfl (Nat.le_refl _) (Nat.le_refl _) ⟨_, rfl, h⟩
  · have h := h.2 c1
    refine WP.aload_n 0 dX5_game_48 rfl rfl ?_
    obtain ⟨h3, h⟩ := h
    obtain ⟨i4, h5, h⟩ := h
    refine WP.getR 5 2 wf_X5_80 (by decide) (by decide) rfl h3 h5 dX5_game_49 ?_
    refine WP.iload 5 dX5_game_52 rfl ?_
    refine WP.callS (y := mX5_isLikeOneAhead) (As := [.ref i4, .int x5]) (st := []) dX5_game_54 wm_X5_230 mw_X5_isLikeOneAhead rfl (Nat.le_of_ble_eq_true rfl) (rmok d) rfl h (fun v6 Sm7 h9 => ?_)
    obtain ⟨m7, rfl, r8, rfl, h⟩ := h9
    show WP G _ _ _ 0 0 57 [(0, .ref b), (1, .int x1), (2, .int x2), (3, .int x3), (4, .int x4), (5, .int x5)] [.int r8] (sh, ta, m7)
    refine WP.if_eq (tgt := 63) dX5_game_57 (by decide) (fun c10 => ?_) (fun c10 => ?_)
    · have h := h.1 c10
      refine WP.aload_n 0 dX5_game_63 rfl rfl ?_
      refine WP.getR 5 2 wf_X5_80 (by decide) (by decide) rfl h3 h5 dX5_game_64 ?_
      refine WP.iload 5 dX5_game_67 rfl ?_
      refine WP.iload_n 1 dX5_game_69 rfl rfl ?_
      refine WP.callS (y := mX5_gainAt) (As := [.ref i4, .int x5, .int x1]) (st := []) dX5_game_70 wm_X5_234 mw_X5_gainAt rfl (Nat.le_of_ble_eq_true rfl) (rmok d) rfl h (fun v11 Sm12 h14 => ?_)
      obtain ⟨m12, rfl, r13, rfl, h⟩ := h14
      show WP G _ _ _ 0 0 73 [(0, .ref b), (1, .int x1), (2, .int x2), (3, .int x3), (4, .int x4), (5, .int x5)] [.int r13] (sh, ta, m12)
      refine WP.istore (lv2 := [(6, .int r13), (0, .ref b), (1, .int x1), (2, .int x2), (3, .int x3), (4, .int x4), (5, .int x5)]) dX5_game_73 (by decide) rfl ?_
      refine WP.iload 5 dX5_game_75 rfl ?_
      refine WP.if_eq (tgt := 86) dX5_game_77 (by decide) (fun c15 => ?_) (fun c15 => ?_)
      · have h := h.1 c15
        refine WP.iload 0 dX5_game_86 rfl ?_
        refine WP.istore_n (lv2 := [(3, .int r13), (6, .int r13), (0, .ref b), (1, .int x1), (2, .int x2), (4, .int x4), (5, .int x5)]) dX5_game_88 rfl (by decide) rfl ?_
        refine WP.iload 6 dX5_game_89 rfl ?_
        refine WP.istore (lv2 := [(4, .int x5), (3, .int r13), (6, .int r13), (0, .ref b), (1, .int x1), (2, .int x2), (5, .int x5)]) dX5_game_91 (by decide) rfl ?_
        refine WP.iinc (lv2 := [(5, .int (x5 + 1)), (4, .int x5), (3, .int r13), (6, .int r13), (0, .ref b), (1, .int x1), (2, .int x2)]) 6 1 dX5_game_93 rfl rfl (by decide) rfl ?_
        refine WP.goto (tgt := 41) dX5_game_96 (by decide) ?_
        exact WP.pick [4, 5, 6, 2, 1, 0] rfl h
      · have h := h.2 c15
        refine WP.iload 0 dX5_game_80 rfl ?_
        refine WP.iload_n 4 dX5_game_82 rfl rfl ?_
        refine WP.icmp_le (tgt := 93) dX5_game_83 (by decide) (fun c16 => ?_) (fun c16 => ?_)
        · have h := h.1 c16
          refine WP.iinc (lv2 := [(5, .int (x5 + 1)), (6, .int r13), (0, .ref b), (1, .int x1), (2, .int x2), (3, .int x3), (4, .int x4)]) 6 1 dX5_game_93 rfl rfl (by decide) rfl ?_
          refine WP.goto (tgt := 41) dX5_game_96 (by decide) ?_
          exact WP.pick [2, 3, 4, 5, 6, 0] rfl h
        · have h := h.2 c16
          refine WP.iload 0 dX5_game_86 rfl ?_
          refine WP.istore_n (lv2 := [(3, .int r13), (6, .int r13), (0, .ref b), (1, .int x1), (2, .int x2), (4, .int x4), (5, .int x5)]) dX5_game_88 rfl (by decide) rfl ?_
          refine WP.iload 6 dX5_game_89 rfl ?_
          refine WP.istore (lv2 := [(4, .int x5), (3, .int r13), (6, .int r13), (0, .ref b), (1, .int x1), (2, .int x2), (5, .int x5)]) dX5_game_91 (by decide) rfl ?_
          refine WP.iinc (lv2 := [(5, .int (x5 + 1)), (4, .int x5), (3, .int r13), (6, .int r13), (0, .ref b), (1, .int x1), (2, .int x2)]) 6 1 dX5_game_93 rfl rfl (by decide) rfl ?_
          refine WP.goto (tgt := 41) dX5_game_96 (by decide) ?_
          exact WP.pick [4, 5, 6, 2, 1, 0] rfl h
    · have h := h.2 c10
      refine WP.goto (tgt := 93) dX5_game_60 (by decide) ?_
      refine WP.iinc (lv2 := [(5, .int (x5 + 1)), (0, .ref b), (1, .int x1), (2, .int x2), (3, .int x3), (4, .int x4)]) 5 1 dX5_game_93 rfl rfl (by decide) rfl ?_
      refine WP.goto (tgt := 41) dX5_game_96 (by decide) ?_
      exact WP.pick [1, 2, 3, 4, 5, 0] rfl h
set_option maxHeartbeats 4000000 in
set_option maxRecDepth 20000 in
theorem rg_X5_haul_0 (hG : fl G = false) (b : Nat) (x1 : Int32) (h : sh[b]? = some (.inl 5) ∧ Cal G mX5_lackOf d [.ref b, .int x1] sh ta m (fun v1 m2 => ∃ r3, v1 = some (.int r3) ∧ ((r3 = 0 → ∃ i7, ta b 2 = some i7 ∧ ∃ i9, ta b 0 = some i9 ∧ sh[i7]? = some (.inl 0) ∧ Cal G mX0_copyFrom d [.ref i7, .ref i9] sh ta m2 (fun v11 m12 => v11 = none ∧ ∃ i16, ta b 10 = some i16 ∧ ∃ n19, sh[i16]? = some (.inr (1, n19)) ∧ InB x1 n19 ∧ ∃ i21, ta i16 (x1 : Int32).toNatClampNeg = some i21 ∧ Cal G mX5_haulOf d [.ref i7, .ref i21] sh ta m12 (fun v23 m24 => ∃ r25, v23 = some (.int r25) ∧ K (some (.int r25)) m24))) ∧ (¬ r3 = 0 → Cal G mX5_refuse d [.ref b, .int r3] sh ta m2 (fun v27 m28 => ∃ r29, v27 = some (.int r29) ∧ K (some (.int r29)) m28))))) : WP G (rmD (d + 1) 0 0) mX5_haul (QC G sh ta K) 0 0 0 [(0, .ref b), (1, .int x1)] [] (sh, ta, m) := by
  refine WP.aload_n 0 dX5_haul_0 rfl rfl ?_
  refine WP.iload_n 1 dX5_haul_1 rfl rfl ?_
  obtain ⟨h5, h⟩ := h
  refine WP.callV (y := mX5_lackOf) (As := [.int x1]) (st := []) dX5_haul_2 wm_X5_203 mw_X5_lackOf rfl (Nat.le_of_ble_eq_true rfl) (rmok d) h5 (by decide) rfl h (fun v1 Sm2 h4 => ?_)
  obtain ⟨m2, rfl, r3, rfl, h⟩ := h4
  show WP G _ _ _ 0 0 5 [(0, .ref b), (1, .int x1)] [.int r3] (sh, ta, m2)
  refine WP.istore_n (lv2 := [(2, .int r3), (0, .ref b), (1, .int x1)]) dX5_haul_5 rfl (by decide) rfl ?_
  refine WP.iload_n 0 dX5_haul_6 rfl rfl ?_
  refine WP.if_eq (tgt := 16) dX5_haul_7 (by decide) (fun c6 => ?_) (fun c6 => ?_)
  · have h := h.1 c6
    refine WP.aload_n 1 dX5_haul_16 rfl rfl ?_
    obtain ⟨i7, h8, h⟩ := h
    refine WP.getR 5 2 wf_X5_80 (by decide) (by decide) rfl h5 h8 dX5_haul_17 ?_
    refine WP.aload_n 1 dX5_haul_20 rfl rfl ?_
    obtain ⟨i9, h10, h⟩ := h
    refine WP.getR 5 0 wf_X5_67 (by decide) (by decide) rfl h5 h10 dX5_haul_21 ?_
    obtain ⟨h15, h⟩ := h
    refine WP.callV (y := mX0_copyFrom) (As := [.ref i9]) (st := []) dX5_haul_24 wm_X5_223 mw_X0_copyFrom rfl (Nat.le_of_ble_eq_true rfl) (rmok d) h15 (by decide) rfl h (fun v11 Sm12 h14 => ?_)
    obtain ⟨m12, rfl, rfl, h⟩ := h14
    show WP G _ _ _ 0 0 27 [(2, .int r3), (0, .ref b), (1, .int x1)] [] (sh, ta, m12)
    refine WP.aload_n 1 dX5_haul_27 rfl rfl ?_
    refine WP.getR 5 2 wf_X5_80 (by decide) (by decide) rfl h5 h8 dX5_haul_28 ?_
    refine WP.aload_n 1 dX5_haul_31 rfl rfl ?_
    obtain ⟨i16, h17, h⟩ := h
    refine WP.getR 5 10 wf_X5_48 (by decide) (by decide) rfl h5 h17 dX5_haul_32 ?_
    refine WP.iload_n 2 dX5_haul_35 rfl rfl ?_
    obtain ⟨n19, h18, h⟩ := h
    obtain ⟨h20, i21, h22, h⟩ := h
    refine WP.aald h18 h20 h22 dX5_haul_36 ?_
    refine WP.callS (y := mX5_haulOf) (As := [.ref i7, .ref i21]) (st := []) dX5_haul_37 wm_X5_238 mw_X5_haulOf rfl (Nat.le_of_ble_eq_true rfl) (rmok d) rfl h (fun v23 Sm24 h26 => ?_)
    obtain ⟨m24, rfl, r25, rfl, h⟩ := h26
    show WP G _ _ _ 0 0 40 [(2, .int r3), (0, .ref b), (1, .int x1)] [.int r25] (sh, ta, m24)
    exact WP.iret dX5_haul_40 rfl (Nat.le_refl _) (Nat.le_refl _) ⟨_, rfl, h⟩
  · have h := h.2 c6
    refine WP.aload_n 1 dX5_haul_10 rfl rfl ?_
    refine WP.iload_n 0 dX5_haul_11 rfl rfl ?_
    refine WP.callV (y := mX5_refuse) (As := [.int r3]) (st := []) dX5_haul_12 wm_X5_87 mw_X5_refuse rfl (Nat.le_of_ble_eq_true rfl) (rmok d) h5 (by decide) rfl h (fun v27 Sm28 h30 => ?_)
    obtain ⟨m28, rfl, r29, rfl, h⟩ := h30
    show WP G _ _ _ 0 0 15 [(2, .int r3), (0, .ref b), (1, .int x1)] [.int r29] (sh, ta, m28)
    exact WP.iret dX5_haul_15 rfl (Nat.le_refl _) (Nat.le_refl _) ⟨_, rfl, h⟩
set_option maxHeartbeats 4000000 in
set_option maxRecDepth 20000 in
theorem rg_X5_changed_0 (hG : fl G = false) (b : Nat) (x1 : Int32) (h : sh[b]? = some (.inl 5) ∧ Cal G mX5_lackOf d [.ref b, .int x1] sh ta m (fun v1 m2 => ∃ r3, v1 = some (.int r3) ∧ ((r3 = 0 → ∃ i7, ta b 10 = some i7 ∧ ∃ n10, sh[i7]? = some (.inr (1, n10)) ∧ InB x1 n10 ∧ ∃ i12, ta i7 (x1 : Int32).toNatClampNeg = some i12 ∧ ∃ i14, ta b 2 = some i14 ∧ ∃ i16, ta b 0 = some i16 ∧ sh[i14]? = some (.inl 0) ∧ Cal G mX0_copyFrom d [.ref i14, .ref i16] sh ta m2 (fun v18 m19 => v18 = none ∧ Cal G mX5_haulOf d [.ref i14, .ref i12] sh ta m19 (fun v23 m24 => ∃ r25, v23 = some (.int r25) ∧ WP G (rmD (d + 1) 0 0) mX5_changed (QC G sh ta K) 0 0 50 [(0, .ref b), (3, .ref i12), (4, .int r25), (5, .int ((-1))), (6, .int 0)] [] (sh, ta, m24)))) ∧ (¬ r3 = 0 → Cal G mX5_refuse d [.ref b, .int r3] sh ta m2 (fun v27 m28 => ∃ r29, v27 = some (.int r29) ∧ K (some (.int r29)) m28))))) : WP G (rmD (d + 1) 0 0) mX5_changed (QC G sh ta K) 0 0 0 [(0, .ref b), (1, .int x1)] [] (sh, ta, m) := by
  refine WP.aload_n 0 dX5_changed_0 rfl rfl ?_
  refine WP.iload_n 1 dX5_changed_1 rfl rfl ?_
  obtain ⟨h5, h⟩ := h
  refine WP.callV (y := mX5_lackOf) (As := [.int x1]) (st := []) dX5_changed_2 wm_X5_203 mw_X5_lackOf rfl (Nat.le_of_ble_eq_true rfl) (rmok d) h5 (by decide) rfl h (fun v1 Sm2 h4 => ?_)
  obtain ⟨m2, rfl, r3, rfl, h⟩ := h4
  show WP G _ _ _ 0 0 5 [(0, .ref b), (1, .int x1)] [.int r3] (sh, ta, m2)
  refine WP.istore_n (lv2 := [(2, .int r3), (0, .ref b), (1, .int x1)]) dX5_changed_5 rfl (by decide) rfl ?_
  refine WP.iload_n 0 dX5_changed_6 rfl rfl ?_
  refine WP.if_eq (tgt := 16) dX5_changed_7 (by decide) (fun c6 => ?_) (fun c6 => ?_)
  · have h := h.1 c6
    refine WP.aload_n 1 dX5_changed_16 rfl rfl ?_
    obtain ⟨i7, h8, h⟩ := h
    refine WP.getR 5 10 wf_X5_48 (by decide) (by decide) rfl h5 h8 dX5_changed_17 ?_
    refine WP.iload_n 2 dX5_changed_20 rfl rfl ?_
    obtain ⟨n10, h9, h⟩ := h
    obtain ⟨h11, i12, h13, h⟩ := h
    refine WP.aald h9 h11 h13 dX5_changed_21 ?_
    refine WP.astore_n (lv2 := [(3, .ref i12), (2, .int r3), (0, .ref b), (1, .int x1)]) dX5_changed_22 rfl (by decide) rfl ?_
    refine WP.aload_n 2 dX5_changed_23 rfl rfl ?_
    obtain ⟨i14, h15, h⟩ := h
    refine WP.getR 5 2 wf_X5_80 (by decide) (by decide) rfl h5 h15 dX5_changed_24 ?_
    refine WP.aload_n 2 dX5_changed_27 rfl rfl ?_
    obtain ⟨i16, h17, h⟩ := h
    refine WP.getR 5 0 wf_X5_67 (by decide) (by decide) rfl h5 h17 dX5_changed_28 ?_
    obtain ⟨h22, h⟩ := h
    refine WP.callV (y := mX0_copyFrom) (As := [.ref i16]) (st := []) dX5_changed_31 wm_X5_223 mw_X0_copyFrom rfl (Nat.le_of_ble_eq_true rfl) (rmok d) h22 (by decide) rfl h (fun v18 Sm19 h21 => ?_)
    obtain ⟨m19, rfl, rfl, h⟩ := h21
    show WP G _ _ _ 0 0 34 [(3, .ref i12), (2, .int r3), (0, .ref b), (1, .int x1)] [] (sh, ta, m19)
    refine WP.aload_n 2 dX5_changed_34 rfl rfl ?_
    refine WP.getR 5 2 wf_X5_80 (by decide) (by decide) rfl h5 h15 dX5_changed_35 ?_
    refine WP.aload_n 0 dX5_changed_38 rfl rfl ?_
    refine WP.callS (y := mX5_haulOf) (As := [.ref i14, .ref i12]) (st := []) dX5_changed_39 wm_X5_238 mw_X5_haulOf rfl (Nat.le_of_ble_eq_true rfl) (rmok d) rfl h (fun v23 Sm24 h26 => ?_)
    obtain ⟨m24, rfl, r25, rfl, h⟩ := h26
    show WP G _ _ _ 0 0 42 [(3, .ref i12), (2, .int r3), (0, .ref b), (1, .int x1)] [.int r25] (sh, ta, m24)
    refine WP.istore (lv2 := [(4, .int r25), (3, .ref i12), (2, .int r3), (0, .ref b), (1, .int x1)]) dX5_changed_42 (by decide) rfl ?_
    refine WP.iconst (v := (-1)) dX5_changed_44 rfl ?_
    refine WP.istore (lv2 := [(5, .int ((-1))), (4, .int r25), (3, .ref i12), (2, .int r3), (0, .ref b), (1, .int x1)]) dX5_changed_45 (by decide) rfl ?_
    refine WP.iconst (v := 0) dX5_changed_47 rfl ?_
    refine WP.istore (lv2 := [(6, .int 0), (5, .int ((-1))), (4, .int r25), (3, .ref i12), (2, .int r3), (0, .ref b), (1, .int x1)]) dX5_changed_48 (by decide) rfl ?_
    exact WP.pick [5, 3, 2, 1, 0] rfl h
  · have h := h.2 c6
    refine WP.aload_n 1 dX5_changed_10 rfl rfl ?_
    refine WP.iload_n 0 dX5_changed_11 rfl rfl ?_
    refine WP.callV (y := mX5_refuse) (As := [.int r3]) (st := []) dX5_changed_12 wm_X5_87 mw_X5_refuse rfl (Nat.le_of_ble_eq_true rfl) (rmok d) h5 (by decide) rfl h (fun v27 Sm28 h30 => ?_)
    obtain ⟨m28, rfl, r29, rfl, h⟩ := h30
    show WP G _ _ _ 0 0 15 [(2, .int r3), (0, .ref b), (1, .int x1)] [.int r29] (sh, ta, m28)
    exact WP.iret dX5_changed_15 rfl (Nat.le_refl _) (Nat.le_refl _) ⟨_, rfl, h⟩
set_option maxHeartbeats 4000000 in
set_option maxRecDepth 20000 in
theorem rg_X5_changed_50 (hG : fl G = false) (b : Nat) (b3 : Nat) (x4 : Int32) (x5 : Int32) (x6 : Int32) (h : sh[b]? = some (.inl 5) ∧ ∃ i2, ta b 0 = some i2 ∧ sh[i2]? = some (.inl 0) ∧ (((m i2 9) ≤ x6 → ((0 ≤ x5 → K (some (.int x5)) m) ∧ (¬ 0 ≤ x5 → Cal G mX5_refuse d [.ref b, .int 2] sh ta m (fun v7 m8 => ∃ r9, v7 = some (.int r9) ∧ K (some (.int r9)) m8)))) ∧ (¬ (m i2 9) ≤ x6 → WP G (rmD (d + 1) 0 0) mX5_changed (QC G sh ta K) 0 0 68 [(0, .ref b), (3, .ref b3), (4, .int x4), (5, .int x5), (6, .int x6), (7, .int (x6 + 1))] [] (sh, ta, m)))) : WP G (rmD (d + 1) 0 0) mX5_changed (QC G sh ta K) 0 0 50 [(0, .ref b), (3, .ref b3), (4, .int x4), (5, .int x5), (6, .int x6)] [] (sh, ta, m) := by
  refine WP.iload 4 dX5_changed_50 rfl ?_
  refine WP.aload_n 0 dX5_changed_52 rfl rfl ?_
  obtain ⟨h1, h⟩ := h
  obtain ⟨i2, h3, h⟩ := h
  refine WP.getR 5 0 wf_X5_67 (by decide) (by decide) rfl h1 h3 dX5_changed_53 ?_
  obtain ⟨h4, h⟩ := h
  refine WP.getIN 0 9 wf_X5_91 (by decide) (by decide) rfl h4 dX5_changed_56 ?_
  refine WP.icmp_ge (tgt := 172) dX5_changed_59 (by decide) (fun c5 => ?_) (fun c5 => ?_)
  · have h := h.1 c5
    refine WP.iload 3 dX5_changed_172 rfl ?_
    refine WP.if_ge (tgt := 185) dX5_changed_174 (by decide) (fun c6 => ?_) (fun c6 => ?_)
    · have h := h.1 c6
      refine WP.iload 3 dX5_changed_185 rfl ?_
      exact WP.iret dX5_changed_187 rfl (Nat.le_refl _) (Nat.le_refl _) ⟨_, rfl, h⟩
    · have h := h.2 c6
      refine WP.aload_n 0 dX5_changed_177 rfl rfl ?_
      refine WP.iconst (v := 2) dX5_changed_178 rfl ?_
      refine WP.callV (y := mX5_refuse) (As := [.int 2]) (st := []) dX5_changed_179 wm_X5_87 mw_X5_refuse rfl (Nat.le_of_ble_eq_true rfl) (rmok d) h1 (by decide) rfl h (fun v7 Sm8 h10 => ?_)
      obtain ⟨m8, rfl, r9, rfl, h⟩ := h10
      show WP G _ _ _ 0 0 182 [(0, .ref b), (3, .ref b3), (4, .int x4), (5, .int x5), (6, .int x6)] [.int r9] (sh, ta, m8)
      refine WP.goto (tgt := 187) dX5_changed_182 (by decide) ?_
      exact WP.iret dX5_changed_187 rfl (Nat.le_refl _) (Nat.le_refl _) ⟨_, rfl, h⟩
  · have h := h.2 c5
    refine WP.iload 4 dX5_changed_62 rfl ?_
    refine WP.iconst (v := 1) dX5_changed_64 rfl ?_
    refine WP.iadd dX5_changed_65 ?_
    refine WP.istore (lv2 := [(7, .int (x6 + 1)), (0, .ref b), (3, .ref b3), (4, .int x4), (5, .int x5), (6, .int x6)]) dX5_changed_66 (by decide) rfl ?_
    exact WP.pick [1, 2, 3, 4, 5, 0] rfl h
set_option maxHeartbeats 4000000 in
set_option maxRecDepth 20000 in
theorem rg_X5_changed_68 (hG : fl G = false) (b : Nat) (b3 : Nat) (x4 : Int32) (x5 : Int32) (x6 : Int32) (x7 : Int32) (h : sh[b]? = some (.inl 5) ∧ ∃ i2, ta b 0 = some i2 ∧ sh[i2]? = some (.inl 0) ∧ (((m i2 9) ≤ x7 → WP G (rmD (d + 1) 0 0) mX5_changed (QC G sh ta K) 0 0 50 [(0, .ref b), (3, .ref b3), (4, .int x4), (5, .int x5), (6, .int (x6 + 1))] [] (sh, ta, m)) ∧ (¬ (m i2 9) ≤ x7 → Cal G mX0_cellOf d [.ref i2, .int x6] sh ta m (fun v6 m7 => ∃ r8, v6 = some (.int r8) ∧ ((r8 < 0 → WP G (rmD (d + 1) 0 0) mX5_changed (QC G sh ta K) 0 0 68 [(0, .ref b), (3, .ref b3), (4, .int x4), (5, .int x5), (6, .int x6), (7, .int (x7 + 1))] [] (sh, ta, m7)) ∧ (¬ r8 < 0 → Cal G mX0_cellOf d [.ref i2, .int x7] sh ta m7 (fun v11 m12 => ∃ r13, v11 = some (.int r13) ∧ ((0 ≤ r13 → ∃ i16, ta b 2 = some i16 ∧ sh[i16]? = some (.inl 0) ∧ Cal G mX0_copyFrom d [.ref i16, .ref i2] sh ta m12 (fun v18 m19 => v18 = none ∧ Cal G mX0_changePlaces d [.ref i16, .int x6, .int x7] sh ta m19 (fun v23 m24 => v23 = none ∧ Cal G mX5_haulOf d [.ref i16, .ref b3] sh ta m24 (fun v27 m28 => ∃ r29, v27 = some (.int r29) ∧ ((x4 ≤ r29 → WP G (rmD (d + 1) 0 0) mX5_changed (QC G sh ta K) 0 0 68 [(0, .ref b), (3, .ref b3), (4, .int x4), (5, .int x5), (6, .int x6), (7, .int (x7 + 1))] [] (sh, ta, m28)) ∧ (¬ x4 ≤ r29 → WP G (rmD (d + 1) 0 0) mX5_changed (QC G sh ta K) 0 0 68 [(0, .ref b), (3, .ref b3), (4, .int r29), (5, .int ((100 * x6) + x7)), (6, .int x6), (7, .int (x7 + 1))] [] (sh, ta, m28))))))) ∧ (¬ 0 ≤ r13 → WP G (rmD (d + 1) 0 0) mX5_changed (QC G sh ta K) 0 0 68 [(0, .ref b), (3, .ref b3), (4, .int x4), (5, .int x5), (6, .int x6), (7, .int (x7 + 1))] [] (sh, ta, m12)))))))))) : WP G (rmD (d + 1) 0 0) mX5_changed (QC G sh ta K) 0 0 68 [(0, .ref b), (3, .ref b3), (4, .int x4), (5, .int x5), (6, .int x6), (7, .int x7)] [] (sh, ta, m) := by
  refine WP.iload 5 dX5_changed_68 rfl ?_
  refine WP.aload_n 0 dX5_changed_70 rfl rfl ?_
  obtain ⟨h1, h⟩ := h
  obtain ⟨i2, h3, h⟩ := h
  refine WP.getR 5 0 wf_X5_67 (by decide) (by decide) rfl h1 h3 dX5_changed_71 ?_
  obtain ⟨h4, h⟩ := h
  refine WP.getIN 0 9 wf_X5_91 (by decide) (by decide) rfl h4 dX5_changed_74 ?_
  refine WP.icmp_ge (tgt := 166) dX5_changed_77 (by decide) (fun c5 => ?_) (fun c5 => ?_)
  · have h := h.1 c5
    refine WP.iinc (lv2 := [(6, .int (x6 + 1)), (0, .ref b), (3, .ref b3), (4, .int x4), (5, .int x5), (7, .int x7)]) 4 1 dX5_changed_166 rfl rfl (by decide) rfl ?_
    refine WP.goto (tgt := 50) dX5_changed_169 (by decide) ?_
    exact WP.pick [1, 2, 3, 4, 0] rfl h
  · have h := h.2 c5
    refine WP.aload_n 0 dX5_changed_80 rfl rfl ?_
    refine WP.getR 5 0 wf_X5_67 (by decide) (by decide) rfl h1 h3 dX5_changed_81 ?_
    refine WP.iload 4 dX5_changed_84 rfl ?_
    refine WP.callV (y := mX0_cellOf) (As := [.int x6]) (st := []) dX5_changed_86 wm_X5_114 mw_X0_cellOf rfl (Nat.le_of_ble_eq_true rfl) (rmok d) h4 (by decide) rfl h (fun v6 Sm7 h9 => ?_)
    obtain ⟨m7, rfl, r8, rfl, h⟩ := h9
    show WP G _ _ _ 0 0 89 [(0, .ref b), (3, .ref b3), (4, .int x4), (5, .int x5), (6, .int x6), (7, .int x7)] [.int r8] (sh, ta, m7)
    refine WP.if_lt (tgt := 160) dX5_changed_89 (by decide) (fun c10 => ?_) (fun c10 => ?_)
    · have h := h.1 c10
      refine WP.iinc (lv2 := [(7, .int (x7 + 1)), (0, .ref b), (3, .ref b3), (4, .int x4), (5, .int x5), (6, .int x6)]) 5 1 dX5_changed_160 rfl rfl (by decide) rfl ?_
      refine WP.goto (tgt := 68) dX5_changed_163 (by decide) ?_
      exact WP.pick [1, 2, 3, 4, 5, 0] rfl h
    · have h := h.2 c10
      refine WP.aload_n 0 dX5_changed_92 rfl rfl ?_
      refine WP.getR 5 0 wf_X5_67 (by decide) (by decide) rfl h1 h3 dX5_changed_93 ?_
      refine WP.iload 5 dX5_changed_96 rfl ?_
      refine WP.callV (y := mX0_cellOf) (As := [.int x7]) (st := []) dX5_changed_98 wm_X5_114 mw_X0_cellOf rfl (Nat.le_of_ble_eq_true rfl) (rmok d) h4 (by decide) rfl h (fun v11 Sm12 h14 => ?_)
      obtain ⟨m12, rfl, r13, rfl, h⟩ := h14
      show WP G _ _ _ 0 0 101 [(0, .ref b), (3, .ref b3), (4, .int x4), (5, .int x5), (6, .int x6), (7, .int x7)] [.int r13] (sh, ta, m12)
      refine WP.if_ge (tgt := 107) dX5_changed_101 (by decide) (fun c15 => ?_) (fun c15 => ?_)
      · have h := h.1 c15
        refine WP.aload_n 0 dX5_changed_107 rfl rfl ?_
        obtain ⟨i16, h17, h⟩ := h
        refine WP.getR 5 2 wf_X5_80 (by decide) (by decide) rfl h1 h17 dX5_changed_108 ?_
        refine WP.aload_n 0 dX5_changed_111 rfl rfl ?_
        refine WP.getR 5 0 wf_X5_67 (by decide) (by decide) rfl h1 h3 dX5_changed_112 ?_
        obtain ⟨h22, h⟩ := h
        refine WP.callV (y := mX0_copyFrom) (As := [.ref i2]) (st := []) dX5_changed_115 wm_X5_223 mw_X0_copyFrom rfl (Nat.le_of_ble_eq_true rfl) (rmok d) h22 (by decide) rfl h (fun v18 Sm19 h21 => ?_)
        obtain ⟨m19, rfl, rfl, h⟩ := h21
        show WP G _ _ _ 0 0 118 [(0, .ref b), (3, .ref b3), (4, .int x4), (5, .int x5), (6, .int x6), (7, .int x7)] [] (sh, ta, m19)
        refine WP.aload_n 0 dX5_changed_118 rfl rfl ?_
        refine WP.getR 5 2 wf_X5_80 (by decide) (by decide) rfl h1 h17 dX5_changed_119 ?_
        refine WP.iload 4 dX5_changed_122 rfl ?_
        refine WP.iload 5 dX5_changed_124 rfl ?_
        refine WP.callV (y := mX0_changePlaces) (As := [.int x6, .int x7]) (st := []) dX5_changed_126 wm_X5_242 mw_X0_changePlaces rfl (Nat.le_of_ble_eq_true rfl) (rmok d) h22 (by decide) rfl h (fun v23 Sm24 h26 => ?_)
        obtain ⟨m24, rfl, rfl, h⟩ := h26
        show WP G _ _ _ 0 0 129 [(0, .ref b), (3, .ref b3), (4, .int x4), (5, .int x5), (6, .int x6), (7, .int x7)] [] (sh, ta, m24)
        refine WP.aload_n 0 dX5_changed_129 rfl rfl ?_
        refine WP.getR 5 2 wf_X5_80 (by decide) (by decide) rfl h1 h17 dX5_changed_130 ?_
        refine WP.aload_n 1 dX5_changed_133 rfl rfl ?_
        refine WP.callS (y := mX5_haulOf) (As := [.ref i16, .ref b3]) (st := []) dX5_changed_134 wm_X5_238 mw_X5_haulOf rfl (Nat.le_of_ble_eq_true rfl) (rmok d) rfl h (fun v27 Sm28 h30 => ?_)
        obtain ⟨m28, rfl, r29, rfl, h⟩ := h30
        show WP G _ _ _ 0 0 137 [(0, .ref b), (3, .ref b3), (4, .int x4), (5, .int x5), (6, .int x6), (7, .int x7)] [.int r29] (sh, ta, m28)
        refine WP.istore (lv2 := [(8, .int r29), (0, .ref b), (3, .ref b3), (4, .int x4), (5, .int x5), (6, .int x6), (7, .int x7)]) dX5_changed_137 (by decide) rfl ?_
        refine WP.iload 0 dX5_changed_139 rfl ?_
        refine WP.iload 3 dX5_changed_141 rfl ?_
        refine WP.icmp_ge (tgt := 160) dX5_changed_143 (by decide) (fun c31 => ?_) (fun c31 => ?_)
        · have h := h.1 c31
          refine WP.iinc (lv2 := [(7, .int (x7 + 1)), (8, .int r29), (0, .ref b), (3, .ref b3), (4, .int x4), (5, .int x5), (6, .int x6)]) 6 1 dX5_changed_160 rfl rfl (by decide) rfl ?_
          refine WP.goto (tgt := 68) dX5_changed_163 (by decide) ?_
          exact WP.pick [2, 3, 4, 5, 6, 0] rfl h
        · have h := h.2 c31
          refine WP.iload 0 dX5_changed_146 rfl ?_
          refine WP.istore (lv2 := [(4, .int r29), (8, .int r29), (0, .ref b), (3, .ref b3), (5, .int x5), (6, .int x6), (7, .int x7)]) dX5_changed_148 (by decide) rfl ?_
          refine WP.bipush (v := 100) dX5_changed_150 rfl ?_
          refine WP.iload 5 dX5_changed_152 rfl ?_
          refine WP.imul dX5_changed_154 ?_
          refine WP.iload 6 dX5_changed_155 rfl ?_
          refine WP.iadd dX5_changed_157 ?_
          refine WP.istore (lv2 := [(5, .int ((100 * x6) + x7)), (4, .int r29), (8, .int r29), (0, .ref b), (3, .ref b3), (6, .int x6), (7, .int x7)]) dX5_changed_158 (by decide) rfl ?_
          refine WP.iinc (lv2 := [(7, .int (x7 + 1)), (5, .int ((100 * x6) + x7)), (4, .int r29), (8, .int r29), (0, .ref b), (3, .ref b3), (6, .int x6)]) 6 1 dX5_changed_160 rfl rfl (by decide) rfl ?_
          refine WP.goto (tgt := 68) dX5_changed_163 (by decide) ?_
          exact WP.pick [4, 5, 2, 1, 6, 0] rfl h
      · have h := h.2 c15
        refine WP.goto (tgt := 160) dX5_changed_104 (by decide) ?_
        refine WP.iinc (lv2 := [(7, .int (x7 + 1)), (0, .ref b), (3, .ref b3), (4, .int x4), (5, .int x5), (6, .int x6)]) 5 1 dX5_changed_160 rfl rfl (by decide) rfl ?_
        refine WP.goto (tgt := 68) dX5_changed_163 (by decide) ?_
        exact WP.pick [1, 2, 3, 4, 5, 0] rfl h
set_option maxHeartbeats 4000000 in
set_option maxRecDepth 20000 in
theorem rg_X5_springs_0 (hG : fl G = false) (b : Nat) (x1 : Int32) (x2 : Int32) (h : ((x2 < 0 → sh[b]? = some (.inl 5) ∧ Cal G mX5_refuse d [.ref b, .int 1] sh ta m (fun v3 m4 => ∃ r5, v3 = some (.int r5) ∧ K (some (.int r5)) m4)) ∧ (¬ x2 < 0 → ((x2 ≤ (1 : Int32) → sh[b]? = some (.inl 5) ∧ Cal G mX5_lackOf d [.ref b, .int x1] sh ta m (fun v9 m10 => ∃ r11, v9 = some (.int r11) ∧ ((r11 = 0 → WP G (rmD (d + 1) 0 0) mX5_springs (QC G sh ta K) 0 0 39 [(0, .ref b), (1, .int x1), (2, .int x2), (4, .int 0), (5, .int ((-1))), (6, .int 99)] [] (sh, ta, m10)) ∧ (¬ r11 = 0 → Cal G mX5_refuse d [.ref b, .int r11] sh ta m10 (fun v15 m16 => ∃ r17, v15 = some (.int r17) ∧ K (some (.int r17)) m16))))) ∧ (¬ x2 ≤ (1 : Int32) → sh[b]? = some (.inl 5) ∧ Cal G mX5_refuse d [.ref b, .int 1] sh ta m (fun v20 m21 => ∃ r22, v20 = some (.int r22) ∧ K (some (.int r22)) m21)))))) : WP G (rmD (d + 1) 0 0) mX5_springs (QC G sh ta K) 0 0 0 [(0, .ref b), (1, .int x1), (2, .int x2)] [] (sh, ta, m) := by
  refine WP.iload_n 2 dX5_springs_0 rfl rfl ?_
  refine WP.if_lt (tgt := 9) dX5_springs_1 (by decide) (fun c1 => ?_) (fun c1 => ?_)
  · have h := h.1 c1
    refine WP.iconst (v := 1) dX5_springs_9 rfl ?_
    refine WP.goto (tgt := 18) dX5_springs_10 (by decide) ?_
    refine WP.istore_n (lv2 := [(3, .int 1), (0, .ref b), (1, .int x1), (2, .int x2)]) dX5_springs_18 rfl (by decide) rfl ?_
    refine WP.iload_n 0 dX5_springs_19 rfl rfl ?_
    refine WP.if_eq (tgt := 29) dX5_springs_20 (by decide) (fun c2 => absurd c2 (by decide)) (fun _ => ?_)
    refine WP.aload_n 1 dX5_springs_23 rfl rfl ?_
    refine WP.iload_n 0 dX5_springs_24 rfl rfl ?_
    obtain ⟨h7, h⟩ := h
    refine WP.callV (y := mX5_refuse) (As := [.int 1]) (st := []) dX5_springs_25 wm_X5_87 mw_X5_refuse rfl (Nat.le_of_ble_eq_true rfl) (rmok d) h7 (by decide) rfl h (fun v3 Sm4 h6 => ?_)
    obtain ⟨m4, rfl, r5, rfl, h⟩ := h6
    show WP G _ _ _ 0 0 28 [(3, .int 1), (0, .ref b), (1, .int x1), (2, .int x2)] [.int r5] (sh, ta, m4)
    exact WP.iret dX5_springs_28 rfl (Nat.le_refl _) (Nat.le_refl _) ⟨_, rfl, h⟩
  · have h := h.2 c1
    refine WP.iload_n 2 dX5_springs_4 rfl rfl ?_
    refine WP.iconst (v := 1) dX5_springs_5 rfl ?_
    refine WP.icmp_le (tgt := 13) dX5_springs_6 (by decide) (fun c8 => ?_) (fun c8 => ?_)
    · have h := h.1 c8
      refine WP.aload_n 0 dX5_springs_13 rfl rfl ?_
      refine WP.iload_n 1 dX5_springs_14 rfl rfl ?_
      obtain ⟨h13, h⟩ := h
      refine WP.callV (y := mX5_lackOf) (As := [.int x1]) (st := []) dX5_springs_15 wm_X5_203 mw_X5_lackOf rfl (Nat.le_of_ble_eq_true rfl) (rmok d) h13 (by decide) rfl h (fun v9 Sm10 h12 => ?_)
      obtain ⟨m10, rfl, r11, rfl, h⟩ := h12
      show WP G _ _ _ 0 0 18 [(0, .ref b), (1, .int x1), (2, .int x2)] [.int r11] (sh, ta, m10)
      refine WP.istore_n (lv2 := [(3, .int r11), (0, .ref b), (1, .int x1), (2, .int x2)]) dX5_springs_18 rfl (by decide) rfl ?_
      refine WP.iload_n 0 dX5_springs_19 rfl rfl ?_
      refine WP.if_eq (tgt := 29) dX5_springs_20 (by decide) (fun c14 => ?_) (fun c14 => ?_)
      · have h := h.1 c14
        refine WP.iconst (v := 0) dX5_springs_29 rfl ?_
        refine WP.istore (lv2 := [(4, .int 0), (3, .int r11), (0, .ref b), (1, .int x1), (2, .int x2)]) dX5_springs_30 (by decide) rfl ?_
        refine WP.iconst (v := (-1)) dX5_springs_32 rfl ?_
        refine WP.istore (lv2 := [(5, .int ((-1))), (4, .int 0), (3, .int r11), (0, .ref b), (1, .int x1), (2, .int x2)]) dX5_springs_33 (by decide) rfl ?_
        refine WP.bipush (v := 99) dX5_springs_35 rfl ?_
        refine WP.istore (lv2 := [(6, .int 99), (5, .int ((-1))), (4, .int 0), (3, .int r11), (0, .ref b), (1, .int x1), (2, .int x2)]) dX5_springs_37 (by decide) rfl ?_
        exact WP.pick [4, 5, 6, 2, 1, 0] rfl h
      · have h := h.2 c14
        refine WP.aload_n 1 dX5_springs_23 rfl rfl ?_
        refine WP.iload_n 0 dX5_springs_24 rfl rfl ?_
        refine WP.callV (y := mX5_refuse) (As := [.int r11]) (st := []) dX5_springs_25 wm_X5_87 mw_X5_refuse rfl (Nat.le_of_ble_eq_true rfl) (rmok d) h13 (by decide) rfl h (fun v15 Sm16 h18 => ?_)
        obtain ⟨m16, rfl, r17, rfl, h⟩ := h18
        show WP G _ _ _ 0 0 28 [(3, .int r11), (0, .ref b), (1, .int x1), (2, .int x2)] [.int r17] (sh, ta, m16)
        exact WP.iret dX5_springs_28 rfl (Nat.le_refl _) (Nat.le_refl _) ⟨_, rfl, h⟩
    · have h := h.2 c8
      refine WP.iconst (v := 1) dX5_springs_9 rfl ?_
      refine WP.goto (tgt := 18) dX5_springs_10 (by decide) ?_
      refine WP.istore_n (lv2 := [(3, .int 1), (0, .ref b), (1, .int x1), (2, .int x2)]) dX5_springs_18 rfl (by decide) rfl ?_
      refine WP.iload_n 0 dX5_springs_19 rfl rfl ?_
      refine WP.if_eq (tgt := 29) dX5_springs_20 (by decide) (fun c19 => absurd c19 (by decide)) (fun _ => ?_)
      refine WP.aload_n 1 dX5_springs_23 rfl rfl ?_
      refine WP.iload_n 0 dX5_springs_24 rfl rfl ?_
      obtain ⟨h24, h⟩ := h
      refine WP.callV (y := mX5_refuse) (As := [.int 1]) (st := []) dX5_springs_25 wm_X5_87 mw_X5_refuse rfl (Nat.le_of_ble_eq_true rfl) (rmok d) h24 (by decide) rfl h (fun v20 Sm21 h23 => ?_)
      obtain ⟨m21, rfl, r22, rfl, h⟩ := h23
      show WP G _ _ _ 0 0 28 [(3, .int 1), (0, .ref b), (1, .int x1), (2, .int x2)] [.int r22] (sh, ta, m21)
      exact WP.iret dX5_springs_28 rfl (Nat.le_refl _) (Nat.le_refl _) ⟨_, rfl, h⟩
set_option maxHeartbeats 4000000 in
set_option maxRecDepth 20000 in
theorem rg_X5_springs_39 (hG : fl G = false) (b : Nat) (x1 : Int32) (x2 : Int32) (x4 : Int32) (x5 : Int32) (x6 : Int32) (h : ((x6 < 0 → ((¬ x2 = 0 → ((0 ≤ x5 → K (some (.int x5)) m) ∧ (¬ 0 ≤ x5 → sh[b]? = some (.inl 5) ∧ Cal G mX5_refuse d [.ref b, .int 2] sh ta m (fun v4 m5 => ∃ r6, v4 = some (.int r6) ∧ K (some (.int r6)) m5)))) ∧ (x2 = 0 → K (some (.int x4)) m))) ∧ (¬ x6 < 0 → sh[b]? = some (.inl 5) ∧ ∃ i10, ta b 10 = some i10 ∧ ∃ n13, sh[i10]? = some (.inr (1, n13)) ∧ InB x1 n13 ∧ ∃ i15, ta i10 (x1 : Int32).toNatClampNeg = some i15 ∧ ∃ i17, ta b 0 = some i17 ∧ sh[i17]? = some (.inl 0) ∧ Cal G mX5_fits d [.ref i15, .int x6, .int (m i17 11)] sh ta m (fun v20 m21 => ∃ r22, v20 = some (.int r22) ∧ ((r22 = 0 → WP G (rmD (d + 1) 0 0) mX5_springs (QC G sh ta K) 0 0 39 [(0, .ref b), (1, .int x1), (2, .int x2), (4, .int x4), (5, .int x5), (6, .int (x6 + (-1)))] [] (sh, ta, m21)) ∧ (¬ r22 = 0 → WP G (rmD (d + 1) 0 0) mX5_springs (QC G sh ta K) 0 0 39 [(0, .ref b), (1, .int x1), (2, .int x2), (4, .int (x4 + 1)), (5, .int x6), (6, .int (x6 + (-1)))] [] (sh, ta, m21))))))) : WP G (rmD (d + 1) 0 0) mX5_springs (QC G sh ta K) 0 0 39 [(0, .ref b), (1, .int x1), (2, .int x2), (4, .int x4), (5, .int x5), (6, .int x6)] [] (sh, ta, m) := by
  refine WP.iload 5 dX5_springs_39 rfl ?_
  refine WP.if_lt (tgt := 78) dX5_springs_41 (by decide) (fun c1 => ?_) (fun c1 => ?_)
  · have h := h.1 c1
    refine WP.iload_n 2 dX5_springs_78 rfl rfl ?_
    refine WP.if_ne (tgt := 85) dX5_springs_79 (by decide) (fun c2 => ?_) (fun c2 => ?_)
    · have h := h.1 c2
      refine WP.iload 4 dX5_springs_85 rfl ?_
      refine WP.if_ge (tgt := 98) dX5_springs_87 (by decide) (fun c3 => ?_) (fun c3 => ?_)
      · have h := h.1 c3
        refine WP.iload 4 dX5_springs_98 rfl ?_
        exact WP.iret dX5_springs_100 rfl (Nat.le_refl _) (Nat.le_refl _) ⟨_, rfl, h⟩
      · have h := h.2 c3
        refine WP.aload_n 0 dX5_springs_90 rfl rfl ?_
        refine WP.iconst (v := 2) dX5_springs_91 rfl ?_
        obtain ⟨h8, h⟩ := h
        refine WP.callV (y := mX5_refuse) (As := [.int 2]) (st := []) dX5_springs_92 wm_X5_87 mw_X5_refuse rfl (Nat.le_of_ble_eq_true rfl) (rmok d) h8 (by decide) rfl h (fun v4 Sm5 h7 => ?_)
        obtain ⟨m5, rfl, r6, rfl, h⟩ := h7
        show WP G _ _ _ 0 0 95 [(0, .ref b), (1, .int x1), (2, .int x2), (4, .int x4), (5, .int x5), (6, .int x6)] [.int r6] (sh, ta, m5)
        refine WP.goto (tgt := 100) dX5_springs_95 (by decide) ?_
        exact WP.iret dX5_springs_100 rfl (Nat.le_refl _) (Nat.le_refl _) ⟨_, rfl, h⟩
    · have h := h.2 c2
      refine WP.iload 3 dX5_springs_82 rfl ?_
      exact WP.iret dX5_springs_84 rfl (Nat.le_refl _) (Nat.le_refl _) ⟨_, rfl, h⟩
  · have h := h.2 c1
    refine WP.aload_n 0 dX5_springs_44 rfl rfl ?_
    obtain ⟨h9, h⟩ := h
    obtain ⟨i10, h11, h⟩ := h
    refine WP.getR 5 10 wf_X5_48 (by decide) (by decide) rfl h9 h11 dX5_springs_45 ?_
    refine WP.iload_n 1 dX5_springs_48 rfl rfl ?_
    obtain ⟨n13, h12, h⟩ := h
    obtain ⟨h14, i15, h16, h⟩ := h
    refine WP.aald h12 h14 h16 dX5_springs_49 ?_
    refine WP.iload 5 dX5_springs_50 rfl ?_
    refine WP.aload_n 0 dX5_springs_52 rfl rfl ?_
    obtain ⟨i17, h18, h⟩ := h
    refine WP.getR 5 0 wf_X5_67 (by decide) (by decide) rfl h9 h18 dX5_springs_53 ?_
    obtain ⟨h19, h⟩ := h
    refine WP.getIN 0 11 wf_X5_149 (by decide) (by decide) rfl h19 dX5_springs_56 ?_
    refine WP.callS (y := mX5_fits) (As := [.ref i15, .int x6, .int (m i17 11)]) (st := []) dX5_springs_59 wm_X5_245 mw_X5_fits rfl (Nat.le_of_ble_eq_true rfl) (rmok d) rfl h (fun v20 Sm21 h23 => ?_)
    obtain ⟨m21, rfl, r22, rfl, h⟩ := h23
    show WP G _ _ _ 0 0 62 [(0, .ref b), (1, .int x1), (2, .int x2), (4, .int x4), (5, .int x5), (6, .int x6)] [.int r22] (sh, ta, m21)
    refine WP.if_eq (tgt := 72) dX5_springs_62 (by decide) (fun c24 => ?_) (fun c24 => ?_)
    · have h := h.1 c24
      refine WP.iinc (lv2 := [(6, .int (x6 + (-1))), (0, .ref b), (1, .int x1), (2, .int x2), (4, .int x4), (5, .int x5)]) 5 (-1) dX5_springs_72 rfl rfl (by decide) rfl ?_
      refine WP.goto (tgt := 39) dX5_springs_75 (by decide) ?_
      exact WP.pick [1, 2, 3, 4, 5, 0] rfl h
    · have h := h.2 c24
      refine WP.iinc (lv2 := [(4, .int (x4 + 1)), (0, .ref b), (1, .int x1), (2, .int x2), (5, .int x5), (6, .int x6)]) 3 1 dX5_springs_65 rfl rfl (by decide) rfl ?_
      refine WP.iload 5 dX5_springs_68 rfl ?_
      refine WP.istore (lv2 := [(5, .int x6), (4, .int (x4 + 1)), (0, .ref b), (1, .int x1), (2, .int x2), (6, .int x6)]) dX5_springs_70 (by decide) rfl ?_
      refine WP.iinc (lv2 := [(6, .int (x6 + (-1))), (5, .int x6), (4, .int (x4 + 1)), (0, .ref b), (1, .int x1), (2, .int x2)]) 5 (-1) dX5_springs_72 rfl rfl (by decide) rfl ?_
      refine WP.goto (tgt := 39) dX5_springs_75 (by decide) ?_
      exact WP.pick [3, 4, 5, 2, 1, 0] rfl h
set_option maxHeartbeats 4000000 in
set_option maxRecDepth 20000 in
theorem rg_X5_odds_0 (hG : fl G = false) (b : Nat) (x1 : Int32) (x2 : Int32) (h : ((x2 < 0 → sh[b]? = some (.inl 5) ∧ Cal G mX5_refuse d [.ref b, .int 1] sh ta m (fun v3 m4 => ∃ r5, v3 = some (.int r5) ∧ K (some (.long ((r5 : Int32).toInt64))) m4)) ∧ (¬ x2 < 0 → ((x2 ≤ (1 : Int32) → sh[b]? = some (.inl 5) ∧ Cal G mX5_lackOf d [.ref b, .int x1] sh ta m (fun v9 m10 => ∃ r11, v9 = some (.int r11) ∧ ((r11 = 0 → ∃ i15, ta b 10 = some i15 ∧ ∃ n18, sh[i15]? = some (.inr (1, n18)) ∧ InB x1 n18 ∧ ∃ i20, ta i15 (x1 : Int32).toNatClampNeg = some i20 ∧ sh[i20]? = some (.inl 2) ∧ (((m10 i20 1) < (1 : Int32) → Cal G mX5_refuse d [.ref b, .int 2] sh ta m10 (fun v24 m25 => ∃ r26, v24 = some (.int r26) ∧ K (some (.long ((r26 : Int32).toInt64))) m25)) ∧ (¬ (m10 i20 1) < (1 : Int32) → (((4 : Int32) < (m10 i20 1) → Cal G mX5_refuse d [.ref b, .int 2] sh ta m10 (fun v29 m30 => ∃ r31, v29 = some (.int r31) ∧ K (some (.long ((r31 : Int32).toInt64))) m30)) ∧ (¬ (4 : Int32) < (m10 i20 1) → Cal G mX5_pullsIn d [.ref i20] sh ta m10 (fun v33 m34 => ∃ r35, v33 = some (.int r35) ∧ (((m34 i20 1) ≤ r35 → WP G (rmD (d + 1) 0 0) mX5_odds (QC G sh ta K) 0 0 85 [(0, .ref b), (2, .int x2), (4, .ref i20), (5, .int 1), (6, .int 1), (7, .int 0)] [] (sh, ta, m34)) ∧ (¬ (m34 i20 1) ≤ r35 → Cal G mX5_refuse d [.ref b, .int 2] sh ta m34 (fun v38 m39 => ∃ r40, v38 = some (.int r40) ∧ K (some (.long ((r40 : Int32).toInt64))) m39))))))))) ∧ (¬ r11 = 0 → Cal G mX5_refuse d [.ref b, .int r11] sh ta m10 (fun v42 m43 => ∃ r44, v42 = some (.int r44) ∧ K (some (.long ((r44 : Int32).toInt64))) m43))))) ∧ (¬ x2 ≤ (1 : Int32) → sh[b]? = some (.inl 5) ∧ Cal G mX5_refuse d [.ref b, .int 1] sh ta m (fun v47 m48 => ∃ r49, v47 = some (.int r49) ∧ K (some (.long ((r49 : Int32).toInt64))) m48)))))) : WP G (rmD (d + 1) 0 0) mX5_odds (QC G sh ta K) 0 0 0 [(0, .ref b), (1, .int x1), (2, .int x2)] [] (sh, ta, m) := by
  refine WP.iload_n 2 dX5_odds_0 rfl rfl ?_
  refine WP.if_lt (tgt := 9) dX5_odds_1 (by decide) (fun c1 => ?_) (fun c1 => ?_)
  · have h := h.1 c1
    refine WP.iconst (v := 1) dX5_odds_9 rfl ?_
    refine WP.goto (tgt := 18) dX5_odds_10 (by decide) ?_
    refine WP.istore_n (lv2 := [(3, .int 1), (0, .ref b), (1, .int x1), (2, .int x2)]) dX5_odds_18 rfl (by decide) rfl ?_
    refine WP.iload_n 0 dX5_odds_19 rfl rfl ?_
    refine WP.if_eq (tgt := 30) dX5_odds_20 (by decide) (fun c2 => absurd c2 (by decide)) (fun _ => ?_)
    refine WP.aload_n 1 dX5_odds_23 rfl rfl ?_
    refine WP.iload_n 0 dX5_odds_24 rfl rfl ?_
    obtain ⟨h7, h⟩ := h
    refine WP.callV (y := mX5_refuse) (As := [.int 1]) (st := []) dX5_odds_25 wm_X5_87 mw_X5_refuse rfl (Nat.le_of_ble_eq_true rfl) (rmok d) h7 (by decide) rfl h (fun v3 Sm4 h6 => ?_)
    obtain ⟨m4, rfl, r5, rfl, h⟩ := h6
    show WP G _ _ _ 0 0 28 [(3, .int 1), (0, .ref b), (1, .int x1), (2, .int x2)] [.int r5] (sh, ta, m4)
    refine WP.i2l dX5_odds_28 ?_
    exact WP.lret dX5_odds_29 rfl (Nat.le_refl _) (Nat.le_refl _) ⟨_, rfl, h⟩
  · have h := h.2 c1
    refine WP.iload_n 2 dX5_odds_4 rfl rfl ?_
    refine WP.iconst (v := 1) dX5_odds_5 rfl ?_
    refine WP.icmp_le (tgt := 13) dX5_odds_6 (by decide) (fun c8 => ?_) (fun c8 => ?_)
    · have h := h.1 c8
      refine WP.aload_n 0 dX5_odds_13 rfl rfl ?_
      refine WP.iload_n 1 dX5_odds_14 rfl rfl ?_
      obtain ⟨h13, h⟩ := h
      refine WP.callV (y := mX5_lackOf) (As := [.int x1]) (st := []) dX5_odds_15 wm_X5_203 mw_X5_lackOf rfl (Nat.le_of_ble_eq_true rfl) (rmok d) h13 (by decide) rfl h (fun v9 Sm10 h12 => ?_)
      obtain ⟨m10, rfl, r11, rfl, h⟩ := h12
      show WP G _ _ _ 0 0 18 [(0, .ref b), (1, .int x1), (2, .int x2)] [.int r11] (sh, ta, m10)
      refine WP.istore_n (lv2 := [(3, .int r11), (0, .ref b), (1, .int x1), (2, .int x2)]) dX5_odds_18 rfl (by decide) rfl ?_
      refine WP.iload_n 0 dX5_odds_19 rfl rfl ?_
      refine WP.if_eq (tgt := 30) dX5_odds_20 (by decide) (fun c14 => ?_) (fun c14 => ?_)
      · have h := h.1 c14
        refine WP.aload_n 1 dX5_odds_30 rfl rfl ?_
        obtain ⟨i15, h16, h⟩ := h
        refine WP.getR 5 10 wf_X5_48 (by decide) (by decide) rfl h13 h16 dX5_odds_31 ?_
        refine WP.iload_n 2 dX5_odds_34 rfl rfl ?_
        obtain ⟨n18, h17, h⟩ := h
        obtain ⟨h19, i20, h21, h⟩ := h
        refine WP.aald h17 h19 h21 dX5_odds_35 ?_
        refine WP.astore (lv2 := [(4, .ref i20), (3, .int r11), (0, .ref b), (1, .int x1), (2, .int x2)]) dX5_odds_36 (by decide) rfl ?_
        refine WP.aload 0 dX5_odds_38 rfl ?_
        obtain ⟨h22, h⟩ := h
        refine WP.getIN 2 1 wf_X5_168 (by decide) (by decide) rfl h22 dX5_odds_40 ?_
        refine WP.iconst (v := 1) dX5_odds_43 rfl ?_
        refine WP.icmp_lt (tgt := 69) dX5_odds_44 (by decide) (fun c23 => ?_) (fun c23 => ?_)
        · have h := h.1 c23
          refine WP.aload_n 2 dX5_odds_69 rfl rfl ?_
          refine WP.iconst (v := 2) dX5_odds_70 rfl ?_
          refine WP.callV (y := mX5_refuse) (As := [.int 2]) (st := []) dX5_odds_71 wm_X5_87 mw_X5_refuse rfl (Nat.le_of_ble_eq_true rfl) (rmok d) h13 (by decide) rfl h (fun v24 Sm25 h27 => ?_)
          obtain ⟨m25, rfl, r26, rfl, h⟩ := h27
          show WP G _ _ _ 0 0 74 [(4, .ref i20), (3, .int r11), (0, .ref b), (1, .int x1), (2, .int x2)] [.int r26] (sh, ta, m25)
          refine WP.i2l dX5_odds_74 ?_
          exact WP.lret dX5_odds_75 rfl (Nat.le_refl _) (Nat.le_refl _) ⟨_, rfl, h⟩
        · have h := h.2 c23
          refine WP.aload 0 dX5_odds_47 rfl ?_
          refine WP.getIN 2 1 wf_X5_168 (by decide) (by decide) rfl h22 dX5_odds_49 ?_
          refine WP.iconst (v := 4) dX5_odds_52 rfl ?_
          refine WP.icmp_gt (tgt := 69) dX5_odds_53 (by decide) (fun c28 => ?_) (fun c28 => ?_)
          · have h := h.1 c28
            refine WP.aload_n 2 dX5_odds_69 rfl rfl ?_
            refine WP.iconst (v := 2) dX5_odds_70 rfl ?_
            refine WP.callV (y := mX5_refuse) (As := [.int 2]) (st := []) dX5_odds_71 wm_X5_87 mw_X5_refuse rfl (Nat.le_of_ble_eq_true rfl) (rmok d) h13 (by decide) rfl h (fun v29 Sm30 h32 => ?_)
            obtain ⟨m30, rfl, r31, rfl, h⟩ := h32
            show WP G _ _ _ 0 0 74 [(4, .ref i20), (3, .int r11), (0, .ref b), (1, .int x1), (2, .int x2)] [.int r31] (sh, ta, m30)
            refine WP.i2l dX5_odds_74 ?_
            exact WP.lret dX5_odds_75 rfl (Nat.le_refl _) (Nat.le_refl _) ⟨_, rfl, h⟩
          · have h := h.2 c28
            refine WP.aload 0 dX5_odds_56 rfl ?_
            refine WP.callS (y := mX5_pullsIn) (As := [.ref i20]) (st := []) dX5_odds_58 wm_X5_206 mw_X5_pullsIn rfl (Nat.le_of_ble_eq_true rfl) (rmok d) rfl h (fun v33 Sm34 h36 => ?_)
            obtain ⟨m34, rfl, r35, rfl, h⟩ := h36
            show WP G _ _ _ 0 0 61 [(4, .ref i20), (3, .int r11), (0, .ref b), (1, .int x1), (2, .int x2)] [.int r35] (sh, ta, m34)
            refine WP.aload 0 dX5_odds_61 rfl ?_
            refine WP.getIN 2 1 wf_X5_168 (by decide) (by decide) rfl h22 dX5_odds_63 ?_
            refine WP.icmp_ge (tgt := 76) dX5_odds_66 (by decide) (fun c37 => ?_) (fun c37 => ?_)
            · have h := h.1 c37
              refine WP.iconst (v := 1) dX5_odds_76 rfl ?_
              refine WP.istore (lv2 := [(5, .int 1), (4, .ref i20), (3, .int r11), (0, .ref b), (1, .int x1), (2, .int x2)]) dX5_odds_77 (by decide) rfl ?_
              refine WP.iconst (v := 1) dX5_odds_79 rfl ?_
              refine WP.istore (lv2 := [(6, .int 1), (5, .int 1), (4, .ref i20), (3, .int r11), (0, .ref b), (1, .int x1), (2, .int x2)]) dX5_odds_80 (by decide) rfl ?_
              refine WP.iconst (v := 0) dX5_odds_82 rfl ?_
              refine WP.istore (lv2 := [(7, .int 0), (6, .int 1), (5, .int 1), (4, .ref i20), (3, .int r11), (0, .ref b), (1, .int x1), (2, .int x2)]) dX5_odds_83 (by decide) rfl ?_
              exact WP.pick [5, 7, 3, 2, 1, 0] rfl h
            · have h := h.2 c37
              refine WP.aload_n 2 dX5_odds_69 rfl rfl ?_
              refine WP.iconst (v := 2) dX5_odds_70 rfl ?_
              refine WP.callV (y := mX5_refuse) (As := [.int 2]) (st := []) dX5_odds_71 wm_X5_87 mw_X5_refuse rfl (Nat.le_of_ble_eq_true rfl) (rmok d) h13 (by decide) rfl h (fun v38 Sm39 h41 => ?_)
              obtain ⟨m39, rfl, r40, rfl, h⟩ := h41
              show WP G _ _ _ 0 0 74 [(4, .ref i20), (3, .int r11), (0, .ref b), (1, .int x1), (2, .int x2)] [.int r40] (sh, ta, m39)
              refine WP.i2l dX5_odds_74 ?_
              exact WP.lret dX5_odds_75 rfl (Nat.le_refl _) (Nat.le_refl _) ⟨_, rfl, h⟩
      · have h := h.2 c14
        refine WP.aload_n 1 dX5_odds_23 rfl rfl ?_
        refine WP.iload_n 0 dX5_odds_24 rfl rfl ?_
        refine WP.callV (y := mX5_refuse) (As := [.int r11]) (st := []) dX5_odds_25 wm_X5_87 mw_X5_refuse rfl (Nat.le_of_ble_eq_true rfl) (rmok d) h13 (by decide) rfl h (fun v42 Sm43 h45 => ?_)
        obtain ⟨m43, rfl, r44, rfl, h⟩ := h45
        show WP G _ _ _ 0 0 28 [(3, .int r11), (0, .ref b), (1, .int x1), (2, .int x2)] [.int r44] (sh, ta, m43)
        refine WP.i2l dX5_odds_28 ?_
        exact WP.lret dX5_odds_29 rfl (Nat.le_refl _) (Nat.le_refl _) ⟨_, rfl, h⟩
    · have h := h.2 c8
      refine WP.iconst (v := 1) dX5_odds_9 rfl ?_
      refine WP.goto (tgt := 18) dX5_odds_10 (by decide) ?_
      refine WP.istore_n (lv2 := [(3, .int 1), (0, .ref b), (1, .int x1), (2, .int x2)]) dX5_odds_18 rfl (by decide) rfl ?_
      refine WP.iload_n 0 dX5_odds_19 rfl rfl ?_
      refine WP.if_eq (tgt := 30) dX5_odds_20 (by decide) (fun c46 => absurd c46 (by decide)) (fun _ => ?_)
      refine WP.aload_n 1 dX5_odds_23 rfl rfl ?_
      refine WP.iload_n 0 dX5_odds_24 rfl rfl ?_
      obtain ⟨h51, h⟩ := h
      refine WP.callV (y := mX5_refuse) (As := [.int 1]) (st := []) dX5_odds_25 wm_X5_87 mw_X5_refuse rfl (Nat.le_of_ble_eq_true rfl) (rmok d) h51 (by decide) rfl h (fun v47 Sm48 h50 => ?_)
      obtain ⟨m48, rfl, r49, rfl, h⟩ := h50
      show WP G _ _ _ 0 0 28 [(3, .int 1), (0, .ref b), (1, .int x1), (2, .int x2)] [.int r49] (sh, ta, m48)
      refine WP.i2l dX5_odds_28 ?_
      exact WP.lret dX5_odds_29 rfl (Nat.le_refl _) (Nat.le_refl _) ⟨_, rfl, h⟩
set_option maxHeartbeats 4000000 in
set_option maxRecDepth 20000 in
theorem rg_X5_odds_85 (hG : fl G = false) (b : Nat) (x2 : Int32) (b4 : Nat) (x5 : Int32) (x6 : Int32) (x7 : Int32) (h : sh[b4]? = some (.inl 2) ∧ (((m b4 1) ≤ x7 → ((¬ x5 = 0 → WP G (rmD (d + 1) 0 0) mX5_odds (QC G sh ta K) 0 0 132 [(2, .int x2), (4, .ref b4), (5, .int x5), (6, .int x6), (7, .int 0)] [] (sh, ta, m)) ∧ (x5 = 0 → K (some (.long ((x2 : Int32).toInt64))) m))) ∧ (¬ (m b4 1) ≤ x7 → sh[b]? = some (.inl 5) ∧ Cal G mX5_casesOf d [.ref b, .ref b4, .int x7] sh ta m (fun v4 m5 => ∃ r6, v4 = some (.int r6) ∧ WP G (rmD (d + 1) 0 0) mX5_odds (QC G sh ta K) 0 0 85 [(0, .ref b), (2, .int x2), (4, .ref b4), (5, .int (x5 * r6)), (6, .int (x6 * 16)), (7, .int (x7 + 1))] [] (sh, ta, m5))))) : WP G (rmD (d + 1) 0 0) mX5_odds (QC G sh ta K) 0 0 85 [(0, .ref b), (2, .int x2), (4, .ref b4), (5, .int x5), (6, .int x6), (7, .int x7)] [] (sh, ta, m) := by
  refine WP.iload 5 dX5_odds_85 rfl ?_
  refine WP.aload 2 dX5_odds_87 rfl ?_
  obtain ⟨h1, h⟩ := h
  refine WP.getIN 2 1 wf_X5_168 (by decide) (by decide) rfl h1 dX5_odds_89 ?_
  refine WP.icmp_ge (tgt := 121) dX5_odds_92 (by decide) (fun c2 => ?_) (fun c2 => ?_)
  · have h := h.1 c2
    refine WP.iload 3 dX5_odds_121 rfl ?_
    refine WP.if_ne (tgt := 129) dX5_odds_123 (by decide) (fun c3 => ?_) (fun c3 => ?_)
    · have h := h.1 c3
      refine WP.iconst (v := 0) dX5_odds_129 rfl ?_
      refine WP.istore (lv2 := [(7, .int 0), (0, .ref b), (2, .int x2), (4, .ref b4), (5, .int x5), (6, .int x6)]) dX5_odds_130 (by decide) rfl ?_
      exact WP.pick [2, 3, 4, 5, 0] rfl h
    · have h := h.2 c3
      refine WP.iload_n 1 dX5_odds_126 rfl rfl ?_
      refine WP.i2l dX5_odds_127 ?_
      exact WP.lret dX5_odds_128 rfl (Nat.le_refl _) (Nat.le_refl _) ⟨_, rfl, h⟩
  · have h := h.2 c2
    refine WP.iload 3 dX5_odds_95 rfl ?_
    refine WP.aload_n 0 dX5_odds_97 rfl rfl ?_
    refine WP.aload 2 dX5_odds_98 rfl ?_
    refine WP.iload 5 dX5_odds_100 rfl ?_
    obtain ⟨h8, h⟩ := h
    refine WP.callV (y := mX5_casesOf) (As := [.ref b4, .int x7]) (st := [.int x5]) dX5_odds_102 wm_X5_249 mw_X5_casesOf rfl (Nat.le_of_ble_eq_true rfl) (rmok d) h8 (by decide) rfl h (fun v4 Sm5 h7 => ?_)
    obtain ⟨m5, rfl, r6, rfl, h⟩ := h7
    show WP G _ _ _ 0 0 105 [(0, .ref b), (2, .int x2), (4, .ref b4), (5, .int x5), (6, .int x6), (7, .int x7)] [.int r6, .int x5] (sh, ta, m5)
    refine WP.imul dX5_odds_105 ?_
    refine WP.istore (lv2 := [(5, .int (x5 * r6)), (0, .ref b), (2, .int x2), (4, .ref b4), (6, .int x6), (7, .int x7)]) dX5_odds_106 (by decide) rfl ?_
    refine WP.iload 4 dX5_odds_108 rfl ?_
    refine WP.bipush (v := 16) dX5_odds_110 rfl ?_
    refine WP.imul dX5_odds_112 ?_
    refine WP.istore (lv2 := [(6, .int (x6 * 16)), (5, .int (x5 * r6)), (0, .ref b), (2, .int x2), (4, .ref b4), (7, .int x7)]) dX5_odds_113 (by decide) rfl ?_
    refine WP.iinc (lv2 := [(7, .int (x7 + 1)), (6, .int (x6 * 16)), (5, .int (x5 * r6)), (0, .ref b), (2, .int x2), (4, .ref b4)]) 5 1 dX5_odds_115 rfl rfl (by decide) rfl ?_
    refine WP.goto (tgt := 85) dX5_odds_118 (by decide) ?_
    exact WP.pick [3, 4, 5, 2, 1, 0] rfl h
set_option maxHeartbeats 4000000 in
set_option maxRecDepth 20000 in
theorem rg_X5_odds_132 (hG : fl G = false) (x2 : Int32) (b4 : Nat) (x5 : Int32) (x6 : Int32) (x7 : Int32) (h : sh[b4]? = some (.inl 2) ∧ (((4 * (m b4 1)) ≤ x7 → ((¬ x2 = 0 → K (some (.long ((x6 : Int32).toInt64))) m) ∧ (x2 = 0 → K (some (.long ((x5 : Int32).toInt64))) m))) ∧ (¬ (4 * (m b4 1)) ≤ x7 → ¬ (2 : Int32) = 0 ∧ ((¬ (x5 - x5 / 2 * 2) = 0 → ((¬ x2 = 0 → K (some (.long ((x6 : Int32).toInt64))) m) ∧ (x2 = 0 → K (some (.long ((x5 : Int32).toInt64))) m))) ∧ ((x5 - x5 / 2 * 2) = 0 → ¬ (2 : Int32) = 0 ∧ ¬ (2 : Int32) = 0 ∧ WP G (rmD (d + 1) 0 0) mX5_odds (QC G sh ta K) 0 0 132 [(2, .int x2), (4, .ref b4), (5, .int (x5 / 2)), (6, .int (x6 / 2)), (7, .int (x7 + 1))] [] (sh, ta, m)))))) : WP G (rmD (d + 1) 0 0) mX5_odds (QC G sh ta K) 0 0 132 [(2, .int x2), (4, .ref b4), (5, .int x5), (6, .int x6), (7, .int x7)] [] (sh, ta, m) := by
  refine WP.iload 4 dX5_odds_132 rfl ?_
  refine WP.iconst (v := 4) dX5_odds_134 rfl ?_
  refine WP.aload 1 dX5_odds_135 rfl ?_
  obtain ⟨h1, h⟩ := h
  refine WP.getIN 2 1 wf_X5_168 (by decide) (by decide) rfl h1 dX5_odds_137 ?_
  refine WP.imul dX5_odds_140 ?_
  refine WP.icmp_ge (tgt := 169) dX5_odds_141 (by decide) (fun c2 => ?_) (fun c2 => ?_)
  · have h := h.1 c2
    refine WP.iload_n 0 dX5_odds_169 rfl rfl ?_
    refine WP.if_ne (tgt := 179) dX5_odds_170 (by decide) (fun c3 => ?_) (fun c3 => ?_)
    · have h := h.1 c3
      refine WP.iload 3 dX5_odds_179 rfl ?_
      refine WP.i2l dX5_odds_181 ?_
      exact WP.lret dX5_odds_182 rfl (Nat.le_refl _) (Nat.le_refl _) ⟨_, rfl, h⟩
    · have h := h.2 c3
      refine WP.iload 2 dX5_odds_173 rfl ?_
      refine WP.i2l dX5_odds_175 ?_
      refine WP.goto (tgt := 182) dX5_odds_176 (by decide) ?_
      exact WP.lret dX5_odds_182 rfl (Nat.le_refl _) (Nat.le_refl _) ⟨_, rfl, h⟩
  · have h := h.2 c2
    refine WP.iload 2 dX5_odds_144 rfl ?_
    refine WP.iconst (v := 2) dX5_odds_146 rfl ?_
    obtain ⟨h4, h⟩ := h
    refine WP.irem dX5_odds_147 h4 ?_
    refine WP.if_ne (tgt := 169) dX5_odds_148 (by decide) (fun c5 => ?_) (fun c5 => ?_)
    · have h := h.1 c5
      refine WP.iload_n 0 dX5_odds_169 rfl rfl ?_
      refine WP.if_ne (tgt := 179) dX5_odds_170 (by decide) (fun c6 => ?_) (fun c6 => ?_)
      · have h := h.1 c6
        refine WP.iload 3 dX5_odds_179 rfl ?_
        refine WP.i2l dX5_odds_181 ?_
        exact WP.lret dX5_odds_182 rfl (Nat.le_refl _) (Nat.le_refl _) ⟨_, rfl, h⟩
      · have h := h.2 c6
        refine WP.iload 2 dX5_odds_173 rfl ?_
        refine WP.i2l dX5_odds_175 ?_
        refine WP.goto (tgt := 182) dX5_odds_176 (by decide) ?_
        exact WP.lret dX5_odds_182 rfl (Nat.le_refl _) (Nat.le_refl _) ⟨_, rfl, h⟩
    · have h := h.2 c5
      refine WP.iload 2 dX5_odds_151 rfl ?_
      refine WP.iconst (v := 2) dX5_odds_153 rfl ?_
      obtain ⟨h7, h⟩ := h
      refine WP.idiv dX5_odds_154 h7 ?_
      refine WP.istore (lv2 := [(5, .int (x5 / 2)), (2, .int x2), (4, .ref b4), (6, .int x6), (7, .int x7)]) dX5_odds_155 (by decide) rfl ?_
      refine WP.iload 3 dX5_odds_157 rfl ?_
      refine WP.iconst (v := 2) dX5_odds_159 rfl ?_
      obtain ⟨h8, h⟩ := h
      refine WP.idiv dX5_odds_160 h8 ?_
      refine WP.istore (lv2 := [(6, .int (x6 / 2)), (5, .int (x5 / 2)), (2, .int x2), (4, .ref b4), (7, .int x7)]) dX5_odds_161 (by decide) rfl ?_
      refine WP.iinc (lv2 := [(7, .int (x7 + 1)), (6, .int (x6 / 2)), (5, .int (x5 / 2)), (2, .int x2), (4, .ref b4)]) 4 1 dX5_odds_163 rfl rfl (by decide) rfl ?_
      refine WP.goto (tgt := 132) dX5_odds_166 (by decide) ?_
      exact WP.pick [3, 4, 2, 1, 0] rfl h
set_option maxHeartbeats 4000000 in
set_option maxRecDepth 20000 in
theorem rg_X5_seen_0 (hG : fl G = false) (b : Nat) (x1 : Int32) (x2 : Int32) (h : ((x1 < 0 → sh[b]? = some (.inl 5) ∧ Cal G mX5_refuse d [.ref b, .int 1] sh ta m (fun v2 m3 => ∃ r4, v2 = some (.int r4) ∧ K (some (.int r4)) m3)) ∧ (¬ x1 < 0 → (((4 : Int32) ≤ x1 → sh[b]? = some (.inl 5) ∧ Cal G mX5_refuse d [.ref b, .int 1] sh ta m (fun v8 m9 => ∃ r10, v8 = some (.int r10) ∧ K (some (.int r10)) m9)) ∧ (¬ (4 : Int32) ≤ x1 → ((x2 < 0 → sh[b]? = some (.inl 5) ∧ Cal G mX5_refuse d [.ref b, .int 1] sh ta m (fun v14 m15 => ∃ r16, v14 = some (.int r16) ∧ K (some (.int r16)) m15)) ∧ (¬ x2 < 0 → ((x2 < (5 : Int32) → WP G (rmD (d + 1) 0 0) mX5_seen (QC G sh ta K) 0 0 26 [(0, .ref b), (2, .int x2), (3, .int x1)] [] (sh, ta, m)) ∧ (¬ x2 < (5 : Int32) → sh[b]? = some (.inl 5) ∧ Cal G mX5_refuse d [.ref b, .int 1] sh ta m (fun v20 m21 => ∃ r22, v20 = some (.int r22) ∧ K (some (.int r22)) m21)))))))))) : WP G (rmD (d + 1) 0 0) mX5_seen (QC G sh ta K) 0 0 0 [(0, .ref b), (1, .int x1), (2, .int x2)] [] (sh, ta, m) := by
  refine WP.iload_n 1 dX5_seen_0 rfl rfl ?_
  refine WP.if_lt (tgt := 18) dX5_seen_1 (by decide) (fun c1 => ?_) (fun c1 => ?_)
  · have h := h.1 c1
    refine WP.aload_n 0 dX5_seen_18 rfl rfl ?_
    refine WP.iconst (v := 1) dX5_seen_19 rfl ?_
    obtain ⟨h6, h⟩ := h
    refine WP.callV (y := mX5_refuse) (As := [.int 1]) (st := []) dX5_seen_20 wm_X5_87 mw_X5_refuse rfl (Nat.le_of_ble_eq_true rfl) (rmok d) h6 (by decide) rfl h (fun v2 Sm3 h5 => ?_)
    obtain ⟨m3, rfl, r4, rfl, h⟩ := h5
    show WP G _ _ _ 0 0 23 [(0, .ref b), (1, .int x1), (2, .int x2)] [.int r4] (sh, ta, m3)
    exact WP.iret dX5_seen_23 rfl (Nat.le_refl _) (Nat.le_refl _) ⟨_, rfl, h⟩
  · have h := h.2 c1
    refine WP.iload_n 1 dX5_seen_4 rfl rfl ?_
    refine WP.iconst (v := 4) dX5_seen_5 rfl ?_
    refine WP.icmp_ge (tgt := 18) dX5_seen_6 (by decide) (fun c7 => ?_) (fun c7 => ?_)
    · have h := h.1 c7
      refine WP.aload_n 0 dX5_seen_18 rfl rfl ?_
      refine WP.iconst (v := 1) dX5_seen_19 rfl ?_
      obtain ⟨h12, h⟩ := h
      refine WP.callV (y := mX5_refuse) (As := [.int 1]) (st := []) dX5_seen_20 wm_X5_87 mw_X5_refuse rfl (Nat.le_of_ble_eq_true rfl) (rmok d) h12 (by decide) rfl h (fun v8 Sm9 h11 => ?_)
      obtain ⟨m9, rfl, r10, rfl, h⟩ := h11
      show WP G _ _ _ 0 0 23 [(0, .ref b), (1, .int x1), (2, .int x2)] [.int r10] (sh, ta, m9)
      exact WP.iret dX5_seen_23 rfl (Nat.le_refl _) (Nat.le_refl _) ⟨_, rfl, h⟩
    · have h := h.2 c7
      refine WP.iload_n 2 dX5_seen_9 rfl rfl ?_
      refine WP.if_lt (tgt := 18) dX5_seen_10 (by decide) (fun c13 => ?_) (fun c13 => ?_)
      · have h := h.1 c13
        refine WP.aload_n 0 dX5_seen_18 rfl rfl ?_
        refine WP.iconst (v := 1) dX5_seen_19 rfl ?_
        obtain ⟨h18, h⟩ := h
        refine WP.callV (y := mX5_refuse) (As := [.int 1]) (st := []) dX5_seen_20 wm_X5_87 mw_X5_refuse rfl (Nat.le_of_ble_eq_true rfl) (rmok d) h18 (by decide) rfl h (fun v14 Sm15 h17 => ?_)
        obtain ⟨m15, rfl, r16, rfl, h⟩ := h17
        show WP G _ _ _ 0 0 23 [(0, .ref b), (1, .int x1), (2, .int x2)] [.int r16] (sh, ta, m15)
        exact WP.iret dX5_seen_23 rfl (Nat.le_refl _) (Nat.le_refl _) ⟨_, rfl, h⟩
      · have h := h.2 c13
        refine WP.iload_n 2 dX5_seen_13 rfl rfl ?_
        refine WP.iconst (v := 5) dX5_seen_14 rfl ?_
        refine WP.icmp_lt (tgt := 24) dX5_seen_15 (by decide) (fun c19 => ?_) (fun c19 => ?_)
        · have h := h.1 c19
          refine WP.iload_n 1 dX5_seen_24 rfl rfl ?_
          refine WP.istore_n (lv2 := [(3, .int x1), (0, .ref b), (1, .int x1), (2, .int x2)]) dX5_seen_25 rfl (by decide) rfl ?_
          exact WP.pick [1, 3, 0] rfl h
        · have h := h.2 c19
          refine WP.aload_n 0 dX5_seen_18 rfl rfl ?_
          refine WP.iconst (v := 1) dX5_seen_19 rfl ?_
          obtain ⟨h24, h⟩ := h
          refine WP.callV (y := mX5_refuse) (As := [.int 1]) (st := []) dX5_seen_20 wm_X5_87 mw_X5_refuse rfl (Nat.le_of_ble_eq_true rfl) (rmok d) h24 (by decide) rfl h (fun v20 Sm21 h23 => ?_)
          obtain ⟨m21, rfl, r22, rfl, h⟩ := h23
          show WP G _ _ _ 0 0 23 [(0, .ref b), (1, .int x1), (2, .int x2)] [.int r22] (sh, ta, m21)
          exact WP.iret dX5_seen_23 rfl (Nat.le_refl _) (Nat.le_refl _) ⟨_, rfl, h⟩
set_option maxHeartbeats 4000000 in
set_option maxRecDepth 20000 in
theorem rg_X5_seen_26 (hG : fl G = false) (b : Nat) (x2 : Int32) (x3 : Int32) (h : (((16 : Int32) ≤ x3 → sh[b]? = some (.inl 5) ∧ Cal G mX5_refuse d [.ref b, .int 2] sh ta m (fun v2 m3 => ∃ r4, v2 = some (.int r4) ∧ K (some (.int r4)) m3)) ∧ (¬ (16 : Int32) ≤ x3 → sh[b]? = some (.inl 5) ∧ ∃ i8, ta b 0 = some i8 ∧ sh[i8]? = some (.inl 0) ∧ Cal G mX0_thingAt d [.ref i8, .int x3, .int x2] sh ta m (fun v10 m11 => ∃ r12, v10 = some (.int r12) ∧ ((r12 < 0 → WP G (rmD (d + 1) 0 0) mX5_seen (QC G sh ta K) 0 0 26 [(0, .ref b), (2, .int x2), (3, .int (x3 + 4))] [] (sh, ta, m11)) ∧ (¬ r12 < 0 → K (some (.int r12)) m11)))))) : WP G (rmD (d + 1) 0 0) mX5_seen (QC G sh ta K) 0 0 26 [(0, .ref b), (2, .int x2), (3, .int x3)] [] (sh, ta, m) := by
  refine WP.iload_n 2 dX5_seen_26 rfl rfl ?_
  refine WP.bipush (v := 16) dX5_seen_27 rfl ?_
  refine WP.icmp_ge (tgt := 57) dX5_seen_29 (by decide) (fun c1 => ?_) (fun c1 => ?_)
  · have h := h.1 c1
    refine WP.aload_n 0 dX5_seen_57 rfl rfl ?_
    refine WP.iconst (v := 2) dX5_seen_58 rfl ?_
    obtain ⟨h6, h⟩ := h
    refine WP.callV (y := mX5_refuse) (As := [.int 2]) (st := []) dX5_seen_59 wm_X5_87 mw_X5_refuse rfl (Nat.le_of_ble_eq_true rfl) (rmok d) h6 (by decide) rfl h (fun v2 Sm3 h5 => ?_)
    obtain ⟨m3, rfl, r4, rfl, h⟩ := h5
    show WP G _ _ _ 0 0 62 [(0, .ref b), (2, .int x2), (3, .int x3)] [.int r4] (sh, ta, m3)
    exact WP.iret dX5_seen_62 rfl (Nat.le_refl _) (Nat.le_refl _) ⟨_, rfl, h⟩
  · have h := h.2 c1
    refine WP.aload_n 0 dX5_seen_32 rfl rfl ?_
    obtain ⟨h7, h⟩ := h
    obtain ⟨i8, h9, h⟩ := h
    refine WP.getR 5 0 wf_X5_67 (by decide) (by decide) rfl h7 h9 dX5_seen_33 ?_
    refine WP.iload_n 2 dX5_seen_36 rfl rfl ?_
    refine WP.iload_n 1 dX5_seen_37 rfl rfl ?_
    obtain ⟨h14, h⟩ := h
    refine WP.callV (y := mX0_thingAt) (As := [.int x3, .int x2]) (st := []) dX5_seen_38 wm_X5_161 mw_X0_thingAt rfl (Nat.le_of_ble_eq_true rfl) (rmok d) h14 (by decide) rfl h (fun v10 Sm11 h13 => ?_)
    obtain ⟨m11, rfl, r12, rfl, h⟩ := h13
    show WP G _ _ _ 0 0 41 [(0, .ref b), (2, .int x2), (3, .int x3)] [.int r12] (sh, ta, m11)
    refine WP.istore (lv2 := [(4, .int r12), (0, .ref b), (2, .int x2), (3, .int x3)]) dX5_seen_41 (by decide) rfl ?_
    refine WP.iload 0 dX5_seen_43 rfl ?_
    refine WP.if_lt (tgt := 51) dX5_seen_45 (by decide) (fun c15 => ?_) (fun c15 => ?_)
    · have h := h.1 c15
      refine WP.iinc (lv2 := [(3, .int (x3 + 4)), (4, .int r12), (0, .ref b), (2, .int x2)]) 3 4 dX5_seen_51 rfl rfl (by decide) rfl ?_
      refine WP.goto (tgt := 26) dX5_seen_54 (by decide) ?_
      exact WP.pick [2, 3, 0] rfl h
    · have h := h.2 c15
      refine WP.iload 0 dX5_seen_48 rfl ?_
      exact WP.iret dX5_seen_50 rfl (Nat.le_refl _) (Nat.le_refl _) ⟨_, rfl, h⟩
set_option maxHeartbeats 4000000 in
set_option maxRecDepth 20000 in
theorem rg_X5_fill_0 (hG : fl G = false) (b : Nat) (x1 : Int32) (h : ((x1 < 0 → sh[b]? = some (.inl 5) ∧ Cal G mX5_refuse d [.ref b, .int 1] sh ta m (fun v2 m3 => ∃ r4, v2 = some (.int r4) ∧ K (some (.int r4)) m3)) ∧ (¬ x1 < 0 → ((x1 ≤ (5 : Int32) → WP G (rmD (d + 1) 0 0) mX5_fill (QC G sh ta K) 0 0 19 [(0, .ref b), (1, .int x1), (2, .int 0), (3, .int 1)] [] (sh, ta, m)) ∧ (¬ x1 ≤ (5 : Int32) → sh[b]? = some (.inl 5) ∧ Cal G mX5_refuse d [.ref b, .int 1] sh ta m (fun v8 m9 => ∃ r10, v8 = some (.int r10) ∧ K (some (.int r10)) m9)))))) : WP G (rmD (d + 1) 0 0) mX5_fill (QC G sh ta K) 0 0 0 [(0, .ref b), (1, .int x1)] [] (sh, ta, m) := by
  refine WP.iload_n 1 dX5_fill_0 rfl rfl ?_
  refine WP.if_lt (tgt := 9) dX5_fill_1 (by decide) (fun c1 => ?_) (fun c1 => ?_)
  · have h := h.1 c1
    refine WP.aload_n 0 dX5_fill_9 rfl rfl ?_
    refine WP.iconst (v := 1) dX5_fill_10 rfl ?_
    obtain ⟨h6, h⟩ := h
    refine WP.callV (y := mX5_refuse) (As := [.int 1]) (st := []) dX5_fill_11 wm_X5_87 mw_X5_refuse rfl (Nat.le_of_ble_eq_true rfl) (rmok d) h6 (by decide) rfl h (fun v2 Sm3 h5 => ?_)
    obtain ⟨m3, rfl, r4, rfl, h⟩ := h5
    show WP G _ _ _ 0 0 14 [(0, .ref b), (1, .int x1)] [.int r4] (sh, ta, m3)
    exact WP.iret dX5_fill_14 rfl (Nat.le_refl _) (Nat.le_refl _) ⟨_, rfl, h⟩
  · have h := h.2 c1
    refine WP.iload_n 1 dX5_fill_4 rfl rfl ?_
    refine WP.iconst (v := 5) dX5_fill_5 rfl ?_
    refine WP.icmp_le (tgt := 15) dX5_fill_6 (by decide) (fun c7 => ?_) (fun c7 => ?_)
    · have h := h.1 c7
      refine WP.iconst (v := 0) dX5_fill_15 rfl ?_
      refine WP.istore_n (lv2 := [(2, .int 0), (0, .ref b), (1, .int x1)]) dX5_fill_16 rfl (by decide) rfl ?_
      refine WP.iconst (v := 1) dX5_fill_17 rfl ?_
      refine WP.istore_n (lv2 := [(3, .int 1), (2, .int 0), (0, .ref b), (1, .int x1)]) dX5_fill_18 rfl (by decide) rfl ?_
      exact WP.pick [2, 3, 1, 0] rfl h
    · have h := h.2 c7
      refine WP.aload_n 0 dX5_fill_9 rfl rfl ?_
      refine WP.iconst (v := 1) dX5_fill_10 rfl ?_
      obtain ⟨h12, h⟩ := h
      refine WP.callV (y := mX5_refuse) (As := [.int 1]) (st := []) dX5_fill_11 wm_X5_87 mw_X5_refuse rfl (Nat.le_of_ble_eq_true rfl) (rmok d) h12 (by decide) rfl h (fun v8 Sm9 h11 => ?_)
      obtain ⟨m9, rfl, r10, rfl, h⟩ := h11
      show WP G _ _ _ 0 0 14 [(0, .ref b), (1, .int x1)] [.int r10] (sh, ta, m9)
      exact WP.iret dX5_fill_14 rfl (Nat.le_refl _) (Nat.le_refl _) ⟨_, rfl, h⟩
set_option maxHeartbeats 4000000 in
set_option maxRecDepth 20000 in
theorem rg_X5_fill_19 (hG : fl G = false) (b : Nat) (x1 : Int32) (x2 : Int32) (x3 : Int32) (h : (((16 : Int32) ≤ x3 → K (some (.int x2)) m) ∧ (¬ (16 : Int32) ≤ x3 → sh[b]? = some (.inl 5) ∧ ∃ i3, ta b 0 = some i3 ∧ sh[i3]? = some (.inl 0) ∧ Cal G mX0_highOf d [.ref i3, .int x3] sh ta m (fun v5 m6 => ∃ r7, v5 = some (.int r7) ∧ WP G (rmD (d + 1) 0 0) mX5_fill (QC G sh ta K) 0 0 19 [(0, .ref b), (1, .int x1), (2, .int (x2 + (if (0 : Int32) < (x1 - r7) then (x1 - r7) else (0 : Int32)))), (3, .int (x3 + 1))] [] (sh, ta, m6))))) : WP G (rmD (d + 1) 0 0) mX5_fill (QC G sh ta K) 0 0 19 [(0, .ref b), (1, .int x1), (2, .int x2), (3, .int x3)] [] (sh, ta, m) := by
  refine WP.iload_n 3 dX5_fill_19 rfl rfl ?_
  refine WP.bipush (v := 16) dX5_fill_20 rfl ?_
  refine WP.icmp_ge (tgt := 48) dX5_fill_22 (by decide) (fun c1 => ?_) (fun c1 => ?_)
  · have h := h.1 c1
    refine WP.iload_n 2 dX5_fill_48 rfl rfl ?_
    exact WP.iret dX5_fill_49 rfl (Nat.le_refl _) (Nat.le_refl _) ⟨_, rfl, h⟩
  · have h := h.2 c1
    refine WP.iload_n 2 dX5_fill_25 rfl rfl ?_
    refine WP.iconst (v := 0) dX5_fill_26 rfl ?_
    refine WP.iload_n 1 dX5_fill_27 rfl rfl ?_
    refine WP.aload_n 0 dX5_fill_28 rfl rfl ?_
    obtain ⟨h2, h⟩ := h
    obtain ⟨i3, h4, h⟩ := h
    refine WP.getR 5 0 wf_X5_67 (by decide) (by decide) rfl h2 h4 dX5_fill_29 ?_
    refine WP.iload_n 3 dX5_fill_32 rfl rfl ?_
    obtain ⟨h9, h⟩ := h
    refine WP.callV (y := mX0_highOf) (As := [.int x3]) (st := [.int x1, .int 0, .int x2]) dX5_fill_33 wm_X5_95 mw_X0_highOf rfl (Nat.le_of_ble_eq_true rfl) (rmok d) h9 (by decide) rfl h (fun v5 Sm6 h8 => ?_)
    obtain ⟨m6, rfl, r7, rfl, h⟩ := h8
    show WP G _ _ _ 0 0 36 [(0, .ref b), (1, .int x1), (2, .int x2), (3, .int x3)] [.int r7, .int x1, .int 0, .int x2] (sh, ta, m6)
    refine WP.isub dX5_fill_36 ?_
    refine WP.mmax wm_X5_253 (Nat.le_of_ble_eq_true rfl) (rmok0 d) dX5_fill_37 ?_
    refine WP.iadd dX5_fill_40 ?_
    refine WP.istore_n (lv2 := [(2, .int (x2 + (if (0 : Int32) < (x1 - r7) then (x1 - r7) else (0 : Int32)))), (0, .ref b), (1, .int x1), (3, .int x3)]) dX5_fill_41 rfl (by decide) rfl ?_
    refine WP.iinc (lv2 := [(3, .int (x3 + 1)), (2, .int (x2 + (if (0 : Int32) < (x1 - r7) then (x1 - r7) else (0 : Int32)))), (0, .ref b), (1, .int x1)]) 3 1 dX5_fill_42 rfl rfl (by decide) rfl ?_
    refine WP.goto (tgt := 19) dX5_fill_45 (by decide) ?_
    exact WP.pick [2, 3, 1, 0] rfl h
set_option maxHeartbeats 4000000 in
set_option maxRecDepth 20000 in
theorem rg_X5_voice_0 (hG : fl G = false) (b : Nat) (x1 : Int32) (x2 : Int32) (x3 : Int32) (h : sh[b]? = some (.inl 5) ∧ ∃ i2, ta b 0 = some i2 ∧ sh[i2]? = some (.inl 0) ∧ Cal G mX0_has d [.ref i2, .int x1] sh ta m (fun v4 m5 => ∃ r6, v4 = some (.int r6) ∧ ((r6 = 0 → Cal G mX5_refuse d [.ref b, .int 1] sh ta m5 (fun v10 m11 => ∃ r12, v10 = some (.int r12) ∧ K (some (.int r12)) m11)) ∧ (¬ r6 = 0 → ((x2 < 0 → Cal G mX5_refuse d [.ref b, .int 1] sh ta m5 (fun v15 m16 => ∃ r17, v15 = some (.int r17) ∧ K (some (.int r17)) m16)) ∧ (¬ x2 < 0 → ((x2 ≤ (3 : Int32) → ∃ i20, ta b 9 = some i20 ∧ Cal G mX0_kindOf d [.ref i2, .int x1] sh ta m5 (fun v22 m23 => ∃ r24, v22 = some (.int r24) ∧ Cal G mX0_mOf d [.ref i2, .int x1] sh ta m23 (fun v26 m27 => ∃ r28, v26 = some (.int r28) ∧ sh[i20]? = some (.inl 4) ∧ Cal G mX4_begin d [.ref i20, .int r24, .int x1, .int r28, .int x2, .int x3] sh ta m27 (fun v30 m31 => ∃ r32, v30 = some (.int r32) ∧ ((r32 = 0 → Cal G mX5_refuse d [.ref b, .int 6] sh ta m31 (fun v36 m37 => ∃ r38, v36 = some (.int r38) ∧ K (some (.int r38)) m37)) ∧ (¬ r32 = 0 → K (some (.int (m31 i20 5))) m31)))))) ∧ (¬ x2 ≤ (3 : Int32) → Cal G mX5_refuse d [.ref b, .int 1] sh ta m5 (fun v40 m41 => ∃ r42, v40 = some (.int r42) ∧ K (some (.int r42)) m41))))))))) : WP G (rmD (d + 1) 0 0) mX5_voice (QC G sh ta K) 0 0 0 [(0, .ref b), (1, .int x1), (2, .int x2), (3, .int x3)] [] (sh, ta, m) := by
  refine WP.aload_n 0 dX5_voice_0 rfl rfl ?_
  obtain ⟨h1, h⟩ := h
  obtain ⟨i2, h3, h⟩ := h
  refine WP.getR 5 0 wf_X5_67 (by decide) (by decide) rfl h1 h3 dX5_voice_1 ?_
  refine WP.iload_n 1 dX5_voice_4 rfl rfl ?_
  obtain ⟨h8, h⟩ := h
  refine WP.callV (y := mX0_has) (As := [.int x1]) (st := []) dX5_voice_5 wm_X5_102 mw_X0_has rfl (Nat.le_of_ble_eq_true rfl) (rmok d) h8 (by decide) rfl h (fun v4 Sm5 h7 => ?_)
  obtain ⟨m5, rfl, r6, rfl, h⟩ := h7
  show WP G _ _ _ 0 0 8 [(0, .ref b), (1, .int x1), (2, .int x2), (3, .int x3)] [.int r6] (sh, ta, m5)
  refine WP.if_eq (tgt := 20) dX5_voice_8 (by decide) (fun c9 => ?_) (fun c9 => ?_)
  · have h := h.1 c9
    refine WP.aload_n 0 dX5_voice_20 rfl rfl ?_
    refine WP.iconst (v := 1) dX5_voice_21 rfl ?_
    refine WP.callV (y := mX5_refuse) (As := [.int 1]) (st := []) dX5_voice_22 wm_X5_87 mw_X5_refuse rfl (Nat.le_of_ble_eq_true rfl) (rmok d) h1 (by decide) rfl h (fun v10 Sm11 h13 => ?_)
    obtain ⟨m11, rfl, r12, rfl, h⟩ := h13
    show WP G _ _ _ 0 0 25 [(0, .ref b), (1, .int x1), (2, .int x2), (3, .int x3)] [.int r12] (sh, ta, m11)
    exact WP.iret dX5_voice_25 rfl (Nat.le_refl _) (Nat.le_refl _) ⟨_, rfl, h⟩
  · have h := h.2 c9
    refine WP.iload_n 2 dX5_voice_11 rfl rfl ?_
    refine WP.if_lt (tgt := 20) dX5_voice_12 (by decide) (fun c14 => ?_) (fun c14 => ?_)
    · have h := h.1 c14
      refine WP.aload_n 0 dX5_voice_20 rfl rfl ?_
      refine WP.iconst (v := 1) dX5_voice_21 rfl ?_
      refine WP.callV (y := mX5_refuse) (As := [.int 1]) (st := []) dX5_voice_22 wm_X5_87 mw_X5_refuse rfl (Nat.le_of_ble_eq_true rfl) (rmok d) h1 (by decide) rfl h (fun v15 Sm16 h18 => ?_)
      obtain ⟨m16, rfl, r17, rfl, h⟩ := h18
      show WP G _ _ _ 0 0 25 [(0, .ref b), (1, .int x1), (2, .int x2), (3, .int x3)] [.int r17] (sh, ta, m16)
      exact WP.iret dX5_voice_25 rfl (Nat.le_refl _) (Nat.le_refl _) ⟨_, rfl, h⟩
    · have h := h.2 c14
      refine WP.iload_n 2 dX5_voice_15 rfl rfl ?_
      refine WP.iconst (v := 3) dX5_voice_16 rfl ?_
      refine WP.icmp_le (tgt := 26) dX5_voice_17 (by decide) (fun c19 => ?_) (fun c19 => ?_)
      · have h := h.1 c19
        refine WP.aload_n 0 dX5_voice_26 rfl rfl ?_
        obtain ⟨i20, h21, h⟩ := h
        refine WP.getR 5 9 wf_X5_44 (by decide) (by decide) rfl h1 h21 dX5_voice_27 ?_
        refine WP.aload_n 0 dX5_voice_30 rfl rfl ?_
        refine WP.getR 5 0 wf_X5_67 (by decide) (by decide) rfl h1 h3 dX5_voice_31 ?_
        refine WP.iload_n 1 dX5_voice_34 rfl rfl ?_
        refine WP.callV (y := mX0_kindOf) (As := [.int x1]) (st := [.ref i20]) dX5_voice_35 wm_X5_105 mw_X0_kindOf rfl (Nat.le_of_ble_eq_true rfl) (rmok d) h8 (by decide) rfl h (fun v22 Sm23 h25 => ?_)
        obtain ⟨m23, rfl, r24, rfl, h⟩ := h25
        show WP G _ _ _ 0 0 38 [(0, .ref b), (1, .int x1), (2, .int x2), (3, .int x3)] [.int r24, .ref i20] (sh, ta, m23)
        refine WP.iload_n 1 dX5_voice_38 rfl rfl ?_
        refine WP.aload_n 0 dX5_voice_39 rfl rfl ?_
        refine WP.getR 5 0 wf_X5_67 (by decide) (by decide) rfl h1 h3 dX5_voice_40 ?_
        refine WP.iload_n 1 dX5_voice_43 rfl rfl ?_
        refine WP.callV (y := mX0_mOf) (As := [.int x1]) (st := [.int x1, .int r24, .ref i20]) dX5_voice_44 wm_X5_108 mw_X0_mOf rfl (Nat.le_of_ble_eq_true rfl) (rmok d) h8 (by decide) rfl h (fun v26 Sm27 h29 => ?_)
        obtain ⟨m27, rfl, r28, rfl, h⟩ := h29
        show WP G _ _ _ 0 0 47 [(0, .ref b), (1, .int x1), (2, .int x2), (3, .int x3)] [.int r28, .int x1, .int r24, .ref i20] (sh, ta, m27)
        refine WP.iload_n 2 dX5_voice_47 rfl rfl ?_
        refine WP.iload_n 3 dX5_voice_48 rfl rfl ?_
        obtain ⟨h34, h⟩ := h
        refine WP.callV (y := mX4_begin) (As := [.int r24, .int x1, .int r28, .int x2, .int x3]) (st := []) dX5_voice_49 wm_X5_258 mw_X4_begin rfl (Nat.le_of_ble_eq_true rfl) (rmok d) h34 (by decide) rfl h (fun v30 Sm31 h33 => ?_)
        obtain ⟨m31, rfl, r32, rfl, h⟩ := h33
        show WP G _ _ _ 0 0 52 [(0, .ref b), (1, .int x1), (2, .int x2), (3, .int x3)] [.int r32] (sh, ta, m31)
        refine WP.istore (lv2 := [(4, .int r32), (0, .ref b), (1, .int x1), (2, .int x2), (3, .int x3)]) dX5_voice_52 (by decide) rfl ?_
        refine WP.iload 0 dX5_voice_54 rfl ?_
        refine WP.if_eq (tgt := 69) dX5_voice_56 (by decide) (fun c35 => ?_) (fun c35 => ?_)
        · have h := h.1 c35
          refine WP.aload_n 1 dX5_voice_69 rfl rfl ?_
          refine WP.bipush (v := 6) dX5_voice_70 rfl ?_
          refine WP.callV (y := mX5_refuse) (As := [.int 6]) (st := []) dX5_voice_72 wm_X5_87 mw_X5_refuse rfl (Nat.le_of_ble_eq_true rfl) (rmok d) h1 (by decide) rfl h (fun v36 Sm37 h39 => ?_)
          obtain ⟨m37, rfl, r38, rfl, h⟩ := h39
          show WP G _ _ _ 0 0 75 [(4, .int r32), (0, .ref b), (1, .int x1), (2, .int x2), (3, .int x3)] [.int r38] (sh, ta, m37)
          exact WP.iret dX5_voice_75 rfl (Nat.le_refl _) (Nat.le_refl _) ⟨_, rfl, h⟩
        · have h := h.2 c35
          refine WP.aload_n 1 dX5_voice_59 rfl rfl ?_
          refine WP.getR 5 9 wf_X5_44 (by decide) (by decide) rfl h1 h21 dX5_voice_60 ?_
          refine WP.getIN 4 5 wf_X5_262 (by decide) (by decide) rfl h34 dX5_voice_63 ?_
          refine WP.goto (tgt := 75) dX5_voice_66 (by decide) ?_
          exact WP.iret dX5_voice_75 rfl (Nat.le_refl _) (Nat.le_refl _) ⟨_, rfl, h⟩
      · have h := h.2 c19
        refine WP.aload_n 0 dX5_voice_20 rfl rfl ?_
        refine WP.iconst (v := 1) dX5_voice_21 rfl ?_
        refine WP.callV (y := mX5_refuse) (As := [.int 1]) (st := []) dX5_voice_22 wm_X5_87 mw_X5_refuse rfl (Nat.le_of_ble_eq_true rfl) (rmok d) h1 (by decide) rfl h (fun v40 Sm41 h43 => ?_)
        obtain ⟨m41, rfl, r42, rfl, h⟩ := h43
        show WP G _ _ _ 0 0 25 [(0, .ref b), (1, .int x1), (2, .int x2), (3, .int x3)] [.int r42] (sh, ta, m41)
        exact WP.iret dX5_voice_25 rfl (Nat.le_refl _) (Nat.le_refl _) ⟨_, rfl, h⟩
set_option maxHeartbeats 4000000 in
set_option maxRecDepth 20000 in
theorem rg_X5_body_0 (hG : fl G = false) (b : Nat) (x1 : Int32) (h : sh[b]? = some (.inl 5) ∧ ∃ i2, ta b 9 = some i2 ∧ sh[i2]? = some (.inl 4) ∧ ∃ i5, ta i2 0 = some i5 ∧ sh[i5]? = some (.inl 2) ∧ Cal G mX2_holds d [.ref i5, .int x1] sh ta m (fun v7 m8 => ∃ r9, v7 = some (.int r9) ∧ ((r9 = 0 → Cal G mX5_refuse d [.ref b, .int 2] sh ta m8 (fun v13 m14 => ∃ r15, v13 = some (.int r15) ∧ K (some (.int r15)) m14)) ∧ (¬ r9 = 0 → Cal G mX2_at d [.ref i5, .int x1] sh ta m8 (fun v17 m18 => ∃ r19, v17 = some (.int r19) ∧ K (some (.int r19)) m18))))) : WP G (rmD (d + 1) 0 0) mX5_body (QC G sh ta K) 0 0 0 [(0, .ref b), (1, .int x1)] [] (sh, ta, m) := by
  refine WP.aload_n 0 dX5_body_0 rfl rfl ?_
  obtain ⟨h1, h⟩ := h
  obtain ⟨i2, h3, h⟩ := h
  refine WP.getR 5 9 wf_X5_44 (by decide) (by decide) rfl h1 h3 dX5_body_1 ?_
  obtain ⟨h4, h⟩ := h
  obtain ⟨i5, h6, h⟩ := h
  refine WP.getRN 4 0 wf_X5_265 (by decide) (by decide) rfl h4 h6 dX5_body_4 ?_
  refine WP.iload_n 1 dX5_body_7 rfl rfl ?_
  obtain ⟨h11, h⟩ := h
  refine WP.callV (y := mX2_holds) (As := [.int x1]) (st := []) dX5_body_8 wm_X5_268 mw_X2_holds rfl (Nat.le_of_ble_eq_true rfl) (rmok d) h11 (by decide) rfl h (fun v7 Sm8 h10 => ?_)
  obtain ⟨m8, rfl, r9, rfl, h⟩ := h10
  show WP G _ _ _ 0 0 11 [(0, .ref b), (1, .int x1)] [.int r9] (sh, ta, m8)
  refine WP.if_eq (tgt := 28) dX5_body_11 (by decide) (fun c12 => ?_) (fun c12 => ?_)
  · have h := h.1 c12
    refine WP.aload_n 0 dX5_body_28 rfl rfl ?_
    refine WP.iconst (v := 2) dX5_body_29 rfl ?_
    refine WP.callV (y := mX5_refuse) (As := [.int 2]) (st := []) dX5_body_30 wm_X5_87 mw_X5_refuse rfl (Nat.le_of_ble_eq_true rfl) (rmok d) h1 (by decide) rfl h (fun v13 Sm14 h16 => ?_)
    obtain ⟨m14, rfl, r15, rfl, h⟩ := h16
    show WP G _ _ _ 0 0 33 [(0, .ref b), (1, .int x1)] [.int r15] (sh, ta, m14)
    exact WP.iret dX5_body_33 rfl (Nat.le_refl _) (Nat.le_refl _) ⟨_, rfl, h⟩
  · have h := h.2 c12
    refine WP.aload_n 0 dX5_body_14 rfl rfl ?_
    refine WP.getR 5 9 wf_X5_44 (by decide) (by decide) rfl h1 h3 dX5_body_15 ?_
    refine WP.getRN 4 0 wf_X5_265 (by decide) (by decide) rfl h4 h6 dX5_body_18 ?_
    refine WP.iload_n 1 dX5_body_21 rfl rfl ?_
    refine WP.callV (y := mX2_at) (As := [.int x1]) (st := []) dX5_body_22 wm_X5_210 mw_X2_at rfl (Nat.le_of_ble_eq_true rfl) (rmok d) h11 (by decide) rfl h (fun v17 Sm18 h20 => ?_)
    obtain ⟨m18, rfl, r19, rfl, h⟩ := h20
    show WP G _ _ _ 0 0 25 [(0, .ref b), (1, .int x1)] [.int r19] (sh, ta, m18)
    refine WP.goto (tgt := 33) dX5_body_25 (by decide) ?_
    exact WP.iret dX5_body_33 rfl (Nat.le_refl _) (Nat.le_refl _) ⟨_, rfl, h⟩
set_option maxHeartbeats 4000000 in
set_option maxRecDepth 20000 in
theorem rg_X5_sheet_0 (hG : fl G = false) (b : Nat) (x1 : Int32) (x2 : Int32) (x3 : Int32) (h : Cal G mX5_isSheet d [.int x1] sh ta m (fun v1 m2 => ∃ r3, v1 = some (.int r3) ∧ ((r3 = 0 → sh[b]? = some (.inl 5) ∧ Cal G mX5_refuse d [.ref b, .int 1] sh ta m2 (fun v6 m7 => ∃ r8, v6 = some (.int r8) ∧ K (some (.int r8)) m7)) ∧ (¬ r3 = 0 → ((x2 = 0 → ((x2 = 0 → ((x2 = 0 → sh[b]? = some (.inl 5) ∧ ∃ i15, ta b 11 = some i15 ∧ ∃ n18, sh[i15]? = some (.inr (0, n18)) ∧ InB x1 n18 ∧ ∀ m20, m20 = upa m2 i15 x1 x2 → ∃ i21, ta b 10 = some i21 ∧ ∃ n24, sh[i21]? = some (.inr (1, n24)) ∧ InB x1 n24 ∧ ∃ i26, ta i21 (x1 : Int32).toNatClampNeg = some i26 ∧ sh[i26]? = some (.inl 2) ∧ Cal G mX2_clear d [.ref i26] sh ta m20 (fun v28 m29 => v28 = none ∧ WP G (rmD (d + 1) 0 0) mX5_sheet (QC G sh ta K) 0 0 84 [(0, .ref b), (1, .int x1), (2, .int x2), (3, .int x3), (4, .int 0)] [] (sh, ta, m29))) ∧ (¬ x2 = 0 → ((x3 ≤ (24 : Int32) → sh[b]? = some (.inl 5) ∧ ∃ i35, ta b 11 = some i35 ∧ ∃ n38, sh[i35]? = some (.inr (0, n38)) ∧ InB x1 n38 ∧ ∀ m40, m40 = upa m2 i35 x1 x2 → ∃ i41, ta b 10 = some i41 ∧ ∃ n44, sh[i41]? = some (.inr (1, n44)) ∧ InB x1 n44 ∧ ∃ i46, ta i41 (x1 : Int32).toNatClampNeg = some i46 ∧ sh[i46]? = some (.inl 2) ∧ Cal G mX2_clear d [.ref i46] sh ta m40 (fun v48 m49 => v48 = none ∧ WP G (rmD (d + 1) 0 0) mX5_sheet (QC G sh ta K) 0 0 84 [(0, .ref b), (1, .int x1), (2, .int x2), (3, .int x3), (4, .int 0)] [] (sh, ta, m49))) ∧ (¬ x3 ≤ (24 : Int32) → sh[b]? = some (.inl 5) ∧ Cal G mX5_refuse d [.ref b, .int 1] sh ta m2 (fun v53 m54 => ∃ r55, v53 = some (.int r55) ∧ K (some (.int r55)) m54)))))) ∧ (¬ x2 = 0 → ((0 ≤ x3 → ((x2 = 0 → sh[b]? = some (.inl 5) ∧ ∃ i61, ta b 11 = some i61 ∧ ∃ n64, sh[i61]? = some (.inr (0, n64)) ∧ InB x1 n64 ∧ ∀ m66, m66 = upa m2 i61 x1 x2 → ∃ i67, ta b 10 = some i67 ∧ ∃ n70, sh[i67]? = some (.inr (1, n70)) ∧ InB x1 n70 ∧ ∃ i72, ta i67 (x1 : Int32).toNatClampNeg = some i72 ∧ sh[i72]? = some (.inl 2) ∧ Cal G mX2_clear d [.ref i72] sh ta m66 (fun v74 m75 => v74 = none ∧ WP G (rmD (d + 1) 0 0) mX5_sheet (QC G sh ta K) 0 0 84 [(0, .ref b), (1, .int x1), (2, .int x2), (3, .int x3), (4, .int 0)] [] (sh, ta, m75))) ∧ (¬ x2 = 0 → ((x3 ≤ (24 : Int32) → sh[b]? = some (.inl 5) ∧ ∃ i81, ta b 11 = some i81 ∧ ∃ n84, sh[i81]? = some (.inr (0, n84)) ∧ InB x1 n84 ∧ ∀ m86, m86 = upa m2 i81 x1 x2 → ∃ i87, ta b 10 = some i87 ∧ ∃ n90, sh[i87]? = some (.inr (1, n90)) ∧ InB x1 n90 ∧ ∃ i92, ta i87 (x1 : Int32).toNatClampNeg = some i92 ∧ sh[i92]? = some (.inl 2) ∧ Cal G mX2_clear d [.ref i92] sh ta m86 (fun v94 m95 => v94 = none ∧ WP G (rmD (d + 1) 0 0) mX5_sheet (QC G sh ta K) 0 0 84 [(0, .ref b), (1, .int x1), (2, .int x2), (3, .int x3), (4, .int 0)] [] (sh, ta, m95))) ∧ (¬ x3 ≤ (24 : Int32) → sh[b]? = some (.inl 5) ∧ Cal G mX5_refuse d [.ref b, .int 1] sh ta m2 (fun v99 m100 => ∃ r101, v99 = some (.int r101) ∧ K (some (.int r101)) m100)))))) ∧ (¬ 0 ≤ x3 → sh[b]? = some (.inl 5) ∧ Cal G mX5_refuse d [.ref b, .int 3] sh ta m2 (fun v104 m105 => ∃ r106, v104 = some (.int r106) ∧ K (some (.int r106)) m105)))))) ∧ (¬ x2 = 0 → ((x2 = (8 : Int32) → ((x2 = 0 → ((x2 = 0 → sh[b]? = some (.inl 5) ∧ ∃ i113, ta b 11 = some i113 ∧ ∃ n116, sh[i113]? = some (.inr (0, n116)) ∧ InB x1 n116 ∧ ∀ m118, m118 = upa m2 i113 x1 x2 → ∃ i119, ta b 10 = some i119 ∧ ∃ n122, sh[i119]? = some (.inr (1, n122)) ∧ InB x1 n122 ∧ ∃ i124, ta i119 (x1 : Int32).toNatClampNeg = some i124 ∧ sh[i124]? = some (.inl 2) ∧ Cal G mX2_clear d [.ref i124] sh ta m118 (fun v126 m127 => v126 = none ∧ WP G (rmD (d + 1) 0 0) mX5_sheet (QC G sh ta K) 0 0 84 [(0, .ref b), (1, .int x1), (2, .int x2), (3, .int x3), (4, .int 0)] [] (sh, ta, m127))) ∧ (¬ x2 = 0 → ((x3 ≤ (24 : Int32) → sh[b]? = some (.inl 5) ∧ ∃ i133, ta b 11 = some i133 ∧ ∃ n136, sh[i133]? = some (.inr (0, n136)) ∧ InB x1 n136 ∧ ∀ m138, m138 = upa m2 i133 x1 x2 → ∃ i139, ta b 10 = some i139 ∧ ∃ n142, sh[i139]? = some (.inr (1, n142)) ∧ InB x1 n142 ∧ ∃ i144, ta i139 (x1 : Int32).toNatClampNeg = some i144 ∧ sh[i144]? = some (.inl 2) ∧ Cal G mX2_clear d [.ref i144] sh ta m138 (fun v146 m147 => v146 = none ∧ WP G (rmD (d + 1) 0 0) mX5_sheet (QC G sh ta K) 0 0 84 [(0, .ref b), (1, .int x1), (2, .int x2), (3, .int x3), (4, .int 0)] [] (sh, ta, m147))) ∧ (¬ x3 ≤ (24 : Int32) → sh[b]? = some (.inl 5) ∧ Cal G mX5_refuse d [.ref b, .int 1] sh ta m2 (fun v151 m152 => ∃ r153, v151 = some (.int r153) ∧ K (some (.int r153)) m152)))))) ∧ (¬ x2 = 0 → ((0 ≤ x3 → ((x2 = 0 → sh[b]? = some (.inl 5) ∧ ∃ i159, ta b 11 = some i159 ∧ ∃ n162, sh[i159]? = some (.inr (0, n162)) ∧ InB x1 n162 ∧ ∀ m164, m164 = upa m2 i159 x1 x2 → ∃ i165, ta b 10 = some i165 ∧ ∃ n168, sh[i165]? = some (.inr (1, n168)) ∧ InB x1 n168 ∧ ∃ i170, ta i165 (x1 : Int32).toNatClampNeg = some i170 ∧ sh[i170]? = some (.inl 2) ∧ Cal G mX2_clear d [.ref i170] sh ta m164 (fun v172 m173 => v172 = none ∧ WP G (rmD (d + 1) 0 0) mX5_sheet (QC G sh ta K) 0 0 84 [(0, .ref b), (1, .int x1), (2, .int x2), (3, .int x3), (4, .int 0)] [] (sh, ta, m173))) ∧ (¬ x2 = 0 → ((x3 ≤ (24 : Int32) → sh[b]? = some (.inl 5) ∧ ∃ i179, ta b 11 = some i179 ∧ ∃ n182, sh[i179]? = some (.inr (0, n182)) ∧ InB x1 n182 ∧ ∀ m184, m184 = upa m2 i179 x1 x2 → ∃ i185, ta b 10 = some i185 ∧ ∃ n188, sh[i185]? = some (.inr (1, n188)) ∧ InB x1 n188 ∧ ∃ i190, ta i185 (x1 : Int32).toNatClampNeg = some i190 ∧ sh[i190]? = some (.inl 2) ∧ Cal G mX2_clear d [.ref i190] sh ta m184 (fun v192 m193 => v192 = none ∧ WP G (rmD (d + 1) 0 0) mX5_sheet (QC G sh ta K) 0 0 84 [(0, .ref b), (1, .int x1), (2, .int x2), (3, .int x3), (4, .int 0)] [] (sh, ta, m193))) ∧ (¬ x3 ≤ (24 : Int32) → sh[b]? = some (.inl 5) ∧ Cal G mX5_refuse d [.ref b, .int 1] sh ta m2 (fun v197 m198 => ∃ r199, v197 = some (.int r199) ∧ K (some (.int r199)) m198)))))) ∧ (¬ 0 ≤ x3 → sh[b]? = some (.inl 5) ∧ Cal G mX5_refuse d [.ref b, .int 3] sh ta m2 (fun v202 m203 => ∃ r204, v202 = some (.int r204) ∧ K (some (.int r204)) m203)))))) ∧ (¬ x2 = (8 : Int32) → ((x2 = (16 : Int32) → ((x2 = 0 → ((x2 = 0 → sh[b]? = some (.inl 5) ∧ ∃ i211, ta b 11 = some i211 ∧ ∃ n214, sh[i211]? = some (.inr (0, n214)) ∧ InB x1 n214 ∧ ∀ m216, m216 = upa m2 i211 x1 x2 → ∃ i217, ta b 10 = some i217 ∧ ∃ n220, sh[i217]? = some (.inr (1, n220)) ∧ InB x1 n220 ∧ ∃ i222, ta i217 (x1 : Int32).toNatClampNeg = some i222 ∧ sh[i222]? = some (.inl 2) ∧ Cal G mX2_clear d [.ref i222] sh ta m216 (fun v224 m225 => v224 = none ∧ WP G (rmD (d + 1) 0 0) mX5_sheet (QC G sh ta K) 0 0 84 [(0, .ref b), (1, .int x1), (2, .int x2), (3, .int x3), (4, .int 0)] [] (sh, ta, m225))) ∧ (¬ x2 = 0 → ((x3 ≤ (24 : Int32) → sh[b]? = some (.inl 5) ∧ ∃ i231, ta b 11 = some i231 ∧ ∃ n234, sh[i231]? = some (.inr (0, n234)) ∧ InB x1 n234 ∧ ∀ m236, m236 = upa m2 i231 x1 x2 → ∃ i237, ta b 10 = some i237 ∧ ∃ n240, sh[i237]? = some (.inr (1, n240)) ∧ InB x1 n240 ∧ ∃ i242, ta i237 (x1 : Int32).toNatClampNeg = some i242 ∧ sh[i242]? = some (.inl 2) ∧ Cal G mX2_clear d [.ref i242] sh ta m236 (fun v244 m245 => v244 = none ∧ WP G (rmD (d + 1) 0 0) mX5_sheet (QC G sh ta K) 0 0 84 [(0, .ref b), (1, .int x1), (2, .int x2), (3, .int x3), (4, .int 0)] [] (sh, ta, m245))) ∧ (¬ x3 ≤ (24 : Int32) → sh[b]? = some (.inl 5) ∧ Cal G mX5_refuse d [.ref b, .int 1] sh ta m2 (fun v249 m250 => ∃ r251, v249 = some (.int r251) ∧ K (some (.int r251)) m250)))))) ∧ (¬ x2 = 0 → ((0 ≤ x3 → ((x2 = 0 → sh[b]? = some (.inl 5) ∧ ∃ i257, ta b 11 = some i257 ∧ ∃ n260, sh[i257]? = some (.inr (0, n260)) ∧ InB x1 n260 ∧ ∀ m262, m262 = upa m2 i257 x1 x2 → ∃ i263, ta b 10 = some i263 ∧ ∃ n266, sh[i263]? = some (.inr (1, n266)) ∧ InB x1 n266 ∧ ∃ i268, ta i263 (x1 : Int32).toNatClampNeg = some i268 ∧ sh[i268]? = some (.inl 2) ∧ Cal G mX2_clear d [.ref i268] sh ta m262 (fun v270 m271 => v270 = none ∧ WP G (rmD (d + 1) 0 0) mX5_sheet (QC G sh ta K) 0 0 84 [(0, .ref b), (1, .int x1), (2, .int x2), (3, .int x3), (4, .int 0)] [] (sh, ta, m271))) ∧ (¬ x2 = 0 → ((x3 ≤ (24 : Int32) → sh[b]? = some (.inl 5) ∧ ∃ i277, ta b 11 = some i277 ∧ ∃ n280, sh[i277]? = some (.inr (0, n280)) ∧ InB x1 n280 ∧ ∀ m282, m282 = upa m2 i277 x1 x2 → ∃ i283, ta b 10 = some i283 ∧ ∃ n286, sh[i283]? = some (.inr (1, n286)) ∧ InB x1 n286 ∧ ∃ i288, ta i283 (x1 : Int32).toNatClampNeg = some i288 ∧ sh[i288]? = some (.inl 2) ∧ Cal G mX2_clear d [.ref i288] sh ta m282 (fun v290 m291 => v290 = none ∧ WP G (rmD (d + 1) 0 0) mX5_sheet (QC G sh ta K) 0 0 84 [(0, .ref b), (1, .int x1), (2, .int x2), (3, .int x3), (4, .int 0)] [] (sh, ta, m291))) ∧ (¬ x3 ≤ (24 : Int32) → sh[b]? = some (.inl 5) ∧ Cal G mX5_refuse d [.ref b, .int 1] sh ta m2 (fun v295 m296 => ∃ r297, v295 = some (.int r297) ∧ K (some (.int r297)) m296)))))) ∧ (¬ 0 ≤ x3 → sh[b]? = some (.inl 5) ∧ Cal G mX5_refuse d [.ref b, .int 3] sh ta m2 (fun v300 m301 => ∃ r302, v300 = some (.int r302) ∧ K (some (.int r302)) m301)))))) ∧ (¬ x2 = (16 : Int32) → ((x2 = (32 : Int32) → ((x2 = 0 → ((x2 = 0 → sh[b]? = some (.inl 5) ∧ ∃ i309, ta b 11 = some i309 ∧ ∃ n312, sh[i309]? = some (.inr (0, n312)) ∧ InB x1 n312 ∧ ∀ m314, m314 = upa m2 i309 x1 x2 → ∃ i315, ta b 10 = some i315 ∧ ∃ n318, sh[i315]? = some (.inr (1, n318)) ∧ InB x1 n318 ∧ ∃ i320, ta i315 (x1 : Int32).toNatClampNeg = some i320 ∧ sh[i320]? = some (.inl 2) ∧ Cal G mX2_clear d [.ref i320] sh ta m314 (fun v322 m323 => v322 = none ∧ WP G (rmD (d + 1) 0 0) mX5_sheet (QC G sh ta K) 0 0 84 [(0, .ref b), (1, .int x1), (2, .int x2), (3, .int x3), (4, .int 0)] [] (sh, ta, m323))) ∧ (¬ x2 = 0 → ((x3 ≤ (24 : Int32) → sh[b]? = some (.inl 5) ∧ ∃ i329, ta b 11 = some i329 ∧ ∃ n332, sh[i329]? = some (.inr (0, n332)) ∧ InB x1 n332 ∧ ∀ m334, m334 = upa m2 i329 x1 x2 → ∃ i335, ta b 10 = some i335 ∧ ∃ n338, sh[i335]? = some (.inr (1, n338)) ∧ InB x1 n338 ∧ ∃ i340, ta i335 (x1 : Int32).toNatClampNeg = some i340 ∧ sh[i340]? = some (.inl 2) ∧ Cal G mX2_clear d [.ref i340] sh ta m334 (fun v342 m343 => v342 = none ∧ WP G (rmD (d + 1) 0 0) mX5_sheet (QC G sh ta K) 0 0 84 [(0, .ref b), (1, .int x1), (2, .int x2), (3, .int x3), (4, .int 0)] [] (sh, ta, m343))) ∧ (¬ x3 ≤ (24 : Int32) → sh[b]? = some (.inl 5) ∧ Cal G mX5_refuse d [.ref b, .int 1] sh ta m2 (fun v347 m348 => ∃ r349, v347 = some (.int r349) ∧ K (some (.int r349)) m348)))))) ∧ (¬ x2 = 0 → ((0 ≤ x3 → ((x2 = 0 → sh[b]? = some (.inl 5) ∧ ∃ i355, ta b 11 = some i355 ∧ ∃ n358, sh[i355]? = some (.inr (0, n358)) ∧ InB x1 n358 ∧ ∀ m360, m360 = upa m2 i355 x1 x2 → ∃ i361, ta b 10 = some i361 ∧ ∃ n364, sh[i361]? = some (.inr (1, n364)) ∧ InB x1 n364 ∧ ∃ i366, ta i361 (x1 : Int32).toNatClampNeg = some i366 ∧ sh[i366]? = some (.inl 2) ∧ Cal G mX2_clear d [.ref i366] sh ta m360 (fun v368 m369 => v368 = none ∧ WP G (rmD (d + 1) 0 0) mX5_sheet (QC G sh ta K) 0 0 84 [(0, .ref b), (1, .int x1), (2, .int x2), (3, .int x3), (4, .int 0)] [] (sh, ta, m369))) ∧ (¬ x2 = 0 → ((x3 ≤ (24 : Int32) → sh[b]? = some (.inl 5) ∧ ∃ i375, ta b 11 = some i375 ∧ ∃ n378, sh[i375]? = some (.inr (0, n378)) ∧ InB x1 n378 ∧ ∀ m380, m380 = upa m2 i375 x1 x2 → ∃ i381, ta b 10 = some i381 ∧ ∃ n384, sh[i381]? = some (.inr (1, n384)) ∧ InB x1 n384 ∧ ∃ i386, ta i381 (x1 : Int32).toNatClampNeg = some i386 ∧ sh[i386]? = some (.inl 2) ∧ Cal G mX2_clear d [.ref i386] sh ta m380 (fun v388 m389 => v388 = none ∧ WP G (rmD (d + 1) 0 0) mX5_sheet (QC G sh ta K) 0 0 84 [(0, .ref b), (1, .int x1), (2, .int x2), (3, .int x3), (4, .int 0)] [] (sh, ta, m389))) ∧ (¬ x3 ≤ (24 : Int32) → sh[b]? = some (.inl 5) ∧ Cal G mX5_refuse d [.ref b, .int 1] sh ta m2 (fun v393 m394 => ∃ r395, v393 = some (.int r395) ∧ K (some (.int r395)) m394)))))) ∧ (¬ 0 ≤ x3 → sh[b]? = some (.inl 5) ∧ Cal G mX5_refuse d [.ref b, .int 3] sh ta m2 (fun v398 m399 => ∃ r400, v398 = some (.int r400) ∧ K (some (.int r400)) m399)))))) ∧ (¬ x2 = (32 : Int32) → sh[b]? = some (.inl 5) ∧ Cal G mX5_refuse d [.ref b, .int 1] sh ta m2 (fun v403 m404 => ∃ r405, v403 = some (.int r405) ∧ K (some (.int r405)) m404))))))))))))) : WP G (rmD (d + 1) 0 0) mX5_sheet (QC G sh ta K) 0 0 0 [(0, .ref b), (1, .int x1), (2, .int x2), (3, .int x3)] [] (sh, ta, m) := by
  refine WP.iload_n 1 dX5_sheet_0 rfl rfl ?_
  refine WP.callS (y := mX5_isSheet) (As := [.int x1]) (st := []) dX5_sheet_1 wm_X5_271 mw_X5_isSheet rfl (Nat.le_of_ble_eq_true rfl) (rmok d) rfl h (fun v1 Sm2 h4 => ?_)
  obtain ⟨m2, rfl, r3, rfl, h⟩ := h4
  show WP G _ _ _ 0 0 4 [(0, .ref b), (1, .int x1), (2, .int x2), (3, .int x3)] [.int r3] (sh, ta, m2)
  refine WP.if_eq (tgt := 29) dX5_sheet_4 (by decide) (fun c5 => ?_) (fun c5 => ?_)
  · have h := h.1 c5
    refine WP.aload_n 0 dX5_sheet_29 rfl rfl ?_
    refine WP.iconst (v := 1) dX5_sheet_30 rfl ?_
    obtain ⟨h10, h⟩ := h
    refine WP.callV (y := mX5_refuse) (As := [.int 1]) (st := []) dX5_sheet_31 wm_X5_87 mw_X5_refuse rfl (Nat.le_of_ble_eq_true rfl) (rmok d) h10 (by decide) rfl h (fun v6 Sm7 h9 => ?_)
    obtain ⟨m7, rfl, r8, rfl, h⟩ := h9
    show WP G _ _ _ 0 0 34 [(0, .ref b), (1, .int x1), (2, .int x2), (3, .int x3)] [.int r8] (sh, ta, m7)
    exact WP.iret dX5_sheet_34 rfl (Nat.le_refl _) (Nat.le_refl _) ⟨_, rfl, h⟩
  · have h := h.2 c5
    refine WP.iload_n 2 dX5_sheet_7 rfl rfl ?_
    refine WP.if_eq (tgt := 35) dX5_sheet_8 (by decide) (fun c11 => ?_) (fun c11 => ?_)
    · have h := h.1 c11
      refine WP.iload_n 2 dX5_sheet_35 rfl rfl ?_
      refine WP.if_eq (tgt := 49) dX5_sheet_36 (by decide) (fun c12 => ?_) (fun c12 => ?_)
      · have h := h.1 c12
        refine WP.iload_n 2 dX5_sheet_49 rfl rfl ?_
        refine WP.if_eq (tgt := 65) dX5_sheet_50 (by decide) (fun c13 => ?_) (fun c13 => ?_)
        · have h := h.1 c13
          refine WP.aload_n 0 dX5_sheet_65 rfl rfl ?_
          obtain ⟨h14, h⟩ := h
          obtain ⟨i15, h16, h⟩ := h
          refine WP.getR 5 11 wf_X5_52 (by decide) (by decide) rfl h14 h16 dX5_sheet_66 ?_
          refine WP.iload_n 1 dX5_sheet_69 rfl rfl ?_
          refine WP.iload_n 2 dX5_sheet_70 rfl rfl ?_
          obtain ⟨n18, h17, h⟩ := h
          obtain ⟨h19, h⟩ := h
          have h := h _ rfl
          refine WP.iast h17 h19 dX5_sheet_71 ?_
          generalize upa m2 i15 x1 x2 = m20 at h ⊢
          refine WP.aload_n 0 dX5_sheet_72 rfl rfl ?_
          obtain ⟨i21, h22, h⟩ := h
          refine WP.getR 5 10 wf_X5_48 (by decide) (by decide) rfl h14 h22 dX5_sheet_73 ?_
          refine WP.iload_n 1 dX5_sheet_76 rfl rfl ?_
          obtain ⟨n24, h23, h⟩ := h
          obtain ⟨h25, i26, h27, h⟩ := h
          refine WP.aald h23 h25 h27 dX5_sheet_77 ?_
          obtain ⟨h32, h⟩ := h
          refine WP.callV (y := mX2_clear) (As := []) (st := []) dX5_sheet_78 wm_X5_181 mw_X2_clear rfl (Nat.le_of_ble_eq_true rfl) (rmok d) h32 (by decide) rfl h (fun v28 Sm29 h31 => ?_)
          obtain ⟨m29, rfl, rfl, h⟩ := h31
          show WP G _ _ _ 0 0 81 [(0, .ref b), (1, .int x1), (2, .int x2), (3, .int x3)] [] (sh, ta, m29)
          refine WP.iconst (v := 0) dX5_sheet_81 rfl ?_
          refine WP.istore (lv2 := [(4, .int 0), (0, .ref b), (1, .int x1), (2, .int x2), (3, .int x3)]) dX5_sheet_82 (by decide) rfl ?_
          exact WP.pick [1, 2, 3, 4, 0] rfl h
        · have h := h.2 c13
          refine WP.iload_n 3 dX5_sheet_53 rfl rfl ?_
          refine WP.bipush (v := 24) dX5_sheet_54 rfl ?_
          refine WP.icmp_le (tgt := 65) dX5_sheet_56 (by decide) (fun c33 => ?_) (fun c33 => ?_)
          · have h := h.1 c33
            refine WP.aload_n 0 dX5_sheet_65 rfl rfl ?_
            obtain ⟨h34, h⟩ := h
            obtain ⟨i35, h36, h⟩ := h
            refine WP.getR 5 11 wf_X5_52 (by decide) (by decide) rfl h34 h36 dX5_sheet_66 ?_
            refine WP.iload_n 1 dX5_sheet_69 rfl rfl ?_
            refine WP.iload_n 2 dX5_sheet_70 rfl rfl ?_
            obtain ⟨n38, h37, h⟩ := h
            obtain ⟨h39, h⟩ := h
            have h := h _ rfl
            refine WP.iast h37 h39 dX5_sheet_71 ?_
            generalize upa m2 i35 x1 x2 = m40 at h ⊢
            refine WP.aload_n 0 dX5_sheet_72 rfl rfl ?_
            obtain ⟨i41, h42, h⟩ := h
            refine WP.getR 5 10 wf_X5_48 (by decide) (by decide) rfl h34 h42 dX5_sheet_73 ?_
            refine WP.iload_n 1 dX5_sheet_76 rfl rfl ?_
            obtain ⟨n44, h43, h⟩ := h
            obtain ⟨h45, i46, h47, h⟩ := h
            refine WP.aald h43 h45 h47 dX5_sheet_77 ?_
            obtain ⟨h52, h⟩ := h
            refine WP.callV (y := mX2_clear) (As := []) (st := []) dX5_sheet_78 wm_X5_181 mw_X2_clear rfl (Nat.le_of_ble_eq_true rfl) (rmok d) h52 (by decide) rfl h (fun v48 Sm49 h51 => ?_)
            obtain ⟨m49, rfl, rfl, h⟩ := h51
            show WP G _ _ _ 0 0 81 [(0, .ref b), (1, .int x1), (2, .int x2), (3, .int x3)] [] (sh, ta, m49)
            refine WP.iconst (v := 0) dX5_sheet_81 rfl ?_
            refine WP.istore (lv2 := [(4, .int 0), (0, .ref b), (1, .int x1), (2, .int x2), (3, .int x3)]) dX5_sheet_82 (by decide) rfl ?_
            exact WP.pick [1, 2, 3, 4, 0] rfl h
          · have h := h.2 c33
            refine WP.aload_n 0 dX5_sheet_59 rfl rfl ?_
            refine WP.iconst (v := 1) dX5_sheet_60 rfl ?_
            obtain ⟨h57, h⟩ := h
            refine WP.callV (y := mX5_refuse) (As := [.int 1]) (st := []) dX5_sheet_61 wm_X5_87 mw_X5_refuse rfl (Nat.le_of_ble_eq_true rfl) (rmok d) h57 (by decide) rfl h (fun v53 Sm54 h56 => ?_)
            obtain ⟨m54, rfl, r55, rfl, h⟩ := h56
            show WP G _ _ _ 0 0 64 [(0, .ref b), (1, .int x1), (2, .int x2), (3, .int x3)] [.int r55] (sh, ta, m54)
            exact WP.iret dX5_sheet_64 rfl (Nat.le_refl _) (Nat.le_refl _) ⟨_, rfl, h⟩
      · have h := h.2 c12
        refine WP.iload_n 3 dX5_sheet_39 rfl rfl ?_
        refine WP.if_ge (tgt := 49) dX5_sheet_40 (by decide) (fun c58 => ?_) (fun c58 => ?_)
        · have h := h.1 c58
          refine WP.iload_n 2 dX5_sheet_49 rfl rfl ?_
          refine WP.if_eq (tgt := 65) dX5_sheet_50 (by decide) (fun c59 => ?_) (fun c59 => ?_)
          · have h := h.1 c59
            refine WP.aload_n 0 dX5_sheet_65 rfl rfl ?_
            obtain ⟨h60, h⟩ := h
            obtain ⟨i61, h62, h⟩ := h
            refine WP.getR 5 11 wf_X5_52 (by decide) (by decide) rfl h60 h62 dX5_sheet_66 ?_
            refine WP.iload_n 1 dX5_sheet_69 rfl rfl ?_
            refine WP.iload_n 2 dX5_sheet_70 rfl rfl ?_
            obtain ⟨n64, h63, h⟩ := h
            obtain ⟨h65, h⟩ := h
            have h := h _ rfl
            refine WP.iast h63 h65 dX5_sheet_71 ?_
            generalize upa m2 i61 x1 x2 = m66 at h ⊢
            refine WP.aload_n 0 dX5_sheet_72 rfl rfl ?_
            obtain ⟨i67, h68, h⟩ := h
            refine WP.getR 5 10 wf_X5_48 (by decide) (by decide) rfl h60 h68 dX5_sheet_73 ?_
            refine WP.iload_n 1 dX5_sheet_76 rfl rfl ?_
            obtain ⟨n70, h69, h⟩ := h
            obtain ⟨h71, i72, h73, h⟩ := h
            refine WP.aald h69 h71 h73 dX5_sheet_77 ?_
            obtain ⟨h78, h⟩ := h
            refine WP.callV (y := mX2_clear) (As := []) (st := []) dX5_sheet_78 wm_X5_181 mw_X2_clear rfl (Nat.le_of_ble_eq_true rfl) (rmok d) h78 (by decide) rfl h (fun v74 Sm75 h77 => ?_)
            obtain ⟨m75, rfl, rfl, h⟩ := h77
            show WP G _ _ _ 0 0 81 [(0, .ref b), (1, .int x1), (2, .int x2), (3, .int x3)] [] (sh, ta, m75)
            refine WP.iconst (v := 0) dX5_sheet_81 rfl ?_
            refine WP.istore (lv2 := [(4, .int 0), (0, .ref b), (1, .int x1), (2, .int x2), (3, .int x3)]) dX5_sheet_82 (by decide) rfl ?_
            exact WP.pick [1, 2, 3, 4, 0] rfl h
          · have h := h.2 c59
            refine WP.iload_n 3 dX5_sheet_53 rfl rfl ?_
            refine WP.bipush (v := 24) dX5_sheet_54 rfl ?_
            refine WP.icmp_le (tgt := 65) dX5_sheet_56 (by decide) (fun c79 => ?_) (fun c79 => ?_)
            · have h := h.1 c79
              refine WP.aload_n 0 dX5_sheet_65 rfl rfl ?_
              obtain ⟨h80, h⟩ := h
              obtain ⟨i81, h82, h⟩ := h
              refine WP.getR 5 11 wf_X5_52 (by decide) (by decide) rfl h80 h82 dX5_sheet_66 ?_
              refine WP.iload_n 1 dX5_sheet_69 rfl rfl ?_
              refine WP.iload_n 2 dX5_sheet_70 rfl rfl ?_
              obtain ⟨n84, h83, h⟩ := h
              obtain ⟨h85, h⟩ := h
              have h := h _ rfl
              refine WP.iast h83 h85 dX5_sheet_71 ?_
              generalize upa m2 i81 x1 x2 = m86 at h ⊢
              refine WP.aload_n 0 dX5_sheet_72 rfl rfl ?_
              obtain ⟨i87, h88, h⟩ := h
              refine WP.getR 5 10 wf_X5_48 (by decide) (by decide) rfl h80 h88 dX5_sheet_73 ?_
              refine WP.iload_n 1 dX5_sheet_76 rfl rfl ?_
              obtain ⟨n90, h89, h⟩ := h
              obtain ⟨h91, i92, h93, h⟩ := h
              refine WP.aald h89 h91 h93 dX5_sheet_77 ?_
              obtain ⟨h98, h⟩ := h
              refine WP.callV (y := mX2_clear) (As := []) (st := []) dX5_sheet_78 wm_X5_181 mw_X2_clear rfl (Nat.le_of_ble_eq_true rfl) (rmok d) h98 (by decide) rfl h (fun v94 Sm95 h97 => ?_)
              obtain ⟨m95, rfl, rfl, h⟩ := h97
              show WP G _ _ _ 0 0 81 [(0, .ref b), (1, .int x1), (2, .int x2), (3, .int x3)] [] (sh, ta, m95)
              refine WP.iconst (v := 0) dX5_sheet_81 rfl ?_
              refine WP.istore (lv2 := [(4, .int 0), (0, .ref b), (1, .int x1), (2, .int x2), (3, .int x3)]) dX5_sheet_82 (by decide) rfl ?_
              exact WP.pick [1, 2, 3, 4, 0] rfl h
            · have h := h.2 c79
              refine WP.aload_n 0 dX5_sheet_59 rfl rfl ?_
              refine WP.iconst (v := 1) dX5_sheet_60 rfl ?_
              obtain ⟨h103, h⟩ := h
              refine WP.callV (y := mX5_refuse) (As := [.int 1]) (st := []) dX5_sheet_61 wm_X5_87 mw_X5_refuse rfl (Nat.le_of_ble_eq_true rfl) (rmok d) h103 (by decide) rfl h (fun v99 Sm100 h102 => ?_)
              obtain ⟨m100, rfl, r101, rfl, h⟩ := h102
              show WP G _ _ _ 0 0 64 [(0, .ref b), (1, .int x1), (2, .int x2), (3, .int x3)] [.int r101] (sh, ta, m100)
              exact WP.iret dX5_sheet_64 rfl (Nat.le_refl _) (Nat.le_refl _) ⟨_, rfl, h⟩
        · have h := h.2 c58
          refine WP.aload_n 0 dX5_sheet_43 rfl rfl ?_
          refine WP.iconst (v := 3) dX5_sheet_44 rfl ?_
          obtain ⟨h108, h⟩ := h
          refine WP.callV (y := mX5_refuse) (As := [.int 3]) (st := []) dX5_sheet_45 wm_X5_87 mw_X5_refuse rfl (Nat.le_of_ble_eq_true rfl) (rmok d) h108 (by decide) rfl h (fun v104 Sm105 h107 => ?_)
          obtain ⟨m105, rfl, r106, rfl, h⟩ := h107
          show WP G _ _ _ 0 0 48 [(0, .ref b), (1, .int x1), (2, .int x2), (3, .int x3)] [.int r106] (sh, ta, m105)
          exact WP.iret dX5_sheet_48 rfl (Nat.le_refl _) (Nat.le_refl _) ⟨_, rfl, h⟩
    · have h := h.2 c11
      refine WP.iload_n 2 dX5_sheet_11 rfl rfl ?_
      refine WP.bipush (v := 8) dX5_sheet_12 rfl ?_
      refine WP.icmp_eq (tgt := 35) dX5_sheet_14 (by decide) (fun c109 => ?_) (fun c109 => ?_)
      · have h := h.1 c109
        refine WP.iload_n 2 dX5_sheet_35 rfl rfl ?_
        refine WP.if_eq (tgt := 49) dX5_sheet_36 (by decide) (fun c110 => ?_) (fun c110 => ?_)
        · have h := h.1 c110
          refine WP.iload_n 2 dX5_sheet_49 rfl rfl ?_
          refine WP.if_eq (tgt := 65) dX5_sheet_50 (by decide) (fun c111 => ?_) (fun c111 => ?_)
          · have h := h.1 c111
            refine WP.aload_n 0 dX5_sheet_65 rfl rfl ?_
            obtain ⟨h112, h⟩ := h
            obtain ⟨i113, h114, h⟩ := h
            refine WP.getR 5 11 wf_X5_52 (by decide) (by decide) rfl h112 h114 dX5_sheet_66 ?_
            refine WP.iload_n 1 dX5_sheet_69 rfl rfl ?_
            refine WP.iload_n 2 dX5_sheet_70 rfl rfl ?_
            obtain ⟨n116, h115, h⟩ := h
            obtain ⟨h117, h⟩ := h
            have h := h _ rfl
            refine WP.iast h115 h117 dX5_sheet_71 ?_
            generalize upa m2 i113 x1 x2 = m118 at h ⊢
            refine WP.aload_n 0 dX5_sheet_72 rfl rfl ?_
            obtain ⟨i119, h120, h⟩ := h
            refine WP.getR 5 10 wf_X5_48 (by decide) (by decide) rfl h112 h120 dX5_sheet_73 ?_
            refine WP.iload_n 1 dX5_sheet_76 rfl rfl ?_
            obtain ⟨n122, h121, h⟩ := h
            obtain ⟨h123, i124, h125, h⟩ := h
            refine WP.aald h121 h123 h125 dX5_sheet_77 ?_
            obtain ⟨h130, h⟩ := h
            refine WP.callV (y := mX2_clear) (As := []) (st := []) dX5_sheet_78 wm_X5_181 mw_X2_clear rfl (Nat.le_of_ble_eq_true rfl) (rmok d) h130 (by decide) rfl h (fun v126 Sm127 h129 => ?_)
            obtain ⟨m127, rfl, rfl, h⟩ := h129
            show WP G _ _ _ 0 0 81 [(0, .ref b), (1, .int x1), (2, .int x2), (3, .int x3)] [] (sh, ta, m127)
            refine WP.iconst (v := 0) dX5_sheet_81 rfl ?_
            refine WP.istore (lv2 := [(4, .int 0), (0, .ref b), (1, .int x1), (2, .int x2), (3, .int x3)]) dX5_sheet_82 (by decide) rfl ?_
            exact WP.pick [1, 2, 3, 4, 0] rfl h
          · have h := h.2 c111
            refine WP.iload_n 3 dX5_sheet_53 rfl rfl ?_
            refine WP.bipush (v := 24) dX5_sheet_54 rfl ?_
            refine WP.icmp_le (tgt := 65) dX5_sheet_56 (by decide) (fun c131 => ?_) (fun c131 => ?_)
            · have h := h.1 c131
              refine WP.aload_n 0 dX5_sheet_65 rfl rfl ?_
              obtain ⟨h132, h⟩ := h
              obtain ⟨i133, h134, h⟩ := h
              refine WP.getR 5 11 wf_X5_52 (by decide) (by decide) rfl h132 h134 dX5_sheet_66 ?_
              refine WP.iload_n 1 dX5_sheet_69 rfl rfl ?_
              refine WP.iload_n 2 dX5_sheet_70 rfl rfl ?_
              obtain ⟨n136, h135, h⟩ := h
              obtain ⟨h137, h⟩ := h
              have h := h _ rfl
              refine WP.iast h135 h137 dX5_sheet_71 ?_
              generalize upa m2 i133 x1 x2 = m138 at h ⊢
              refine WP.aload_n 0 dX5_sheet_72 rfl rfl ?_
              obtain ⟨i139, h140, h⟩ := h
              refine WP.getR 5 10 wf_X5_48 (by decide) (by decide) rfl h132 h140 dX5_sheet_73 ?_
              refine WP.iload_n 1 dX5_sheet_76 rfl rfl ?_
              obtain ⟨n142, h141, h⟩ := h
              obtain ⟨h143, i144, h145, h⟩ := h
              refine WP.aald h141 h143 h145 dX5_sheet_77 ?_
              obtain ⟨h150, h⟩ := h
              refine WP.callV (y := mX2_clear) (As := []) (st := []) dX5_sheet_78 wm_X5_181 mw_X2_clear rfl (Nat.le_of_ble_eq_true rfl) (rmok d) h150 (by decide) rfl h (fun v146 Sm147 h149 => ?_)
              obtain ⟨m147, rfl, rfl, h⟩ := h149
              show WP G _ _ _ 0 0 81 [(0, .ref b), (1, .int x1), (2, .int x2), (3, .int x3)] [] (sh, ta, m147)
              refine WP.iconst (v := 0) dX5_sheet_81 rfl ?_
              refine WP.istore (lv2 := [(4, .int 0), (0, .ref b), (1, .int x1), (2, .int x2), (3, .int x3)]) dX5_sheet_82 (by decide) rfl ?_
              exact WP.pick [1, 2, 3, 4, 0] rfl h
            · have h := h.2 c131
              refine WP.aload_n 0 dX5_sheet_59 rfl rfl ?_
              refine WP.iconst (v := 1) dX5_sheet_60 rfl ?_
              obtain ⟨h155, h⟩ := h
              refine WP.callV (y := mX5_refuse) (As := [.int 1]) (st := []) dX5_sheet_61 wm_X5_87 mw_X5_refuse rfl (Nat.le_of_ble_eq_true rfl) (rmok d) h155 (by decide) rfl h (fun v151 Sm152 h154 => ?_)
              obtain ⟨m152, rfl, r153, rfl, h⟩ := h154
              show WP G _ _ _ 0 0 64 [(0, .ref b), (1, .int x1), (2, .int x2), (3, .int x3)] [.int r153] (sh, ta, m152)
              exact WP.iret dX5_sheet_64 rfl (Nat.le_refl _) (Nat.le_refl _) ⟨_, rfl, h⟩
        · have h := h.2 c110
          refine WP.iload_n 3 dX5_sheet_39 rfl rfl ?_
          refine WP.if_ge (tgt := 49) dX5_sheet_40 (by decide) (fun c156 => ?_) (fun c156 => ?_)
          · have h := h.1 c156
            refine WP.iload_n 2 dX5_sheet_49 rfl rfl ?_
            refine WP.if_eq (tgt := 65) dX5_sheet_50 (by decide) (fun c157 => ?_) (fun c157 => ?_)
            · have h := h.1 c157
              refine WP.aload_n 0 dX5_sheet_65 rfl rfl ?_
              obtain ⟨h158, h⟩ := h
              obtain ⟨i159, h160, h⟩ := h
              refine WP.getR 5 11 wf_X5_52 (by decide) (by decide) rfl h158 h160 dX5_sheet_66 ?_
              refine WP.iload_n 1 dX5_sheet_69 rfl rfl ?_
              refine WP.iload_n 2 dX5_sheet_70 rfl rfl ?_
              obtain ⟨n162, h161, h⟩ := h
              obtain ⟨h163, h⟩ := h
              have h := h _ rfl
              refine WP.iast h161 h163 dX5_sheet_71 ?_
              generalize upa m2 i159 x1 x2 = m164 at h ⊢
              refine WP.aload_n 0 dX5_sheet_72 rfl rfl ?_
              obtain ⟨i165, h166, h⟩ := h
              refine WP.getR 5 10 wf_X5_48 (by decide) (by decide) rfl h158 h166 dX5_sheet_73 ?_
              refine WP.iload_n 1 dX5_sheet_76 rfl rfl ?_
              obtain ⟨n168, h167, h⟩ := h
              obtain ⟨h169, i170, h171, h⟩ := h
              refine WP.aald h167 h169 h171 dX5_sheet_77 ?_
              obtain ⟨h176, h⟩ := h
              refine WP.callV (y := mX2_clear) (As := []) (st := []) dX5_sheet_78 wm_X5_181 mw_X2_clear rfl (Nat.le_of_ble_eq_true rfl) (rmok d) h176 (by decide) rfl h (fun v172 Sm173 h175 => ?_)
              obtain ⟨m173, rfl, rfl, h⟩ := h175
              show WP G _ _ _ 0 0 81 [(0, .ref b), (1, .int x1), (2, .int x2), (3, .int x3)] [] (sh, ta, m173)
              refine WP.iconst (v := 0) dX5_sheet_81 rfl ?_
              refine WP.istore (lv2 := [(4, .int 0), (0, .ref b), (1, .int x1), (2, .int x2), (3, .int x3)]) dX5_sheet_82 (by decide) rfl ?_
              exact WP.pick [1, 2, 3, 4, 0] rfl h
            · have h := h.2 c157
              refine WP.iload_n 3 dX5_sheet_53 rfl rfl ?_
              refine WP.bipush (v := 24) dX5_sheet_54 rfl ?_
              refine WP.icmp_le (tgt := 65) dX5_sheet_56 (by decide) (fun c177 => ?_) (fun c177 => ?_)
              · have h := h.1 c177
                refine WP.aload_n 0 dX5_sheet_65 rfl rfl ?_
                obtain ⟨h178, h⟩ := h
                obtain ⟨i179, h180, h⟩ := h
                refine WP.getR 5 11 wf_X5_52 (by decide) (by decide) rfl h178 h180 dX5_sheet_66 ?_
                refine WP.iload_n 1 dX5_sheet_69 rfl rfl ?_
                refine WP.iload_n 2 dX5_sheet_70 rfl rfl ?_
                obtain ⟨n182, h181, h⟩ := h
                obtain ⟨h183, h⟩ := h
                have h := h _ rfl
                refine WP.iast h181 h183 dX5_sheet_71 ?_
                generalize upa m2 i179 x1 x2 = m184 at h ⊢
                refine WP.aload_n 0 dX5_sheet_72 rfl rfl ?_
                obtain ⟨i185, h186, h⟩ := h
                refine WP.getR 5 10 wf_X5_48 (by decide) (by decide) rfl h178 h186 dX5_sheet_73 ?_
                refine WP.iload_n 1 dX5_sheet_76 rfl rfl ?_
                obtain ⟨n188, h187, h⟩ := h
                obtain ⟨h189, i190, h191, h⟩ := h
                refine WP.aald h187 h189 h191 dX5_sheet_77 ?_
                obtain ⟨h196, h⟩ := h
                refine WP.callV (y := mX2_clear) (As := []) (st := []) dX5_sheet_78 wm_X5_181 mw_X2_clear rfl (Nat.le_of_ble_eq_true rfl) (rmok d) h196 (by decide) rfl h (fun v192 Sm193 h195 => ?_)
                obtain ⟨m193, rfl, rfl, h⟩ := h195
                show WP G _ _ _ 0 0 81 [(0, .ref b), (1, .int x1), (2, .int x2), (3, .int x3)] [] (sh, ta, m193)
                refine WP.iconst (v := 0) dX5_sheet_81 rfl ?_
                refine WP.istore (lv2 := [(4, .int 0), (0, .ref b), (1, .int x1), (2, .int x2), (3, .int x3)]) dX5_sheet_82 (by decide) rfl ?_
                exact WP.pick [1, 2, 3, 4, 0] rfl h
              · have h := h.2 c177
                refine WP.aload_n 0 dX5_sheet_59 rfl rfl ?_
                refine WP.iconst (v := 1) dX5_sheet_60 rfl ?_
                obtain ⟨h201, h⟩ := h
                refine WP.callV (y := mX5_refuse) (As := [.int 1]) (st := []) dX5_sheet_61 wm_X5_87 mw_X5_refuse rfl (Nat.le_of_ble_eq_true rfl) (rmok d) h201 (by decide) rfl h (fun v197 Sm198 h200 => ?_)
                obtain ⟨m198, rfl, r199, rfl, h⟩ := h200
                show WP G _ _ _ 0 0 64 [(0, .ref b), (1, .int x1), (2, .int x2), (3, .int x3)] [.int r199] (sh, ta, m198)
                exact WP.iret dX5_sheet_64 rfl (Nat.le_refl _) (Nat.le_refl _) ⟨_, rfl, h⟩
          · have h := h.2 c156
            refine WP.aload_n 0 dX5_sheet_43 rfl rfl ?_
            refine WP.iconst (v := 3) dX5_sheet_44 rfl ?_
            obtain ⟨h206, h⟩ := h
            refine WP.callV (y := mX5_refuse) (As := [.int 3]) (st := []) dX5_sheet_45 wm_X5_87 mw_X5_refuse rfl (Nat.le_of_ble_eq_true rfl) (rmok d) h206 (by decide) rfl h (fun v202 Sm203 h205 => ?_)
            obtain ⟨m203, rfl, r204, rfl, h⟩ := h205
            show WP G _ _ _ 0 0 48 [(0, .ref b), (1, .int x1), (2, .int x2), (3, .int x3)] [.int r204] (sh, ta, m203)
            exact WP.iret dX5_sheet_48 rfl (Nat.le_refl _) (Nat.le_refl _) ⟨_, rfl, h⟩
      · have h := h.2 c109
        refine WP.iload_n 2 dX5_sheet_17 rfl rfl ?_
        refine WP.bipush (v := 16) dX5_sheet_18 rfl ?_
        refine WP.icmp_eq (tgt := 35) dX5_sheet_20 (by decide) (fun c207 => ?_) (fun c207 => ?_)
        · have h := h.1 c207
          refine WP.iload_n 2 dX5_sheet_35 rfl rfl ?_
          refine WP.if_eq (tgt := 49) dX5_sheet_36 (by decide) (fun c208 => ?_) (fun c208 => ?_)
          · have h := h.1 c208
            refine WP.iload_n 2 dX5_sheet_49 rfl rfl ?_
            refine WP.if_eq (tgt := 65) dX5_sheet_50 (by decide) (fun c209 => ?_) (fun c209 => ?_)
            · have h := h.1 c209
              refine WP.aload_n 0 dX5_sheet_65 rfl rfl ?_
              obtain ⟨h210, h⟩ := h
              obtain ⟨i211, h212, h⟩ := h
              refine WP.getR 5 11 wf_X5_52 (by decide) (by decide) rfl h210 h212 dX5_sheet_66 ?_
              refine WP.iload_n 1 dX5_sheet_69 rfl rfl ?_
              refine WP.iload_n 2 dX5_sheet_70 rfl rfl ?_
              obtain ⟨n214, h213, h⟩ := h
              obtain ⟨h215, h⟩ := h
              have h := h _ rfl
              refine WP.iast h213 h215 dX5_sheet_71 ?_
              generalize upa m2 i211 x1 x2 = m216 at h ⊢
              refine WP.aload_n 0 dX5_sheet_72 rfl rfl ?_
              obtain ⟨i217, h218, h⟩ := h
              refine WP.getR 5 10 wf_X5_48 (by decide) (by decide) rfl h210 h218 dX5_sheet_73 ?_
              refine WP.iload_n 1 dX5_sheet_76 rfl rfl ?_
              obtain ⟨n220, h219, h⟩ := h
              obtain ⟨h221, i222, h223, h⟩ := h
              refine WP.aald h219 h221 h223 dX5_sheet_77 ?_
              obtain ⟨h228, h⟩ := h
              refine WP.callV (y := mX2_clear) (As := []) (st := []) dX5_sheet_78 wm_X5_181 mw_X2_clear rfl (Nat.le_of_ble_eq_true rfl) (rmok d) h228 (by decide) rfl h (fun v224 Sm225 h227 => ?_)
              obtain ⟨m225, rfl, rfl, h⟩ := h227
              show WP G _ _ _ 0 0 81 [(0, .ref b), (1, .int x1), (2, .int x2), (3, .int x3)] [] (sh, ta, m225)
              refine WP.iconst (v := 0) dX5_sheet_81 rfl ?_
              refine WP.istore (lv2 := [(4, .int 0), (0, .ref b), (1, .int x1), (2, .int x2), (3, .int x3)]) dX5_sheet_82 (by decide) rfl ?_
              exact WP.pick [1, 2, 3, 4, 0] rfl h
            · have h := h.2 c209
              refine WP.iload_n 3 dX5_sheet_53 rfl rfl ?_
              refine WP.bipush (v := 24) dX5_sheet_54 rfl ?_
              refine WP.icmp_le (tgt := 65) dX5_sheet_56 (by decide) (fun c229 => ?_) (fun c229 => ?_)
              · have h := h.1 c229
                refine WP.aload_n 0 dX5_sheet_65 rfl rfl ?_
                obtain ⟨h230, h⟩ := h
                obtain ⟨i231, h232, h⟩ := h
                refine WP.getR 5 11 wf_X5_52 (by decide) (by decide) rfl h230 h232 dX5_sheet_66 ?_
                refine WP.iload_n 1 dX5_sheet_69 rfl rfl ?_
                refine WP.iload_n 2 dX5_sheet_70 rfl rfl ?_
                obtain ⟨n234, h233, h⟩ := h
                obtain ⟨h235, h⟩ := h
                have h := h _ rfl
                refine WP.iast h233 h235 dX5_sheet_71 ?_
                generalize upa m2 i231 x1 x2 = m236 at h ⊢
                refine WP.aload_n 0 dX5_sheet_72 rfl rfl ?_
                obtain ⟨i237, h238, h⟩ := h
                refine WP.getR 5 10 wf_X5_48 (by decide) (by decide) rfl h230 h238 dX5_sheet_73 ?_
                refine WP.iload_n 1 dX5_sheet_76 rfl rfl ?_
                obtain ⟨n240, h239, h⟩ := h
                obtain ⟨h241, i242, h243, h⟩ := h
                refine WP.aald h239 h241 h243 dX5_sheet_77 ?_
                obtain ⟨h248, h⟩ := h
                refine WP.callV (y := mX2_clear) (As := []) (st := []) dX5_sheet_78 wm_X5_181 mw_X2_clear rfl (Nat.le_of_ble_eq_true rfl) (rmok d) h248 (by decide) rfl h (fun v244 Sm245 h247 => ?_)
                obtain ⟨m245, rfl, rfl, h⟩ := h247
                show WP G _ _ _ 0 0 81 [(0, .ref b), (1, .int x1), (2, .int x2), (3, .int x3)] [] (sh, ta, m245)
                refine WP.iconst (v := 0) dX5_sheet_81 rfl ?_
                refine WP.istore (lv2 := [(4, .int 0), (0, .ref b), (1, .int x1), (2, .int x2), (3, .int x3)]) dX5_sheet_82 (by decide) rfl ?_
                exact WP.pick [1, 2, 3, 4, 0] rfl h
              · have h := h.2 c229
                refine WP.aload_n 0 dX5_sheet_59 rfl rfl ?_
                refine WP.iconst (v := 1) dX5_sheet_60 rfl ?_
                obtain ⟨h253, h⟩ := h
                refine WP.callV (y := mX5_refuse) (As := [.int 1]) (st := []) dX5_sheet_61 wm_X5_87 mw_X5_refuse rfl (Nat.le_of_ble_eq_true rfl) (rmok d) h253 (by decide) rfl h (fun v249 Sm250 h252 => ?_)
                obtain ⟨m250, rfl, r251, rfl, h⟩ := h252
                show WP G _ _ _ 0 0 64 [(0, .ref b), (1, .int x1), (2, .int x2), (3, .int x3)] [.int r251] (sh, ta, m250)
                exact WP.iret dX5_sheet_64 rfl (Nat.le_refl _) (Nat.le_refl _) ⟨_, rfl, h⟩
          · have h := h.2 c208
            refine WP.iload_n 3 dX5_sheet_39 rfl rfl ?_
            refine WP.if_ge (tgt := 49) dX5_sheet_40 (by decide) (fun c254 => ?_) (fun c254 => ?_)
            · have h := h.1 c254
              refine WP.iload_n 2 dX5_sheet_49 rfl rfl ?_
              refine WP.if_eq (tgt := 65) dX5_sheet_50 (by decide) (fun c255 => ?_) (fun c255 => ?_)
              · have h := h.1 c255
                refine WP.aload_n 0 dX5_sheet_65 rfl rfl ?_
                obtain ⟨h256, h⟩ := h
                obtain ⟨i257, h258, h⟩ := h
                refine WP.getR 5 11 wf_X5_52 (by decide) (by decide) rfl h256 h258 dX5_sheet_66 ?_
                refine WP.iload_n 1 dX5_sheet_69 rfl rfl ?_
                refine WP.iload_n 2 dX5_sheet_70 rfl rfl ?_
                obtain ⟨n260, h259, h⟩ := h
                obtain ⟨h261, h⟩ := h
                have h := h _ rfl
                refine WP.iast h259 h261 dX5_sheet_71 ?_
                generalize upa m2 i257 x1 x2 = m262 at h ⊢
                refine WP.aload_n 0 dX5_sheet_72 rfl rfl ?_
                obtain ⟨i263, h264, h⟩ := h
                refine WP.getR 5 10 wf_X5_48 (by decide) (by decide) rfl h256 h264 dX5_sheet_73 ?_
                refine WP.iload_n 1 dX5_sheet_76 rfl rfl ?_
                obtain ⟨n266, h265, h⟩ := h
                obtain ⟨h267, i268, h269, h⟩ := h
                refine WP.aald h265 h267 h269 dX5_sheet_77 ?_
                obtain ⟨h274, h⟩ := h
                refine WP.callV (y := mX2_clear) (As := []) (st := []) dX5_sheet_78 wm_X5_181 mw_X2_clear rfl (Nat.le_of_ble_eq_true rfl) (rmok d) h274 (by decide) rfl h (fun v270 Sm271 h273 => ?_)
                obtain ⟨m271, rfl, rfl, h⟩ := h273
                show WP G _ _ _ 0 0 81 [(0, .ref b), (1, .int x1), (2, .int x2), (3, .int x3)] [] (sh, ta, m271)
                refine WP.iconst (v := 0) dX5_sheet_81 rfl ?_
                refine WP.istore (lv2 := [(4, .int 0), (0, .ref b), (1, .int x1), (2, .int x2), (3, .int x3)]) dX5_sheet_82 (by decide) rfl ?_
                exact WP.pick [1, 2, 3, 4, 0] rfl h
              · have h := h.2 c255
                refine WP.iload_n 3 dX5_sheet_53 rfl rfl ?_
                refine WP.bipush (v := 24) dX5_sheet_54 rfl ?_
                refine WP.icmp_le (tgt := 65) dX5_sheet_56 (by decide) (fun c275 => ?_) (fun c275 => ?_)
                · have h := h.1 c275
                  refine WP.aload_n 0 dX5_sheet_65 rfl rfl ?_
                  obtain ⟨h276, h⟩ := h
                  obtain ⟨i277, h278, h⟩ := h
                  refine WP.getR 5 11 wf_X5_52 (by decide) (by decide) rfl h276 h278 dX5_sheet_66 ?_
                  refine WP.iload_n 1 dX5_sheet_69 rfl rfl ?_
                  refine WP.iload_n 2 dX5_sheet_70 rfl rfl ?_
                  obtain ⟨n280, h279, h⟩ := h
                  obtain ⟨h281, h⟩ := h
                  have h := h _ rfl
                  refine WP.iast h279 h281 dX5_sheet_71 ?_
                  generalize upa m2 i277 x1 x2 = m282 at h ⊢
                  refine WP.aload_n 0 dX5_sheet_72 rfl rfl ?_
                  obtain ⟨i283, h284, h⟩ := h
                  refine WP.getR 5 10 wf_X5_48 (by decide) (by decide) rfl h276 h284 dX5_sheet_73 ?_
                  refine WP.iload_n 1 dX5_sheet_76 rfl rfl ?_
                  obtain ⟨n286, h285, h⟩ := h
                  obtain ⟨h287, i288, h289, h⟩ := h
                  refine WP.aald h285 h287 h289 dX5_sheet_77 ?_
                  obtain ⟨h294, h⟩ := h
                  refine WP.callV (y := mX2_clear) (As := []) (st := []) dX5_sheet_78 wm_X5_181 mw_X2_clear rfl (Nat.le_of_ble_eq_true rfl) (rmok d) h294 (by decide) rfl h (fun v290 Sm291 h293 => ?_)
                  obtain ⟨m291, rfl, rfl, h⟩ := h293
                  show WP G _ _ _ 0 0 81 [(0, .ref b), (1, .int x1), (2, .int x2), (3, .int x3)] [] (sh, ta, m291)
                  refine WP.iconst (v := 0) dX5_sheet_81 rfl ?_
                  refine WP.istore (lv2 := [(4, .int 0), (0, .ref b), (1, .int x1), (2, .int x2), (3, .int x3)]) dX5_sheet_82 (by decide) rfl ?_
                  exact WP.pick [1, 2, 3, 4, 0] rfl h
                · have h := h.2 c275
                  refine WP.aload_n 0 dX5_sheet_59 rfl rfl ?_
                  refine WP.iconst (v := 1) dX5_sheet_60 rfl ?_
                  obtain ⟨h299, h⟩ := h
                  refine WP.callV (y := mX5_refuse) (As := [.int 1]) (st := []) dX5_sheet_61 wm_X5_87 mw_X5_refuse rfl (Nat.le_of_ble_eq_true rfl) (rmok d) h299 (by decide) rfl h (fun v295 Sm296 h298 => ?_)
                  obtain ⟨m296, rfl, r297, rfl, h⟩ := h298
                  show WP G _ _ _ 0 0 64 [(0, .ref b), (1, .int x1), (2, .int x2), (3, .int x3)] [.int r297] (sh, ta, m296)
                  exact WP.iret dX5_sheet_64 rfl (Nat.le_refl _) (Nat.le_refl _) ⟨_, rfl, h⟩
            · have h := h.2 c254
              refine WP.aload_n 0 dX5_sheet_43 rfl rfl ?_
              refine WP.iconst (v := 3) dX5_sheet_44 rfl ?_
              obtain ⟨h304, h⟩ := h
              refine WP.callV (y := mX5_refuse) (As := [.int 3]) (st := []) dX5_sheet_45 wm_X5_87 mw_X5_refuse rfl (Nat.le_of_ble_eq_true rfl) (rmok d) h304 (by decide) rfl h (fun v300 Sm301 h303 => ?_)
              obtain ⟨m301, rfl, r302, rfl, h⟩ := h303
              show WP G _ _ _ 0 0 48 [(0, .ref b), (1, .int x1), (2, .int x2), (3, .int x3)] [.int r302] (sh, ta, m301)
              exact WP.iret dX5_sheet_48 rfl (Nat.le_refl _) (Nat.le_refl _) ⟨_, rfl, h⟩
        · have h := h.2 c207
          refine WP.iload_n 2 dX5_sheet_23 rfl rfl ?_
          refine WP.bipush (v := 32) dX5_sheet_24 rfl ?_
          refine WP.icmp_eq (tgt := 35) dX5_sheet_26 (by decide) (fun c305 => ?_) (fun c305 => ?_)
          · have h := h.1 c305
            refine WP.iload_n 2 dX5_sheet_35 rfl rfl ?_
            refine WP.if_eq (tgt := 49) dX5_sheet_36 (by decide) (fun c306 => ?_) (fun c306 => ?_)
            · have h := h.1 c306
              refine WP.iload_n 2 dX5_sheet_49 rfl rfl ?_
              refine WP.if_eq (tgt := 65) dX5_sheet_50 (by decide) (fun c307 => ?_) (fun c307 => ?_)
              · have h := h.1 c307
                refine WP.aload_n 0 dX5_sheet_65 rfl rfl ?_
                obtain ⟨h308, h⟩ := h
                obtain ⟨i309, h310, h⟩ := h
                refine WP.getR 5 11 wf_X5_52 (by decide) (by decide) rfl h308 h310 dX5_sheet_66 ?_
                refine WP.iload_n 1 dX5_sheet_69 rfl rfl ?_
                refine WP.iload_n 2 dX5_sheet_70 rfl rfl ?_
                obtain ⟨n312, h311, h⟩ := h
                obtain ⟨h313, h⟩ := h
                have h := h _ rfl
                refine WP.iast h311 h313 dX5_sheet_71 ?_
                generalize upa m2 i309 x1 x2 = m314 at h ⊢
                refine WP.aload_n 0 dX5_sheet_72 rfl rfl ?_
                obtain ⟨i315, h316, h⟩ := h
                refine WP.getR 5 10 wf_X5_48 (by decide) (by decide) rfl h308 h316 dX5_sheet_73 ?_
                refine WP.iload_n 1 dX5_sheet_76 rfl rfl ?_
                obtain ⟨n318, h317, h⟩ := h
                obtain ⟨h319, i320, h321, h⟩ := h
                refine WP.aald h317 h319 h321 dX5_sheet_77 ?_
                obtain ⟨h326, h⟩ := h
                refine WP.callV (y := mX2_clear) (As := []) (st := []) dX5_sheet_78 wm_X5_181 mw_X2_clear rfl (Nat.le_of_ble_eq_true rfl) (rmok d) h326 (by decide) rfl h (fun v322 Sm323 h325 => ?_)
                obtain ⟨m323, rfl, rfl, h⟩ := h325
                show WP G _ _ _ 0 0 81 [(0, .ref b), (1, .int x1), (2, .int x2), (3, .int x3)] [] (sh, ta, m323)
                refine WP.iconst (v := 0) dX5_sheet_81 rfl ?_
                refine WP.istore (lv2 := [(4, .int 0), (0, .ref b), (1, .int x1), (2, .int x2), (3, .int x3)]) dX5_sheet_82 (by decide) rfl ?_
                exact WP.pick [1, 2, 3, 4, 0] rfl h
              · have h := h.2 c307
                refine WP.iload_n 3 dX5_sheet_53 rfl rfl ?_
                refine WP.bipush (v := 24) dX5_sheet_54 rfl ?_
                refine WP.icmp_le (tgt := 65) dX5_sheet_56 (by decide) (fun c327 => ?_) (fun c327 => ?_)
                · have h := h.1 c327
                  refine WP.aload_n 0 dX5_sheet_65 rfl rfl ?_
                  obtain ⟨h328, h⟩ := h
                  obtain ⟨i329, h330, h⟩ := h
                  refine WP.getR 5 11 wf_X5_52 (by decide) (by decide) rfl h328 h330 dX5_sheet_66 ?_
                  refine WP.iload_n 1 dX5_sheet_69 rfl rfl ?_
                  refine WP.iload_n 2 dX5_sheet_70 rfl rfl ?_
                  obtain ⟨n332, h331, h⟩ := h
                  obtain ⟨h333, h⟩ := h
                  have h := h _ rfl
                  refine WP.iast h331 h333 dX5_sheet_71 ?_
                  generalize upa m2 i329 x1 x2 = m334 at h ⊢
                  refine WP.aload_n 0 dX5_sheet_72 rfl rfl ?_
                  obtain ⟨i335, h336, h⟩ := h
                  refine WP.getR 5 10 wf_X5_48 (by decide) (by decide) rfl h328 h336 dX5_sheet_73 ?_
                  refine WP.iload_n 1 dX5_sheet_76 rfl rfl ?_
                  obtain ⟨n338, h337, h⟩ := h
                  obtain ⟨h339, i340, h341, h⟩ := h
                  refine WP.aald h337 h339 h341 dX5_sheet_77 ?_
                  obtain ⟨h346, h⟩ := h
                  refine WP.callV (y := mX2_clear) (As := []) (st := []) dX5_sheet_78 wm_X5_181 mw_X2_clear rfl (Nat.le_of_ble_eq_true rfl) (rmok d) h346 (by decide) rfl h (fun v342 Sm343 h345 => ?_)
                  obtain ⟨m343, rfl, rfl, h⟩ := h345
                  show WP G _ _ _ 0 0 81 [(0, .ref b), (1, .int x1), (2, .int x2), (3, .int x3)] [] (sh, ta, m343)
                  refine WP.iconst (v := 0) dX5_sheet_81 rfl ?_
                  refine WP.istore (lv2 := [(4, .int 0), (0, .ref b), (1, .int x1), (2, .int x2), (3, .int x3)]) dX5_sheet_82 (by decide) rfl ?_
                  exact WP.pick [1, 2, 3, 4, 0] rfl h
                · have h := h.2 c327
                  refine WP.aload_n 0 dX5_sheet_59 rfl rfl ?_
                  refine WP.iconst (v := 1) dX5_sheet_60 rfl ?_
                  obtain ⟨h351, h⟩ := h
                  refine WP.callV (y := mX5_refuse) (As := [.int 1]) (st := []) dX5_sheet_61 wm_X5_87 mw_X5_refuse rfl (Nat.le_of_ble_eq_true rfl) (rmok d) h351 (by decide) rfl h (fun v347 Sm348 h350 => ?_)
                  obtain ⟨m348, rfl, r349, rfl, h⟩ := h350
                  show WP G _ _ _ 0 0 64 [(0, .ref b), (1, .int x1), (2, .int x2), (3, .int x3)] [.int r349] (sh, ta, m348)
                  exact WP.iret dX5_sheet_64 rfl (Nat.le_refl _) (Nat.le_refl _) ⟨_, rfl, h⟩
            · have h := h.2 c306
              refine WP.iload_n 3 dX5_sheet_39 rfl rfl ?_
              refine WP.if_ge (tgt := 49) dX5_sheet_40 (by decide) (fun c352 => ?_) (fun c352 => ?_)
              · have h := h.1 c352
                refine WP.iload_n 2 dX5_sheet_49 rfl rfl ?_
                refine WP.if_eq (tgt := 65) dX5_sheet_50 (by decide) (fun c353 => ?_) (fun c353 => ?_)
                · have h := h.1 c353
                  refine WP.aload_n 0 dX5_sheet_65 rfl rfl ?_
                  obtain ⟨h354, h⟩ := h
                  obtain ⟨i355, h356, h⟩ := h
                  refine WP.getR 5 11 wf_X5_52 (by decide) (by decide) rfl h354 h356 dX5_sheet_66 ?_
                  refine WP.iload_n 1 dX5_sheet_69 rfl rfl ?_
                  refine WP.iload_n 2 dX5_sheet_70 rfl rfl ?_
                  obtain ⟨n358, h357, h⟩ := h
                  obtain ⟨h359, h⟩ := h
                  have h := h _ rfl
                  refine WP.iast h357 h359 dX5_sheet_71 ?_
                  generalize upa m2 i355 x1 x2 = m360 at h ⊢
                  refine WP.aload_n 0 dX5_sheet_72 rfl rfl ?_
                  obtain ⟨i361, h362, h⟩ := h
                  refine WP.getR 5 10 wf_X5_48 (by decide) (by decide) rfl h354 h362 dX5_sheet_73 ?_
                  refine WP.iload_n 1 dX5_sheet_76 rfl rfl ?_
                  obtain ⟨n364, h363, h⟩ := h
                  obtain ⟨h365, i366, h367, h⟩ := h
                  refine WP.aald h363 h365 h367 dX5_sheet_77 ?_
                  obtain ⟨h372, h⟩ := h
                  refine WP.callV (y := mX2_clear) (As := []) (st := []) dX5_sheet_78 wm_X5_181 mw_X2_clear rfl (Nat.le_of_ble_eq_true rfl) (rmok d) h372 (by decide) rfl h (fun v368 Sm369 h371 => ?_)
                  obtain ⟨m369, rfl, rfl, h⟩ := h371
                  show WP G _ _ _ 0 0 81 [(0, .ref b), (1, .int x1), (2, .int x2), (3, .int x3)] [] (sh, ta, m369)
                  refine WP.iconst (v := 0) dX5_sheet_81 rfl ?_
                  refine WP.istore (lv2 := [(4, .int 0), (0, .ref b), (1, .int x1), (2, .int x2), (3, .int x3)]) dX5_sheet_82 (by decide) rfl ?_
                  exact WP.pick [1, 2, 3, 4, 0] rfl h
                · have h := h.2 c353
                  refine WP.iload_n 3 dX5_sheet_53 rfl rfl ?_
                  refine WP.bipush (v := 24) dX5_sheet_54 rfl ?_
                  refine WP.icmp_le (tgt := 65) dX5_sheet_56 (by decide) (fun c373 => ?_) (fun c373 => ?_)
                  · have h := h.1 c373
                    refine WP.aload_n 0 dX5_sheet_65 rfl rfl ?_
                    obtain ⟨h374, h⟩ := h
                    obtain ⟨i375, h376, h⟩ := h
                    refine WP.getR 5 11 wf_X5_52 (by decide) (by decide) rfl h374 h376 dX5_sheet_66 ?_
                    refine WP.iload_n 1 dX5_sheet_69 rfl rfl ?_
                    refine WP.iload_n 2 dX5_sheet_70 rfl rfl ?_
                    obtain ⟨n378, h377, h⟩ := h
                    obtain ⟨h379, h⟩ := h
                    have h := h _ rfl
                    refine WP.iast h377 h379 dX5_sheet_71 ?_
                    generalize upa m2 i375 x1 x2 = m380 at h ⊢
                    refine WP.aload_n 0 dX5_sheet_72 rfl rfl ?_
                    obtain ⟨i381, h382, h⟩ := h
                    refine WP.getR 5 10 wf_X5_48 (by decide) (by decide) rfl h374 h382 dX5_sheet_73 ?_
                    refine WP.iload_n 1 dX5_sheet_76 rfl rfl ?_
                    obtain ⟨n384, h383, h⟩ := h
                    obtain ⟨h385, i386, h387, h⟩ := h
                    refine WP.aald h383 h385 h387 dX5_sheet_77 ?_
                    obtain ⟨h392, h⟩ := h
                    refine WP.callV (y := mX2_clear) (As := []) (st := []) dX5_sheet_78 wm_X5_181 mw_X2_clear rfl (Nat.le_of_ble_eq_true rfl) (rmok d) h392 (by decide) rfl h (fun v388 Sm389 h391 => ?_)
                    obtain ⟨m389, rfl, rfl, h⟩ := h391
                    show WP G _ _ _ 0 0 81 [(0, .ref b), (1, .int x1), (2, .int x2), (3, .int x3)] [] (sh, ta, m389)
                    refine WP.iconst (v := 0) dX5_sheet_81 rfl ?_
                    refine WP.istore (lv2 := [(4, .int 0), (0, .ref b), (1, .int x1), (2, .int x2), (3, .int x3)]) dX5_sheet_82 (by decide) rfl ?_
                    exact WP.pick [1, 2, 3, 4, 0] rfl h
                  · have h := h.2 c373
                    refine WP.aload_n 0 dX5_sheet_59 rfl rfl ?_
                    refine WP.iconst (v := 1) dX5_sheet_60 rfl ?_
                    obtain ⟨h397, h⟩ := h
                    refine WP.callV (y := mX5_refuse) (As := [.int 1]) (st := []) dX5_sheet_61 wm_X5_87 mw_X5_refuse rfl (Nat.le_of_ble_eq_true rfl) (rmok d) h397 (by decide) rfl h (fun v393 Sm394 h396 => ?_)
                    obtain ⟨m394, rfl, r395, rfl, h⟩ := h396
                    show WP G _ _ _ 0 0 64 [(0, .ref b), (1, .int x1), (2, .int x2), (3, .int x3)] [.int r395] (sh, ta, m394)
                    exact WP.iret dX5_sheet_64 rfl (Nat.le_refl _) (Nat.le_refl _) ⟨_, rfl, h⟩
              · have h := h.2 c352
                refine WP.aload_n 0 dX5_sheet_43 rfl rfl ?_
                refine WP.iconst (v := 3) dX5_sheet_44 rfl ?_
                obtain ⟨h402, h⟩ := h
                refine WP.callV (y := mX5_refuse) (As := [.int 3]) (st := []) dX5_sheet_45 wm_X5_87 mw_X5_refuse rfl (Nat.le_of_ble_eq_true rfl) (rmok d) h402 (by decide) rfl h (fun v398 Sm399 h401 => ?_)
                obtain ⟨m399, rfl, r400, rfl, h⟩ := h401
                show WP G _ _ _ 0 0 48 [(0, .ref b), (1, .int x1), (2, .int x2), (3, .int x3)] [.int r400] (sh, ta, m399)
                exact WP.iret dX5_sheet_48 rfl (Nat.le_refl _) (Nat.le_refl _) ⟨_, rfl, h⟩
          · have h := h.2 c305
            refine WP.aload_n 0 dX5_sheet_29 rfl rfl ?_
            refine WP.iconst (v := 1) dX5_sheet_30 rfl ?_
            obtain ⟨h407, h⟩ := h
            refine WP.callV (y := mX5_refuse) (As := [.int 1]) (st := []) dX5_sheet_31 wm_X5_87 mw_X5_refuse rfl (Nat.le_of_ble_eq_true rfl) (rmok d) h407 (by decide) rfl h (fun v403 Sm404 h406 => ?_)
            obtain ⟨m404, rfl, r405, rfl, h⟩ := h406
            show WP G _ _ _ 0 0 34 [(0, .ref b), (1, .int x1), (2, .int x2), (3, .int x3)] [.int r405] (sh, ta, m404)
            exact WP.iret dX5_sheet_34 rfl (Nat.le_refl _) (Nat.le_refl _) ⟨_, rfl, h⟩
set_option maxHeartbeats 4000000 in
set_option maxRecDepth 20000 in
theorem rg_X5_sheet_84 (hG : fl G = false) (b : Nat) (x1 : Int32) (x2 : Int32) (x3 : Int32) (x4 : Int32) (h : ((x2 = 0 → K (some (.int 1)) m) ∧ (¬ x2 = 0 → ((x3 ≤ x4 → K (some (.int 1)) m) ∧ (¬ x3 ≤ x4 → sh[b]? = some (.inl 5) ∧ ∃ i4, ta b 10 = some i4 ∧ ∃ n7, sh[i4]? = some (.inr (1, n7)) ∧ InB x1 n7 ∧ ∃ i9, ta i4 (x1 : Int32).toNatClampNeg = some i9 ∧ sh[i9]? = some (.inl 2) ∧ Cal G mX2_add d [.ref i9, .int 0] sh ta m (fun v11 m12 => v11 = none ∧ WP G (rmD (d + 1) 0 0) mX5_sheet (QC G sh ta K) 0 0 84 [(0, .ref b), (1, .int x1), (2, .int x2), (3, .int x3), (4, .int (x4 + 1))] [] (sh, ta, m12))))))) : WP G (rmD (d + 1) 0 0) mX5_sheet (QC G sh ta K) 0 0 84 [(0, .ref b), (1, .int x1), (2, .int x2), (3, .int x3), (4, .int x4)] [] (sh, ta, m) := by
  refine WP.iload_n 2 dX5_sheet_84 rfl rfl ?_
  refine WP.if_eq (tgt := 110) dX5_sheet_85 (by decide) (fun c1 => ?_) (fun c1 => ?_)
  · have h := h.1 c1
    refine WP.iconst (v := 1) dX5_sheet_110 rfl ?_
    exact WP.iret dX5_sheet_111 rfl (Nat.le_refl _) (Nat.le_refl _) ⟨_, rfl, h⟩
  · have h := h.2 c1
    refine WP.iload 4 dX5_sheet_88 rfl ?_
    refine WP.iload_n 3 dX5_sheet_90 rfl rfl ?_
    refine WP.icmp_ge (tgt := 110) dX5_sheet_91 (by decide) (fun c2 => ?_) (fun c2 => ?_)
    · have h := h.1 c2
      refine WP.iconst (v := 1) dX5_sheet_110 rfl ?_
      exact WP.iret dX5_sheet_111 rfl (Nat.le_refl _) (Nat.le_refl _) ⟨_, rfl, h⟩
    · have h := h.2 c2
      refine WP.aload_n 0 dX5_sheet_94 rfl rfl ?_
      obtain ⟨h3, h⟩ := h
      obtain ⟨i4, h5, h⟩ := h
      refine WP.getR 5 10 wf_X5_48 (by decide) (by decide) rfl h3 h5 dX5_sheet_95 ?_
      refine WP.iload_n 1 dX5_sheet_98 rfl rfl ?_
      obtain ⟨n7, h6, h⟩ := h
      obtain ⟨h8, i9, h10, h⟩ := h
      refine WP.aald h6 h8 h10 dX5_sheet_99 ?_
      refine WP.iconst (v := 0) dX5_sheet_100 rfl ?_
      obtain ⟨h15, h⟩ := h
      refine WP.callV (y := mX2_add) (As := [.int 0]) (st := []) dX5_sheet_101 wm_X5_171 mw_X2_add rfl (Nat.le_of_ble_eq_true rfl) (rmok d) h15 (by decide) rfl h (fun v11 Sm12 h14 => ?_)
      obtain ⟨m12, rfl, rfl, h⟩ := h14
      show WP G _ _ _ 0 0 104 [(0, .ref b), (1, .int x1), (2, .int x2), (3, .int x3), (4, .int x4)] [] (sh, ta, m12)
      refine WP.iinc (lv2 := [(4, .int (x4 + 1)), (0, .ref b), (1, .int x1), (2, .int x2), (3, .int x3)]) 4 1 dX5_sheet_104 rfl rfl (by decide) rfl ?_
      refine WP.goto (tgt := 84) dX5_sheet_107 (by decide) ?_
      exact WP.pick [1, 2, 3, 4, 0] rfl h
set_option maxHeartbeats 4000000 in
set_option maxRecDepth 20000 in
theorem rg_X5_put_0 (hG : fl G = false) (b : Nat) (x1 : Int32) (x2 : Int32) (x3 : Int32) (h : sh[b]? = some (.inl 5) ∧ Cal G mX5_lackOf d [.ref b, .int x1] sh ta m (fun v1 m2 => ∃ r3, v1 = some (.int r3) ∧ ((r3 = 0 → ∃ i7, ta b 10 = some i7 ∧ ∃ n10, sh[i7]? = some (.inr (1, n10)) ∧ InB x1 n10 ∧ ∃ i12, ta i7 (x1 : Int32).toNatClampNeg = some i12 ∧ sh[i12]? = some (.inl 2) ∧ Cal G mX2_holds d [.ref i12, .int x2] sh ta m2 (fun v14 m15 => ∃ r16, v14 = some (.int r16) ∧ ((¬ r16 = 0 → ∃ i23, ta b 11 = some i23 ∧ ∃ n26, sh[i23]? = some (.inr (0, n26)) ∧ InB x1 n26 ∧ Cal G mX5_lowestBits d [.int x3, .int (rd (m15 i23) x1)] sh ta m15 (fun v28 m29 => ∃ r30, v28 = some (.int r30) ∧ Cal G mX2_change d [.ref i12, .int x2, .int r30] sh ta m29 (fun v32 m33 => v32 = none ∧ K (some (.int 1)) m33))) ∧ (r16 = 0 → Cal G mX5_refuse d [.ref b, .int 1] sh ta m15 (fun v36 m37 => ∃ r38, v36 = some (.int r38) ∧ K (some (.int r38)) m37))))) ∧ (¬ r3 = 0 → Cal G mX5_refuse d [.ref b, .int r3] sh ta m2 (fun v40 m41 => ∃ r42, v40 = some (.int r42) ∧ K (some (.int r42)) m41))))) : WP G (rmD (d + 1) 0 0) mX5_put (QC G sh ta K) 0 0 0 [(0, .ref b), (1, .int x1), (2, .int x2), (3, .int x3)] [] (sh, ta, m) := by
  refine WP.aload_n 0 dX5_put_0 rfl rfl ?_
  refine WP.iload_n 1 dX5_put_1 rfl rfl ?_
  obtain ⟨h5, h⟩ := h
  refine WP.callV (y := mX5_lackOf) (As := [.int x1]) (st := []) dX5_put_2 wm_X5_203 mw_X5_lackOf rfl (Nat.le_of_ble_eq_true rfl) (rmok d) h5 (by decide) rfl h (fun v1 Sm2 h4 => ?_)
  obtain ⟨m2, rfl, r3, rfl, h⟩ := h4
  show WP G _ _ _ 0 0 5 [(0, .ref b), (1, .int x1), (2, .int x2), (3, .int x3)] [.int r3] (sh, ta, m2)
  refine WP.istore (lv2 := [(4, .int r3), (0, .ref b), (1, .int x1), (2, .int x2), (3, .int x3)]) dX5_put_5 (by decide) rfl ?_
  refine WP.iload 0 dX5_put_7 rfl ?_
  refine WP.if_eq (tgt := 19) dX5_put_9 (by decide) (fun c6 => ?_) (fun c6 => ?_)
  · have h := h.1 c6
    refine WP.aload_n 1 dX5_put_19 rfl rfl ?_
    obtain ⟨i7, h8, h⟩ := h
    refine WP.getR 5 10 wf_X5_48 (by decide) (by decide) rfl h5 h8 dX5_put_20 ?_
    refine WP.iload_n 2 dX5_put_23 rfl rfl ?_
    obtain ⟨n10, h9, h⟩ := h
    obtain ⟨h11, i12, h13, h⟩ := h
    refine WP.aald h9 h11 h13 dX5_put_24 ?_
    refine WP.iload_n 3 dX5_put_25 rfl rfl ?_
    obtain ⟨h18, h⟩ := h
    refine WP.callV (y := mX2_holds) (As := [.int x2]) (st := []) dX5_put_26 wm_X5_268 mw_X2_holds rfl (Nat.le_of_ble_eq_true rfl) (rmok d) h18 (by decide) rfl h (fun v14 Sm15 h17 => ?_)
    obtain ⟨m15, rfl, r16, rfl, h⟩ := h17
    show WP G _ _ _ 0 0 29 [(4, .int r3), (0, .ref b), (1, .int x1), (2, .int x2), (3, .int x3)] [.int r16] (sh, ta, m15)
    refine WP.if_ne (tgt := 38) dX5_put_29 (by decide) (fun c19 => ?_) (fun c19 => ?_)
    · have h := h.1 c19
      refine WP.aload_n 1 dX5_put_38 rfl rfl ?_
      refine WP.getR 5 10 wf_X5_48 (by decide) (by decide) rfl h5 h8 dX5_put_39 ?_
      refine WP.iload_n 2 dX5_put_42 rfl rfl ?_
      refine WP.aald h9 h11 h13 dX5_put_43 ?_
      refine WP.iload_n 3 dX5_put_44 rfl rfl ?_
      refine WP.iload_n 4 dX5_put_45 rfl rfl ?_
      refine WP.aload_n 1 dX5_put_46 rfl rfl ?_
      obtain ⟨i23, h24, h⟩ := h
      refine WP.getR 5 11 wf_X5_52 (by decide) (by decide) rfl h5 h24 dX5_put_47 ?_
      refine WP.iload_n 2 dX5_put_50 rfl rfl ?_
      obtain ⟨n26, h25, h⟩ := h
      obtain ⟨h27, h⟩ := h
      refine WP.iald h25 h27 dX5_put_51 ?_
      refine WP.callS (y := mX5_lowestBits) (As := [.int x3, .int (rd (m15 i23) x1)]) (st := [.int x2, .ref i12]) dX5_put_52 wm_X5_274 mw_X5_lowestBits rfl (Nat.le_of_ble_eq_true rfl) (rmok d) rfl h (fun v28 Sm29 h31 => ?_)
      obtain ⟨m29, rfl, r30, rfl, h⟩ := h31
      show WP G _ _ _ 0 0 55 [(4, .int r3), (0, .ref b), (1, .int x1), (2, .int x2), (3, .int x3)] [.int r30, .int x2, .ref i12] (sh, ta, m29)
      refine WP.callV (y := mX2_change) (As := [.int x2, .int r30]) (st := []) dX5_put_55 wm_X5_277 mw_X2_change rfl (Nat.le_of_ble_eq_true rfl) (rmok d) h18 (by decide) rfl h (fun v32 Sm33 h35 => ?_)
      obtain ⟨m33, rfl, rfl, h⟩ := h35
      show WP G _ _ _ 0 0 58 [(4, .int r3), (0, .ref b), (1, .int x1), (2, .int x2), (3, .int x3)] [] (sh, ta, m33)
      refine WP.iconst (v := 1) dX5_put_58 rfl ?_
      exact WP.iret dX5_put_59 rfl (Nat.le_refl _) (Nat.le_refl _) ⟨_, rfl, h⟩
    · have h := h.2 c19
      refine WP.aload_n 1 dX5_put_32 rfl rfl ?_
      refine WP.iconst (v := 1) dX5_put_33 rfl ?_
      refine WP.callV (y := mX5_refuse) (As := [.int 1]) (st := []) dX5_put_34 wm_X5_87 mw_X5_refuse rfl (Nat.le_of_ble_eq_true rfl) (rmok d) h5 (by decide) rfl h (fun v36 Sm37 h39 => ?_)
      obtain ⟨m37, rfl, r38, rfl, h⟩ := h39
      show WP G _ _ _ 0 0 37 [(4, .int r3), (0, .ref b), (1, .int x1), (2, .int x2), (3, .int x3)] [.int r38] (sh, ta, m37)
      exact WP.iret dX5_put_37 rfl (Nat.le_refl _) (Nat.le_refl _) ⟨_, rfl, h⟩
  · have h := h.2 c6
    refine WP.aload_n 1 dX5_put_12 rfl rfl ?_
    refine WP.iload 0 dX5_put_13 rfl ?_
    refine WP.callV (y := mX5_refuse) (As := [.int r3]) (st := []) dX5_put_15 wm_X5_87 mw_X5_refuse rfl (Nat.le_of_ble_eq_true rfl) (rmok d) h5 (by decide) rfl h (fun v40 Sm41 h43 => ?_)
    obtain ⟨m41, rfl, r42, rfl, h⟩ := h43
    show WP G _ _ _ 0 0 18 [(4, .int r3), (0, .ref b), (1, .int x1), (2, .int x2), (3, .int x3)] [.int r42] (sh, ta, m41)
    exact WP.iret dX5_put_18 rfl (Nat.le_refl _) (Nat.le_refl _) ⟨_, rfl, h⟩
set_option maxHeartbeats 4000000 in
set_option maxRecDepth 20000 in
theorem rg_X5_move_0 (hG : fl G = false) (b : Nat) (x1 : Int32) (x2 : Int32) (x3 : Int32) (x4 : Int32) (x5 : Int32) (h : Cal G mX5_isSheet d [.int x1] sh ta m (fun v1 m2 => ∃ r3, v1 = some (.int r3) ∧ ((r3 = 0 → sh[b]? = some (.inl 5) ∧ Cal G mX5_refuse d [.ref b, .int 1] sh ta m2 (fun v6 m7 => ∃ r8, v6 = some (.int r8) ∧ K (some (.int r8)) m7)) ∧ (¬ r3 = 0 → Cal G mX5_isSheet d [.int x3] sh ta m2 (fun v11 m12 => ∃ r13, v11 = some (.int r13) ∧ ((¬ r13 = 0 → sh[b]? = some (.inl 5) ∧ ∃ i17, ta b 11 = some i17 ∧ ∃ n20, sh[i17]? = some (.inr (0, n20)) ∧ InB x1 n20 ∧ (((rd (m12 i17) x1) = 0 → Cal G mX5_refuse d [.ref b, .int 2] sh ta m12 (fun v23 m24 => ∃ r25, v23 = some (.int r25) ∧ K (some (.int r25)) m24)) ∧ (¬ (rd (m12 i17) x1) = 0 → InB x3 n20 ∧ ((¬ (rd (m12 i17) x3) = 0 → InB x1 n20 ∧ InB x3 n20 ∧ (((rd (m12 i17) x1) = (rd (m12 i17) x3) → ∃ i32, ta b 10 = some i32 ∧ ∃ n35, sh[i32]? = some (.inr (1, n35)) ∧ InB x1 n35 ∧ ∃ i37, ta i32 (x1 : Int32).toNatClampNeg = some i37 ∧ sh[i37]? = some (.inl 2) ∧ Cal G mX2_holdsRun d [.ref i37, .int x2, .int x5] sh ta m12 (fun v39 m40 => ∃ r41, v39 = some (.int r41) ∧ ((r41 = 0 → Cal G mX5_refuse d [.ref b, .int 1] sh ta m40 (fun v45 m46 => ∃ r47, v45 = some (.int r47) ∧ K (some (.int r47)) m46)) ∧ (¬ r41 = 0 → InB x3 n35 ∧ ∃ i50, ta i32 (x3 : Int32).toNatClampNeg = some i50 ∧ sh[i50]? = some (.inl 2) ∧ Cal G mX2_holdsRun d [.ref i50, .int x4, .int x5] sh ta m40 (fun v52 m53 => ∃ r54, v52 = some (.int r54) ∧ ((¬ r54 = 0 → Cal G mX2_copyRun d [.ref i50, .int x4, .ref i37, .int x2, .int x5] sh ta m53 (fun v64 m65 => v64 = none ∧ K (some (.int x5)) m65)) ∧ (r54 = 0 → Cal G mX5_refuse d [.ref b, .int 1] sh ta m53 (fun v68 m69 => ∃ r70, v68 = some (.int r70) ∧ K (some (.int r70)) m69)))))))) ∧ (¬ (rd (m12 i17) x1) = (rd (m12 i17) x3) → Cal G mX5_refuse d [.ref b, .int 5] sh ta m12 (fun v72 m73 => ∃ r74, v72 = some (.int r74) ∧ K (some (.int r74)) m73)))) ∧ ((rd (m12 i17) x3) = 0 → Cal G mX5_refuse d [.ref b, .int 2] sh ta m12 (fun v76 m77 => ∃ r78, v76 = some (.int r78) ∧ K (some (.int r78)) m77)))))) ∧ (r13 = 0 → sh[b]? = some (.inl 5) ∧ Cal G mX5_refuse d [.ref b, .int 1] sh ta m12 (fun v80 m81 => ∃ r82, v80 = some (.int r82) ∧ K (some (.int r82)) m81)))))))) : WP G (rmD (d + 1) 0 0) mX5_move (QC G sh ta K) 0 0 0 [(0, .ref b), (1, .int x1), (2, .int x2), (3, .int x3), (4, .int x4), (5, .int x5)] [] (sh, ta, m) := by
  refine WP.iload_n 1 dX5_move_0 rfl rfl ?_
  refine WP.callS (y := mX5_isSheet) (As := [.int x1]) (st := []) dX5_move_1 wm_X5_271 mw_X5_isSheet rfl (Nat.le_of_ble_eq_true rfl) (rmok d) rfl h (fun v1 Sm2 h4 => ?_)
  obtain ⟨m2, rfl, r3, rfl, h⟩ := h4
  show WP G _ _ _ 0 0 4 [(0, .ref b), (1, .int x1), (2, .int x2), (3, .int x3), (4, .int x4), (5, .int x5)] [.int r3] (sh, ta, m2)
  refine WP.if_eq (tgt := 14) dX5_move_4 (by decide) (fun c5 => ?_) (fun c5 => ?_)
  · have h := h.1 c5
    refine WP.aload_n 0 dX5_move_14 rfl rfl ?_
    refine WP.iconst (v := 1) dX5_move_15 rfl ?_
    obtain ⟨h10, h⟩ := h
    refine WP.callV (y := mX5_refuse) (As := [.int 1]) (st := []) dX5_move_16 wm_X5_87 mw_X5_refuse rfl (Nat.le_of_ble_eq_true rfl) (rmok d) h10 (by decide) rfl h (fun v6 Sm7 h9 => ?_)
    obtain ⟨m7, rfl, r8, rfl, h⟩ := h9
    show WP G _ _ _ 0 0 19 [(0, .ref b), (1, .int x1), (2, .int x2), (3, .int x3), (4, .int x4), (5, .int x5)] [.int r8] (sh, ta, m7)
    exact WP.iret dX5_move_19 rfl (Nat.le_refl _) (Nat.le_refl _) ⟨_, rfl, h⟩
  · have h := h.2 c5
    refine WP.iload_n 3 dX5_move_7 rfl rfl ?_
    refine WP.callS (y := mX5_isSheet) (As := [.int x3]) (st := []) dX5_move_8 wm_X5_271 mw_X5_isSheet rfl (Nat.le_of_ble_eq_true rfl) (rmok d) rfl h (fun v11 Sm12 h14 => ?_)
    obtain ⟨m12, rfl, r13, rfl, h⟩ := h14
    show WP G _ _ _ 0 0 11 [(0, .ref b), (1, .int x1), (2, .int x2), (3, .int x3), (4, .int x4), (5, .int x5)] [.int r13] (sh, ta, m12)
    refine WP.if_ne (tgt := 20) dX5_move_11 (by decide) (fun c15 => ?_) (fun c15 => ?_)
    · have h := h.1 c15
      refine WP.aload_n 0 dX5_move_20 rfl rfl ?_
      obtain ⟨h16, h⟩ := h
      obtain ⟨i17, h18, h⟩ := h
      refine WP.getR 5 11 wf_X5_52 (by decide) (by decide) rfl h16 h18 dX5_move_21 ?_
      refine WP.iload_n 1 dX5_move_24 rfl rfl ?_
      obtain ⟨n20, h19, h⟩ := h
      obtain ⟨h21, h⟩ := h
      refine WP.iald h19 h21 dX5_move_25 ?_
      refine WP.if_eq (tgt := 38) dX5_move_26 (by decide) (fun c22 => ?_) (fun c22 => ?_)
      · have h := h.1 c22
        refine WP.aload_n 0 dX5_move_38 rfl rfl ?_
        refine WP.iconst (v := 2) dX5_move_39 rfl ?_
        refine WP.callV (y := mX5_refuse) (As := [.int 2]) (st := []) dX5_move_40 wm_X5_87 mw_X5_refuse rfl (Nat.le_of_ble_eq_true rfl) (rmok d) h16 (by decide) rfl h (fun v23 Sm24 h26 => ?_)
        obtain ⟨m24, rfl, r25, rfl, h⟩ := h26
        show WP G _ _ _ 0 0 43 [(0, .ref b), (1, .int x1), (2, .int x2), (3, .int x3), (4, .int x4), (5, .int x5)] [.int r25] (sh, ta, m24)
        exact WP.iret dX5_move_43 rfl (Nat.le_refl _) (Nat.le_refl _) ⟨_, rfl, h⟩
      · have h := h.2 c22
        refine WP.aload_n 0 dX5_move_29 rfl rfl ?_
        refine WP.getR 5 11 wf_X5_52 (by decide) (by decide) rfl h16 h18 dX5_move_30 ?_
        refine WP.iload_n 3 dX5_move_33 rfl rfl ?_
        obtain ⟨h27, h⟩ := h
        refine WP.iald h19 h27 dX5_move_34 ?_
        refine WP.if_ne (tgt := 44) dX5_move_35 (by decide) (fun c28 => ?_) (fun c28 => ?_)
        · have h := h.1 c28
          refine WP.aload_n 0 dX5_move_44 rfl rfl ?_
          refine WP.getR 5 11 wf_X5_52 (by decide) (by decide) rfl h16 h18 dX5_move_45 ?_
          refine WP.iload_n 1 dX5_move_48 rfl rfl ?_
          obtain ⟨h29, h⟩ := h
          refine WP.iald h19 h29 dX5_move_49 ?_
          refine WP.aload_n 0 dX5_move_50 rfl rfl ?_
          refine WP.getR 5 11 wf_X5_52 (by decide) (by decide) rfl h16 h18 dX5_move_51 ?_
          refine WP.iload_n 3 dX5_move_54 rfl rfl ?_
          obtain ⟨h30, h⟩ := h
          refine WP.iald h19 h30 dX5_move_55 ?_
          refine WP.icmp_eq (tgt := 65) dX5_move_56 (by decide) (fun c31 => ?_) (fun c31 => ?_)
          · have h := h.1 c31
            refine WP.aload_n 0 dX5_move_65 rfl rfl ?_
            obtain ⟨i32, h33, h⟩ := h
            refine WP.getR 5 10 wf_X5_48 (by decide) (by decide) rfl h16 h33 dX5_move_66 ?_
            refine WP.iload_n 1 dX5_move_69 rfl rfl ?_
            obtain ⟨n35, h34, h⟩ := h
            obtain ⟨h36, i37, h38, h⟩ := h
            refine WP.aald h34 h36 h38 dX5_move_70 ?_
            refine WP.iload_n 2 dX5_move_71 rfl rfl ?_
            refine WP.iload 5 dX5_move_72 rfl ?_
            obtain ⟨h43, h⟩ := h
            refine WP.callV (y := mX2_holdsRun) (As := [.int x2, .int x5]) (st := []) dX5_move_74 wm_X5_280 mw_X2_holdsRun rfl (Nat.le_of_ble_eq_true rfl) (rmok d) h43 (by decide) rfl h (fun v39 Sm40 h42 => ?_)
            obtain ⟨m40, rfl, r41, rfl, h⟩ := h42
            show WP G _ _ _ 0 0 77 [(0, .ref b), (1, .int x1), (2, .int x2), (3, .int x3), (4, .int x4), (5, .int x5)] [.int r41] (sh, ta, m40)
            refine WP.if_eq (tgt := 96) dX5_move_77 (by decide) (fun c44 => ?_) (fun c44 => ?_)
            · have h := h.1 c44
              refine WP.aload_n 0 dX5_move_96 rfl rfl ?_
              refine WP.iconst (v := 1) dX5_move_97 rfl ?_
              refine WP.callV (y := mX5_refuse) (As := [.int 1]) (st := []) dX5_move_98 wm_X5_87 mw_X5_refuse rfl (Nat.le_of_ble_eq_true rfl) (rmok d) h16 (by decide) rfl h (fun v45 Sm46 h48 => ?_)
              obtain ⟨m46, rfl, r47, rfl, h⟩ := h48
              show WP G _ _ _ 0 0 101 [(0, .ref b), (1, .int x1), (2, .int x2), (3, .int x3), (4, .int x4), (5, .int x5)] [.int r47] (sh, ta, m46)
              exact WP.iret dX5_move_101 rfl (Nat.le_refl _) (Nat.le_refl _) ⟨_, rfl, h⟩
            · have h := h.2 c44
              refine WP.aload_n 0 dX5_move_80 rfl rfl ?_
              refine WP.getR 5 10 wf_X5_48 (by decide) (by decide) rfl h16 h33 dX5_move_81 ?_
              refine WP.iload_n 3 dX5_move_84 rfl rfl ?_
              obtain ⟨h49, i50, h51, h⟩ := h
              refine WP.aald h34 h49 h51 dX5_move_85 ?_
              refine WP.iload 4 dX5_move_86 rfl ?_
              refine WP.iload 5 dX5_move_88 rfl ?_
              obtain ⟨h56, h⟩ := h
              refine WP.callV (y := mX2_holdsRun) (As := [.int x4, .int x5]) (st := []) dX5_move_90 wm_X5_280 mw_X2_holdsRun rfl (Nat.le_of_ble_eq_true rfl) (rmok d) h56 (by decide) rfl h (fun v52 Sm53 h55 => ?_)
              obtain ⟨m53, rfl, r54, rfl, h⟩ := h55
              show WP G _ _ _ 0 0 93 [(0, .ref b), (1, .int x1), (2, .int x2), (3, .int x3), (4, .int x4), (5, .int x5)] [.int r54] (sh, ta, m53)
              refine WP.if_ne (tgt := 102) dX5_move_93 (by decide) (fun c57 => ?_) (fun c57 => ?_)
              · have h := h.1 c57
                refine WP.aload_n 0 dX5_move_102 rfl rfl ?_
                refine WP.getR 5 10 wf_X5_48 (by decide) (by decide) rfl h16 h33 dX5_move_103 ?_
                refine WP.iload_n 3 dX5_move_106 rfl rfl ?_
                refine WP.aald h34 h49 h51 dX5_move_107 ?_
                refine WP.iload 4 dX5_move_108 rfl ?_
                refine WP.aload_n 0 dX5_move_110 rfl rfl ?_
                refine WP.getR 5 10 wf_X5_48 (by decide) (by decide) rfl h16 h33 dX5_move_111 ?_
                refine WP.iload_n 1 dX5_move_114 rfl rfl ?_
                refine WP.aald h34 h36 h38 dX5_move_115 ?_
                refine WP.iload_n 2 dX5_move_116 rfl rfl ?_
                refine WP.iload 5 dX5_move_117 rfl ?_
                refine WP.callV (y := mX2_copyRun) (As := [.int x4, .ref i37, .int x2, .int x5]) (st := []) dX5_move_119 wm_X5_283 mw_X2_copyRun rfl (Nat.le_of_ble_eq_true rfl) (rmok d) h56 (by decide) rfl h (fun v64 Sm65 h67 => ?_)
                obtain ⟨m65, rfl, rfl, h⟩ := h67
                show WP G _ _ _ 0 0 122 [(0, .ref b), (1, .int x1), (2, .int x2), (3, .int x3), (4, .int x4), (5, .int x5)] [] (sh, ta, m65)
                refine WP.iload 5 dX5_move_122 rfl ?_
                exact WP.iret dX5_move_124 rfl (Nat.le_refl _) (Nat.le_refl _) ⟨_, rfl, h⟩
              · have h := h.2 c57
                refine WP.aload_n 0 dX5_move_96 rfl rfl ?_
                refine WP.iconst (v := 1) dX5_move_97 rfl ?_
                refine WP.callV (y := mX5_refuse) (As := [.int 1]) (st := []) dX5_move_98 wm_X5_87 mw_X5_refuse rfl (Nat.le_of_ble_eq_true rfl) (rmok d) h16 (by decide) rfl h (fun v68 Sm69 h71 => ?_)
                obtain ⟨m69, rfl, r70, rfl, h⟩ := h71
                show WP G _ _ _ 0 0 101 [(0, .ref b), (1, .int x1), (2, .int x2), (3, .int x3), (4, .int x4), (5, .int x5)] [.int r70] (sh, ta, m69)
                exact WP.iret dX5_move_101 rfl (Nat.le_refl _) (Nat.le_refl _) ⟨_, rfl, h⟩
          · have h := h.2 c31
            refine WP.aload_n 0 dX5_move_59 rfl rfl ?_
            refine WP.iconst (v := 5) dX5_move_60 rfl ?_
            refine WP.callV (y := mX5_refuse) (As := [.int 5]) (st := []) dX5_move_61 wm_X5_87 mw_X5_refuse rfl (Nat.le_of_ble_eq_true rfl) (rmok d) h16 (by decide) rfl h (fun v72 Sm73 h75 => ?_)
            obtain ⟨m73, rfl, r74, rfl, h⟩ := h75
            show WP G _ _ _ 0 0 64 [(0, .ref b), (1, .int x1), (2, .int x2), (3, .int x3), (4, .int x4), (5, .int x5)] [.int r74] (sh, ta, m73)
            exact WP.iret dX5_move_64 rfl (Nat.le_refl _) (Nat.le_refl _) ⟨_, rfl, h⟩
        · have h := h.2 c28
          refine WP.aload_n 0 dX5_move_38 rfl rfl ?_
          refine WP.iconst (v := 2) dX5_move_39 rfl ?_
          refine WP.callV (y := mX5_refuse) (As := [.int 2]) (st := []) dX5_move_40 wm_X5_87 mw_X5_refuse rfl (Nat.le_of_ble_eq_true rfl) (rmok d) h16 (by decide) rfl h (fun v76 Sm77 h79 => ?_)
          obtain ⟨m77, rfl, r78, rfl, h⟩ := h79
          show WP G _ _ _ 0 0 43 [(0, .ref b), (1, .int x1), (2, .int x2), (3, .int x3), (4, .int x4), (5, .int x5)] [.int r78] (sh, ta, m77)
          exact WP.iret dX5_move_43 rfl (Nat.le_refl _) (Nat.le_refl _) ⟨_, rfl, h⟩
    · have h := h.2 c15
      refine WP.aload_n 0 dX5_move_14 rfl rfl ?_
      refine WP.iconst (v := 1) dX5_move_15 rfl ?_
      obtain ⟨h84, h⟩ := h
      refine WP.callV (y := mX5_refuse) (As := [.int 1]) (st := []) dX5_move_16 wm_X5_87 mw_X5_refuse rfl (Nat.le_of_ble_eq_true rfl) (rmok d) h84 (by decide) rfl h (fun v80 Sm81 h83 => ?_)
      obtain ⟨m81, rfl, r82, rfl, h⟩ := h83
      show WP G _ _ _ 0 0 19 [(0, .ref b), (1, .int x1), (2, .int x2), (3, .int x3), (4, .int x4), (5, .int x5)] [.int r82] (sh, ta, m81)
      exact WP.iret dX5_move_19 rfl (Nat.le_refl _) (Nat.le_refl _) ⟨_, rfl, h⟩
set_option maxHeartbeats 4000000 in
set_option maxRecDepth 20000 in
theorem rg_X5_judge_0 (hG : fl G = false) (b : Nat) (x1 : Int32) (x2 : Int32) (h : Cal G mX5_isCell d [.int x2] sh ta m (fun v1 m2 => ∃ r3, v1 = some (.int r3) ∧ ((¬ r3 = 0 → sh[b]? = some (.inl 5) ∧ Cal G mX5_lackOf d [.ref b, .int x1] sh ta m2 (fun v6 m7 => ∃ r8, v6 = some (.int r8) ∧ ((r8 = 0 → ∃ i12, ta b 10 = some i12 ∧ ∃ n15, sh[i12]? = some (.inr (1, n15)) ∧ InB x1 n15 ∧ ∃ i17, ta i12 (x1 : Int32).toNatClampNeg = some i17 ∧ ∃ i19, ta b 0 = some i19 ∧ sh[i19]? = some (.inl 0) ∧ Cal G mX0_highOf d [.ref i19, .int x2] sh ta m7 (fun v21 m22 => ∃ r23, v21 = some (.int r23) ∧ sh[i17]? = some (.inl 2) ∧ WP G (rmD (d + 1) 0 0) mX5_judge (QC G sh ta K) 0 0 60 [(0, .ref b), (2, .int x2), (4, .ref i17), (5, .int r23), (6, .int (if r23 < (m22 i17 1) then r23 else (m22 i17 1))), (7, .int 0)] [] (sh, ta, m22))) ∧ (¬ r8 = 0 → Cal G mX5_refuse d [.ref b, .int r8] sh ta m7 (fun v27 m28 => ∃ r29, v27 = some (.int r29) ∧ K (some (.int r29)) m28))))) ∧ (r3 = 0 → sh[b]? = some (.inl 5) ∧ Cal G mX5_refuse d [.ref b, .int 1] sh ta m2 (fun v32 m33 => ∃ r34, v32 = some (.int r34) ∧ K (some (.int r34)) m33))))) : WP G (rmD (d + 1) 0 0) mX5_judge (QC G sh ta K) 0 0 0 [(0, .ref b), (1, .int x1), (2, .int x2)] [] (sh, ta, m) := by
  refine WP.iload_n 2 dX5_judge_0 rfl rfl ?_
  refine WP.callS (y := mX5_isCell) (As := [.int x2]) (st := []) dX5_judge_1 wm_X5_155 mw_X5_isCell rfl (Nat.le_of_ble_eq_true rfl) (rmok d) rfl h (fun v1 Sm2 h4 => ?_)
  obtain ⟨m2, rfl, r3, rfl, h⟩ := h4
  show WP G _ _ _ 0 0 4 [(0, .ref b), (1, .int x1), (2, .int x2)] [.int r3] (sh, ta, m2)
  refine WP.if_ne (tgt := 11) dX5_judge_4 (by decide) (fun c5 => ?_) (fun c5 => ?_)
  · have h := h.1 c5
    refine WP.aload_n 0 dX5_judge_11 rfl rfl ?_
    refine WP.iload_n 1 dX5_judge_12 rfl rfl ?_
    obtain ⟨h10, h⟩ := h
    refine WP.callV (y := mX5_lackOf) (As := [.int x1]) (st := []) dX5_judge_13 wm_X5_203 mw_X5_lackOf rfl (Nat.le_of_ble_eq_true rfl) (rmok d) h10 (by decide) rfl h (fun v6 Sm7 h9 => ?_)
    obtain ⟨m7, rfl, r8, rfl, h⟩ := h9
    show WP G _ _ _ 0 0 16 [(0, .ref b), (1, .int x1), (2, .int x2)] [.int r8] (sh, ta, m7)
    refine WP.istore_n (lv2 := [(3, .int r8), (0, .ref b), (1, .int x1), (2, .int x2)]) dX5_judge_16 rfl (by decide) rfl ?_
    refine WP.iload_n 0 dX5_judge_17 rfl rfl ?_
    refine WP.if_eq (tgt := 27) dX5_judge_18 (by decide) (fun c11 => ?_) (fun c11 => ?_)
    · have h := h.1 c11
      refine WP.aload_n 1 dX5_judge_27 rfl rfl ?_
      obtain ⟨i12, h13, h⟩ := h
      refine WP.getR 5 10 wf_X5_48 (by decide) (by decide) rfl h10 h13 dX5_judge_28 ?_
      refine WP.iload_n 2 dX5_judge_31 rfl rfl ?_
      obtain ⟨n15, h14, h⟩ := h
      obtain ⟨h16, i17, h18, h⟩ := h
      refine WP.aald h14 h16 h18 dX5_judge_32 ?_
      refine WP.astore (lv2 := [(4, .ref i17), (3, .int r8), (0, .ref b), (1, .int x1), (2, .int x2)]) dX5_judge_33 (by decide) rfl ?_
      refine WP.aload_n 2 dX5_judge_35 rfl rfl ?_
      obtain ⟨i19, h20, h⟩ := h
      refine WP.getR 5 0 wf_X5_67 (by decide) (by decide) rfl h10 h20 dX5_judge_36 ?_
      refine WP.iload_n 4 dX5_judge_39 rfl rfl ?_
      obtain ⟨h25, h⟩ := h
      refine WP.callV (y := mX0_highOf) (As := [.int x2]) (st := []) dX5_judge_40 wm_X5_95 mw_X0_highOf rfl (Nat.le_of_ble_eq_true rfl) (rmok d) h25 (by decide) rfl h (fun v21 Sm22 h24 => ?_)
      obtain ⟨m22, rfl, r23, rfl, h⟩ := h24
      show WP G _ _ _ 0 0 43 [(4, .ref i17), (3, .int r8), (0, .ref b), (1, .int x1), (2, .int x2)] [.int r23] (sh, ta, m22)
      refine WP.istore (lv2 := [(5, .int r23), (4, .ref i17), (3, .int r8), (0, .ref b), (1, .int x1), (2, .int x2)]) dX5_judge_43 (by decide) rfl ?_
      refine WP.aload 1 dX5_judge_45 rfl ?_
      obtain ⟨h26, h⟩ := h
      refine WP.getIN 2 1 wf_X5_168 (by decide) (by decide) rfl h26 dX5_judge_47 ?_
      refine WP.iload 0 dX5_judge_50 rfl ?_
      refine WP.mmin wm_X5_287 (Nat.le_of_ble_eq_true rfl) (rmok0 d) dX5_judge_52 ?_
      refine WP.istore (lv2 := [(6, .int (if r23 < (m22 i17 1) then r23 else (m22 i17 1))), (5, .int r23), (4, .ref i17), (3, .int r8), (0, .ref b), (1, .int x1), (2, .int x2)]) dX5_judge_55 (by decide) rfl ?_
      refine WP.iconst (v := 0) dX5_judge_57 rfl ?_
      refine WP.istore (lv2 := [(7, .int 0), (6, .int (if r23 < (m22 i17 1) then r23 else (m22 i17 1))), (5, .int r23), (4, .ref i17), (3, .int r8), (0, .ref b), (1, .int x1), (2, .int x2)]) dX5_judge_58 (by decide) rfl ?_
      exact WP.pick [5, 7, 3, 2, 1, 0] rfl h
    · have h := h.2 c11
      refine WP.aload_n 1 dX5_judge_21 rfl rfl ?_
      refine WP.iload_n 0 dX5_judge_22 rfl rfl ?_
      refine WP.callV (y := mX5_refuse) (As := [.int r8]) (st := []) dX5_judge_23 wm_X5_87 mw_X5_refuse rfl (Nat.le_of_ble_eq_true rfl) (rmok d) h10 (by decide) rfl h (fun v27 Sm28 h30 => ?_)
      obtain ⟨m28, rfl, r29, rfl, h⟩ := h30
      show WP G _ _ _ 0 0 26 [(3, .int r8), (0, .ref b), (1, .int x1), (2, .int x2)] [.int r29] (sh, ta, m28)
      exact WP.iret dX5_judge_26 rfl (Nat.le_refl _) (Nat.le_refl _) ⟨_, rfl, h⟩
  · have h := h.2 c5
    refine WP.iconst (v := 1) dX5_judge_7 rfl ?_
    refine WP.goto (tgt := 16) dX5_judge_8 (by decide) ?_
    refine WP.istore_n (lv2 := [(3, .int 1), (0, .ref b), (1, .int x1), (2, .int x2)]) dX5_judge_16 rfl (by decide) rfl ?_
    refine WP.iload_n 0 dX5_judge_17 rfl rfl ?_
    refine WP.if_eq (tgt := 27) dX5_judge_18 (by decide) (fun c31 => absurd c31 (by decide)) (fun _ => ?_)
    refine WP.aload_n 1 dX5_judge_21 rfl rfl ?_
    refine WP.iload_n 0 dX5_judge_22 rfl rfl ?_
    obtain ⟨h36, h⟩ := h
    refine WP.callV (y := mX5_refuse) (As := [.int 1]) (st := []) dX5_judge_23 wm_X5_87 mw_X5_refuse rfl (Nat.le_of_ble_eq_true rfl) (rmok d) h36 (by decide) rfl h (fun v32 Sm33 h35 => ?_)
    obtain ⟨m33, rfl, r34, rfl, h⟩ := h35
    show WP G _ _ _ 0 0 26 [(3, .int 1), (0, .ref b), (1, .int x1), (2, .int x2)] [.int r34] (sh, ta, m33)
    exact WP.iret dX5_judge_26 rfl (Nat.le_refl _) (Nat.le_refl _) ⟨_, rfl, h⟩
set_option maxHeartbeats 4000000 in
set_option maxRecDepth 20000 in
theorem rg_X5_judge_60 (hG : fl G = false) (b : Nat) (x2 : Int32) (b4 : Nat) (x5 : Int32) (x6 : Int32) (x7 : Int32) (h : ((x6 ≤ x7 → sh[b4]? = some (.inl 2) ∧ ((¬ (m b4 1) = x5 → K (some (.int x6)) m) ∧ ((m b4 1) = x5 → K (some (.int ((-1)))) m))) ∧ (¬ x6 ≤ x7 → sh[b4]? = some (.inl 2) ∧ Cal G mX2_at d [.ref b4, .int x7] sh ta m (fun v4 m5 => ∃ r6, v4 = some (.int r6) ∧ sh[b]? = some (.inl 5) ∧ ∃ i10, ta b 0 = some i10 ∧ sh[i10]? = some (.inl 0) ∧ Cal G mX0_thingAt d [.ref i10, .int x2, .int x7] sh ta m5 (fun v12 m13 => ∃ r14, v12 = some (.int r14) ∧ ((r6 = r14 → WP G (rmD (d + 1) 0 0) mX5_judge (QC G sh ta K) 0 0 60 [(0, .ref b), (2, .int x2), (4, .ref b4), (5, .int x5), (6, .int x6), (7, .int (x7 + 1))] [] (sh, ta, m13)) ∧ (¬ r6 = r14 → K (some (.int x7)) m13))))))) : WP G (rmD (d + 1) 0 0) mX5_judge (QC G sh ta K) 0 0 60 [(0, .ref b), (2, .int x2), (4, .ref b4), (5, .int x5), (6, .int x6), (7, .int x7)] [] (sh, ta, m) := by
  refine WP.iload 5 dX5_judge_60 rfl ?_
  refine WP.iload 4 dX5_judge_62 rfl ?_
  refine WP.icmp_ge (tgt := 96) dX5_judge_64 (by decide) (fun c1 => ?_) (fun c1 => ?_)
  · have h := h.1 c1
    refine WP.aload 2 dX5_judge_96 rfl ?_
    obtain ⟨h2, h⟩ := h
    refine WP.getIN 2 1 wf_X5_168 (by decide) (by decide) rfl h2 dX5_judge_98 ?_
    refine WP.iload 3 dX5_judge_101 rfl ?_
    refine WP.icmp_ne (tgt := 110) dX5_judge_103 (by decide) (fun c3 => ?_) (fun c3 => ?_)
    · have h := h.1 c3
      refine WP.iload 4 dX5_judge_110 rfl ?_
      exact WP.iret dX5_judge_112 rfl (Nat.le_refl _) (Nat.le_refl _) ⟨_, rfl, h⟩
    · have h := h.2 c3
      refine WP.iconst (v := (-1)) dX5_judge_106 rfl ?_
      refine WP.goto (tgt := 112) dX5_judge_107 (by decide) ?_
      exact WP.iret dX5_judge_112 rfl (Nat.le_refl _) (Nat.le_refl _) ⟨_, rfl, h⟩
  · have h := h.2 c1
    refine WP.aload 2 dX5_judge_67 rfl ?_
    refine WP.iload 5 dX5_judge_69 rfl ?_
    obtain ⟨h8, h⟩ := h
    refine WP.callV (y := mX2_at) (As := [.int x7]) (st := []) dX5_judge_71 wm_X5_210 mw_X2_at rfl (Nat.le_of_ble_eq_true rfl) (rmok d) h8 (by decide) rfl h (fun v4 Sm5 h7 => ?_)
    obtain ⟨m5, rfl, r6, rfl, h⟩ := h7
    show WP G _ _ _ 0 0 74 [(0, .ref b), (2, .int x2), (4, .ref b4), (5, .int x5), (6, .int x6), (7, .int x7)] [.int r6] (sh, ta, m5)
    refine WP.aload_n 0 dX5_judge_74 rfl rfl ?_
    obtain ⟨h9, h⟩ := h
    obtain ⟨i10, h11, h⟩ := h
    refine WP.getR 5 0 wf_X5_67 (by decide) (by decide) rfl h9 h11 dX5_judge_75 ?_
    refine WP.iload_n 1 dX5_judge_78 rfl rfl ?_
    refine WP.iload 5 dX5_judge_79 rfl ?_
    obtain ⟨h16, h⟩ := h
    refine WP.callV (y := mX0_thingAt) (As := [.int x2, .int x7]) (st := [.int r6]) dX5_judge_81 wm_X5_161 mw_X0_thingAt rfl (Nat.le_of_ble_eq_true rfl) (rmok d) h16 (by decide) rfl h (fun v12 Sm13 h15 => ?_)
    obtain ⟨m13, rfl, r14, rfl, h⟩ := h15
    show WP G _ _ _ 0 0 84 [(0, .ref b), (2, .int x2), (4, .ref b4), (5, .int x5), (6, .int x6), (7, .int x7)] [.int r14, .int r6] (sh, ta, m13)
    refine WP.icmp_eq (tgt := 90) dX5_judge_84 (by decide) (fun c17 => ?_) (fun c17 => ?_)
    · have h := h.1 c17
      refine WP.iinc (lv2 := [(7, .int (x7 + 1)), (0, .ref b), (2, .int x2), (4, .ref b4), (5, .int x5), (6, .int x6)]) 5 1 dX5_judge_90 rfl rfl (by decide) rfl ?_
      refine WP.goto (tgt := 60) dX5_judge_93 (by decide) ?_
      exact WP.pick [1, 2, 3, 4, 5, 0] rfl h
    · have h := h.2 c17
      refine WP.iload 5 dX5_judge_87 rfl ?_
      exact WP.iret dX5_judge_89 rfl (Nat.le_refl _) (Nat.le_refl _) ⟨_, rfl, h⟩
set_option maxHeartbeats 4000000 in
set_option maxRecDepth 20000 in
theorem rg_X5_image_0 (hG : fl G = false) (b : Nat) (h : sh[b]? = some (.inl 5) ∧ ∃ i2, ta b 1 = some i2 ∧ ∃ i4, ta b 0 = some i4 ∧ sh[i2]? = some (.inl 0) ∧ Cal G mX0_copyWholeFrom d [.ref i2, .ref i4] sh ta m (fun v6 m7 => v6 = none ∧ ∃ i11, ta b 4 = some i11 ∧ ∃ i13, ta b 3 = some i13 ∧ sh[i11]? = some (.inl 2) ∧ Cal G mX2_copyFrom d [.ref i11, .ref i13] sh ta m7 (fun v15 m16 => v15 = none ∧ ∃ i20, ta b 6 = some i20 ∧ ∃ i22, ta b 5 = some i22 ∧ sh[i20]? = some (.inl 2) ∧ Cal G mX2_copyFrom d [.ref i20, .ref i22] sh ta m16 (fun v24 m25 => v24 = none ∧ ∀ m29, m29 = up2 m25 b 14 ((m25 b 14) + 1) → K (some (.int (m29 b 14))) m29)))) : WP G (rmD (d + 1) 0 0) mX5_image (QC G sh ta K) 0 0 0 [(0, .ref b)] [] (sh, ta, m) := by
  refine WP.aload_n 0 dX5_image_0 rfl rfl ?_
  obtain ⟨h1, h⟩ := h
  obtain ⟨i2, h3, h⟩ := h
  refine WP.getR 5 1 wf_X5_71 (by decide) (by decide) rfl h1 h3 dX5_image_1 ?_
  refine WP.aload_n 0 dX5_image_4 rfl rfl ?_
  obtain ⟨i4, h5, h⟩ := h
  refine WP.getR 5 0 wf_X5_67 (by decide) (by decide) rfl h1 h5 dX5_image_5 ?_
  obtain ⟨h10, h⟩ := h
  refine WP.callV (y := mX0_copyWholeFrom) (As := [.ref i4]) (st := []) dX5_image_8 wm_X5_290 mw_X0_copyWholeFrom rfl (Nat.le_of_ble_eq_true rfl) (rmok d) h10 (by decide) rfl h (fun v6 Sm7 h9 => ?_)
  obtain ⟨m7, rfl, rfl, h⟩ := h9
  show WP G _ _ _ 0 0 11 [(0, .ref b)] [] (sh, ta, m7)
  refine WP.aload_n 0 dX5_image_11 rfl rfl ?_
  obtain ⟨i11, h12, h⟩ := h
  refine WP.getR 5 4 wf_X5_18 (by decide) (by decide) rfl h1 h12 dX5_image_12 ?_
  refine WP.aload_n 0 dX5_image_15 rfl rfl ?_
  obtain ⟨i13, h14, h⟩ := h
  refine WP.getR 5 3 wf_X5_14 (by decide) (by decide) rfl h1 h14 dX5_image_16 ?_
  obtain ⟨h19, h⟩ := h
  refine WP.callV (y := mX2_copyFrom) (As := [.ref i13]) (st := []) dX5_image_19 wm_X5_293 mw_X2_copyFrom rfl (Nat.le_of_ble_eq_true rfl) (rmok d) h19 (by decide) rfl h (fun v15 Sm16 h18 => ?_)
  obtain ⟨m16, rfl, rfl, h⟩ := h18
  show WP G _ _ _ 0 0 22 [(0, .ref b)] [] (sh, ta, m16)
  refine WP.aload_n 0 dX5_image_22 rfl rfl ?_
  obtain ⟨i20, h21, h⟩ := h
  refine WP.getR 5 6 wf_X5_24 (by decide) (by decide) rfl h1 h21 dX5_image_23 ?_
  refine WP.aload_n 0 dX5_image_26 rfl rfl ?_
  obtain ⟨i22, h23, h⟩ := h
  refine WP.getR 5 5 wf_X5_21 (by decide) (by decide) rfl h1 h23 dX5_image_27 ?_
  obtain ⟨h28, h⟩ := h
  refine WP.callV (y := mX2_copyFrom) (As := [.ref i22]) (st := []) dX5_image_30 wm_X5_293 mw_X2_copyFrom rfl (Nat.le_of_ble_eq_true rfl) (rmok d) h28 (by decide) rfl h (fun v24 Sm25 h27 => ?_)
  obtain ⟨m25, rfl, rfl, h⟩ := h27
  show WP G _ _ _ 0 0 33 [(0, .ref b)] [] (sh, ta, m25)
  refine WP.aload_n 0 dX5_image_33 rfl rfl ?_
  refine WP.dup dX5_image_34 rfl ?_
  refine WP.getI 5 14 wf_X5_296 (by decide) (by decide) rfl h1 dX5_image_35 ?_
  refine WP.iconst (v := 1) dX5_image_38 rfl ?_
  refine WP.iadd dX5_image_39 ?_
  have h := h _ rfl
  refine WP.putI 5 14 wf_X5_296 (by decide) (by decide) rfl h1 rfl rfl rfl dX5_image_40 ?_
  generalize up2 m25 b 14 ((m25 b 14) + 1) = m29 at h ⊢
  refine WP.aload_n 0 dX5_image_43 rfl rfl ?_
  refine WP.getI 5 14 wf_X5_296 (by decide) (by decide) rfl h1 dX5_image_44 ?_
  exact WP.iret dX5_image_47 rfl (Nat.le_refl _) (Nat.le_refl _) ⟨_, rfl, h⟩
set_option maxHeartbeats 4000000 in
set_option maxRecDepth 20000 in
theorem rg_X5_restore_0 (hG : fl G = false) (b : Nat) (h : sh[b]? = some (.inl 5) ∧ ((¬ (m b 14) = 0 → ∃ i3, ta b 0 = some i3 ∧ ∃ i5, ta b 1 = some i5 ∧ sh[i3]? = some (.inl 0) ∧ Cal G mX0_copyWholeFrom d [.ref i3, .ref i5] sh ta m (fun v7 m8 => v7 = none ∧ ∃ i12, ta b 3 = some i12 ∧ ∃ i14, ta b 4 = some i14 ∧ sh[i12]? = some (.inl 2) ∧ Cal G mX2_copyFrom d [.ref i12, .ref i14] sh ta m8 (fun v16 m17 => v16 = none ∧ ∃ i21, ta b 5 = some i21 ∧ ∃ i23, ta b 6 = some i23 ∧ sh[i21]? = some (.inl 2) ∧ Cal G mX2_copyFrom d [.ref i21, .ref i23] sh ta m17 (fun v25 m26 => v25 = none ∧ K (some (.int (m26 i3 13))) m26)))) ∧ ((m b 14) = 0 → Cal G mX5_refuse d [.ref b, .int 2] sh ta m (fun v30 m31 => ∃ r32, v30 = some (.int r32) ∧ K (some (.int r32)) m31)))) : WP G (rmD (d + 1) 0 0) mX5_restore (QC G sh ta K) 0 0 0 [(0, .ref b)] [] (sh, ta, m) := by
  refine WP.aload_n 0 dX5_restore_0 rfl rfl ?_
  obtain ⟨h1, h⟩ := h
  refine WP.getI 5 14 wf_X5_296 (by decide) (by decide) rfl h1 dX5_restore_1 ?_
  refine WP.if_ne (tgt := 13) dX5_restore_4 (by decide) (fun c2 => ?_) (fun c2 => ?_)
  · have h := h.1 c2
    refine WP.aload_n 0 dX5_restore_13 rfl rfl ?_
    obtain ⟨i3, h4, h⟩ := h
    refine WP.getR 5 0 wf_X5_67 (by decide) (by decide) rfl h1 h4 dX5_restore_14 ?_
    refine WP.aload_n 0 dX5_restore_17 rfl rfl ?_
    obtain ⟨i5, h6, h⟩ := h
    refine WP.getR 5 1 wf_X5_71 (by decide) (by decide) rfl h1 h6 dX5_restore_18 ?_
    obtain ⟨h11, h⟩ := h
    refine WP.callV (y := mX0_copyWholeFrom) (As := [.ref i5]) (st := []) dX5_restore_21 wm_X5_290 mw_X0_copyWholeFrom rfl (Nat.le_of_ble_eq_true rfl) (rmok d) h11 (by decide) rfl h (fun v7 Sm8 h10 => ?_)
    obtain ⟨m8, rfl, rfl, h⟩ := h10
    show WP G _ _ _ 0 0 24 [(0, .ref b)] [] (sh, ta, m8)
    refine WP.aload_n 0 dX5_restore_24 rfl rfl ?_
    obtain ⟨i12, h13, h⟩ := h
    refine WP.getR 5 3 wf_X5_14 (by decide) (by decide) rfl h1 h13 dX5_restore_25 ?_
    refine WP.aload_n 0 dX5_restore_28 rfl rfl ?_
    obtain ⟨i14, h15, h⟩ := h
    refine WP.getR 5 4 wf_X5_18 (by decide) (by decide) rfl h1 h15 dX5_restore_29 ?_
    obtain ⟨h20, h⟩ := h
    refine WP.callV (y := mX2_copyFrom) (As := [.ref i14]) (st := []) dX5_restore_32 wm_X5_293 mw_X2_copyFrom rfl (Nat.le_of_ble_eq_true rfl) (rmok d) h20 (by decide) rfl h (fun v16 Sm17 h19 => ?_)
    obtain ⟨m17, rfl, rfl, h⟩ := h19
    show WP G _ _ _ 0 0 35 [(0, .ref b)] [] (sh, ta, m17)
    refine WP.aload_n 0 dX5_restore_35 rfl rfl ?_
    obtain ⟨i21, h22, h⟩ := h
    refine WP.getR 5 5 wf_X5_21 (by decide) (by decide) rfl h1 h22 dX5_restore_36 ?_
    refine WP.aload_n 0 dX5_restore_39 rfl rfl ?_
    obtain ⟨i23, h24, h⟩ := h
    refine WP.getR 5 6 wf_X5_24 (by decide) (by decide) rfl h1 h24 dX5_restore_40 ?_
    obtain ⟨h29, h⟩ := h
    refine WP.callV (y := mX2_copyFrom) (As := [.ref i23]) (st := []) dX5_restore_43 wm_X5_293 mw_X2_copyFrom rfl (Nat.le_of_ble_eq_true rfl) (rmok d) h29 (by decide) rfl h (fun v25 Sm26 h28 => ?_)
    obtain ⟨m26, rfl, rfl, h⟩ := h28
    show WP G _ _ _ 0 0 46 [(0, .ref b)] [] (sh, ta, m26)
    refine WP.aload_n 0 dX5_restore_46 rfl rfl ?_
    refine WP.getR 5 0 wf_X5_67 (by decide) (by decide) rfl h1 h4 dX5_restore_47 ?_
    refine WP.getIN 0 13 wf_X5_299 (by decide) (by decide) rfl h11 dX5_restore_50 ?_
    exact WP.iret dX5_restore_53 rfl (Nat.le_refl _) (Nat.le_refl _) ⟨_, rfl, h⟩
  · have h := h.2 c2
    refine WP.aload_n 0 dX5_restore_7 rfl rfl ?_
    refine WP.iconst (v := 2) dX5_restore_8 rfl ?_
    refine WP.callV (y := mX5_refuse) (As := [.int 2]) (st := []) dX5_restore_9 wm_X5_87 mw_X5_refuse rfl (Nat.le_of_ble_eq_true rfl) (rmok d) h1 (by decide) rfl h (fun v30 Sm31 h33 => ?_)
    obtain ⟨m31, rfl, r32, rfl, h⟩ := h33
    show WP G _ _ _ 0 0 12 [(0, .ref b)] [.int r32] (sh, ta, m31)
    exact WP.iret dX5_restore_12 rfl (Nat.le_refl _) (Nat.le_refl _) ⟨_, rfl, h⟩
set_option maxHeartbeats 4000000 in
set_option maxRecDepth 20000 in
theorem rg_X5_tell_0 (hG : fl G = false) (b : Nat) (x1 : Int32) (h : sh[b]? = some (.inl 5) ∧ ∃ i2, ta b 5 = some i2 ∧ sh[i2]? = some (.inl 2) ∧ (((m i2 1) < (24 : Int32) → Cal G mX2_add d [.ref i2, .int x1] sh ta m (fun v6 m7 => v6 = none ∧ K (some (.int (m7 i2 1))) m7)) ∧ (¬ (m i2 1) < (24 : Int32) → Cal G mX5_refuse d [.ref b, .int 4] sh ta m (fun v10 m11 => ∃ r12, v10 = some (.int r12) ∧ K (some (.int r12)) m11)))) : WP G (rmD (d + 1) 0 0) mX5_tell (QC G sh ta K) 0 0 0 [(0, .ref b), (1, .int x1)] [] (sh, ta, m) := by
  refine WP.aload_n 0 dX5_tell_0 rfl rfl ?_
  obtain ⟨h1, h⟩ := h
  obtain ⟨i2, h3, h⟩ := h
  refine WP.getR 5 5 wf_X5_21 (by decide) (by decide) rfl h1 h3 dX5_tell_1 ?_
  obtain ⟨h4, h⟩ := h
  refine WP.getIN 2 1 wf_X5_168 (by decide) (by decide) rfl h4 dX5_tell_4 ?_
  refine WP.bipush (v := 24) dX5_tell_7 rfl ?_
  refine WP.icmp_lt (tgt := 18) dX5_tell_9 (by decide) (fun c5 => ?_) (fun c5 => ?_)
  · have h := h.1 c5
    refine WP.aload_n 0 dX5_tell_18 rfl rfl ?_
    refine WP.getR 5 5 wf_X5_21 (by decide) (by decide) rfl h1 h3 dX5_tell_19 ?_
    refine WP.iload_n 1 dX5_tell_22 rfl rfl ?_
    refine WP.callV (y := mX2_add) (As := [.int x1]) (st := []) dX5_tell_23 wm_X5_171 mw_X2_add rfl (Nat.le_of_ble_eq_true rfl) (rmok d) h4 (by decide) rfl h (fun v6 Sm7 h9 => ?_)
    obtain ⟨m7, rfl, rfl, h⟩ := h9
    show WP G _ _ _ 0 0 26 [(0, .ref b), (1, .int x1)] [] (sh, ta, m7)
    refine WP.aload_n 0 dX5_tell_26 rfl rfl ?_
    refine WP.getR 5 5 wf_X5_21 (by decide) (by decide) rfl h1 h3 dX5_tell_27 ?_
    refine WP.getIN 2 1 wf_X5_168 (by decide) (by decide) rfl h4 dX5_tell_30 ?_
    exact WP.iret dX5_tell_33 rfl (Nat.le_refl _) (Nat.le_refl _) ⟨_, rfl, h⟩
  · have h := h.2 c5
    refine WP.aload_n 0 dX5_tell_12 rfl rfl ?_
    refine WP.iconst (v := 4) dX5_tell_13 rfl ?_
    refine WP.callV (y := mX5_refuse) (As := [.int 4]) (st := []) dX5_tell_14 wm_X5_87 mw_X5_refuse rfl (Nat.le_of_ble_eq_true rfl) (rmok d) h1 (by decide) rfl h (fun v10 Sm11 h13 => ?_)
    obtain ⟨m11, rfl, r12, rfl, h⟩ := h13
    show WP G _ _ _ 0 0 17 [(0, .ref b), (1, .int x1)] [.int r12] (sh, ta, m11)
    exact WP.iret dX5_tell_17 rfl (Nat.le_refl _) (Nat.le_refl _) ⟨_, rfl, h⟩
set_option maxHeartbeats 4000000 in
set_option maxRecDepth 20000 in
theorem rg_X5_check_0 (hG : fl G = false) (b : Nat) (x1 : Int32) (h : Cal G mX5_isPile d [.int x1] sh ta m (fun v1 m2 => ∃ r3, v1 = some (.int r3) ∧ ((r3 = 0 → sh[b]? = some (.inl 5) ∧ Cal G mX5_refuse d [.ref b, .int 1] sh ta m2 (fun v6 m7 => ∃ r8, v6 = some (.int r8) ∧ ∃ i11, ta b 5 = some i11 ∧ sh[i11]? = some (.inl 2) ∧ Cal G mX2_clear d [.ref i11] sh ta m7 (fun v13 m14 => v13 = none ∧ K (some (.int r8)) m14))) ∧ (¬ r3 = 0 → sh[b]? = some (.inl 5) ∧ Cal G mX5_checked d [.ref b, .int x1] sh ta m2 (fun v18 m19 => ∃ r20, v18 = some (.int r20) ∧ ∃ i23, ta b 5 = some i23 ∧ sh[i23]? = some (.inl 2) ∧ Cal G mX2_clear d [.ref i23] sh ta m19 (fun v25 m26 => v25 = none ∧ K (some (.int r20)) m26)))))) : WP G (rmD (d + 1) 0 0) mX5_check (QC G sh ta K) 0 0 0 [(0, .ref b), (1, .int x1)] [] (sh, ta, m) := by
  refine WP.iload_n 1 dX5_check_0 rfl rfl ?_
  refine WP.callS (y := mX5_isPile) (As := [.int x1]) (st := []) dX5_check_1 wm_X5_83 mw_X5_isPile rfl (Nat.le_of_ble_eq_true rfl) (rmok d) rfl h (fun v1 Sm2 h4 => ?_)
  obtain ⟨m2, rfl, r3, rfl, h⟩ := h4
  show WP G _ _ _ 0 0 4 [(0, .ref b), (1, .int x1)] [.int r3] (sh, ta, m2)
  refine WP.if_eq (tgt := 15) dX5_check_4 (by decide) (fun c5 => ?_) (fun c5 => ?_)
  · have h := h.1 c5
    refine WP.aload_n 0 dX5_check_15 rfl rfl ?_
    refine WP.iconst (v := 1) dX5_check_16 rfl ?_
    obtain ⟨h10, h⟩ := h
    refine WP.callV (y := mX5_refuse) (As := [.int 1]) (st := []) dX5_check_17 wm_X5_87 mw_X5_refuse rfl (Nat.le_of_ble_eq_true rfl) (rmok d) h10 (by decide) rfl h (fun v6 Sm7 h9 => ?_)
    obtain ⟨m7, rfl, r8, rfl, h⟩ := h9
    show WP G _ _ _ 0 0 20 [(0, .ref b), (1, .int x1)] [.int r8] (sh, ta, m7)
    refine WP.istore_n (lv2 := [(2, .int r8), (0, .ref b), (1, .int x1)]) dX5_check_20 rfl (by decide) rfl ?_
    refine WP.aload_n 1 dX5_check_21 rfl rfl ?_
    obtain ⟨i11, h12, h⟩ := h
    refine WP.getR 5 5 wf_X5_21 (by decide) (by decide) rfl h10 h12 dX5_check_22 ?_
    obtain ⟨h17, h⟩ := h
    refine WP.callV (y := mX2_clear) (As := []) (st := []) dX5_check_25 wm_X5_181 mw_X2_clear rfl (Nat.le_of_ble_eq_true rfl) (rmok d) h17 (by decide) rfl h (fun v13 Sm14 h16 => ?_)
    obtain ⟨m14, rfl, rfl, h⟩ := h16
    show WP G _ _ _ 0 0 28 [(2, .int r8), (0, .ref b), (1, .int x1)] [] (sh, ta, m14)
    refine WP.iload_n 0 dX5_check_28 rfl rfl ?_
    exact WP.iret dX5_check_29 rfl (Nat.le_refl _) (Nat.le_refl _) ⟨_, rfl, h⟩
  · have h := h.2 c5
    refine WP.aload_n 0 dX5_check_7 rfl rfl ?_
    refine WP.iload_n 1 dX5_check_8 rfl rfl ?_
    obtain ⟨h22, h⟩ := h
    refine WP.callV (y := mX5_checked) (As := [.int x1]) (st := []) dX5_check_9 wm_X5_302 mw_X5_checked rfl (Nat.le_of_ble_eq_true rfl) (rmok d) h22 (by decide) rfl h (fun v18 Sm19 h21 => ?_)
    obtain ⟨m19, rfl, r20, rfl, h⟩ := h21
    show WP G _ _ _ 0 0 12 [(0, .ref b), (1, .int x1)] [.int r20] (sh, ta, m19)
    refine WP.goto (tgt := 20) dX5_check_12 (by decide) ?_
    refine WP.istore_n (lv2 := [(2, .int r20), (0, .ref b), (1, .int x1)]) dX5_check_20 rfl (by decide) rfl ?_
    refine WP.aload_n 1 dX5_check_21 rfl rfl ?_
    obtain ⟨i23, h24, h⟩ := h
    refine WP.getR 5 5 wf_X5_21 (by decide) (by decide) rfl h22 h24 dX5_check_22 ?_
    obtain ⟨h29, h⟩ := h
    refine WP.callV (y := mX2_clear) (As := []) (st := []) dX5_check_25 wm_X5_181 mw_X2_clear rfl (Nat.le_of_ble_eq_true rfl) (rmok d) h29 (by decide) rfl h (fun v25 Sm26 h28 => ?_)
    obtain ⟨m26, rfl, rfl, h⟩ := h28
    show WP G _ _ _ 0 0 28 [(2, .int r20), (0, .ref b), (1, .int x1)] [] (sh, ta, m26)
    refine WP.iload_n 0 dX5_check_28 rfl rfl ?_
    exact WP.iret dX5_check_29 rfl (Nat.le_refl _) (Nat.le_refl _) ⟨_, rfl, h⟩
set_option maxHeartbeats 4000000 in
set_option maxRecDepth 20000 in
theorem rg_X5_count_0 (hG : fl G = false) (b : Nat) (x1 : Int32) (h : (((x1.toInt < 0 ∨ 11 < x1.toInt) → sh[b]? = some (.inl 5) ∧ Cal G mX5_refuse d [.ref b, .int 1] sh ta m (fun v2 m3 => ∃ r4, v2 = some (.int r4) ∧ K (some (.int r4)) m3)) ∧ (x1 = 0 → sh[b]? = some (.inl 5) ∧ ∃ i8, ta b 0 = some i8 ∧ sh[i8]? = some (.inl 0) ∧ K (some (.int (m i8 9))) m) ∧ (x1 = 1 → sh[b]? = some (.inl 5) ∧ ∃ i12, ta b 0 = some i12 ∧ sh[i12]? = some (.inl 0) ∧ K (some (.int (m i12 13))) m) ∧ (x1 = 2 → sh[b]? = some (.inl 5) ∧ ∃ i16, ta b 0 = some i16 ∧ sh[i16]? = some (.inl 0) ∧ K (some (.int (m i16 12))) m) ∧ (x1 = 3 → sh[b]? = some (.inl 5) ∧ ∃ i20, ta b 0 = some i20 ∧ sh[i20]? = some (.inl 0) ∧ Cal G mX0_strength d [.ref i20] sh ta m (fun v22 m23 => ∃ r24, v22 = some (.int r24) ∧ K (some (.int r24)) m23)) ∧ (x1 = 4 → sh[b]? = some (.inl 5) ∧ ∃ i28, ta b 0 = some i28 ∧ sh[i28]? = some (.inl 0) ∧ K (some (.int (m i28 10))) m) ∧ (x1 = 5 → sh[b]? = some (.inl 5) ∧ ∃ i32, ta b 0 = some i32 ∧ sh[i32]? = some (.inl 0) ∧ K (some (.int (m i32 11))) m) ∧ (x1 = 6 → sh[b]? = some (.inl 5) ∧ ∃ i36, ta b 0 = some i36 ∧ sh[i36]? = some (.inl 0) ∧ Cal G mX0_howManyWon d [.ref i36] sh ta m (fun v38 m39 => ∃ r40, v38 = some (.int r40) ∧ K (some (.int r40)) m39)) ∧ (x1 = 7 → sh[b]? = some (.inl 5) ∧ ∃ i44, ta b 0 = some i44 ∧ sh[i44]? = some (.inl 0) ∧ Cal G mX0_worthOfWon d [.ref i44] sh ta m (fun v46 m47 => ∃ r48, v46 = some (.int r48) ∧ K (some (.int r48)) m47)) ∧ (x1 = 8 → sh[b]? = some (.inl 5) ∧ ∃ i52, ta b 3 = some i52 ∧ sh[i52]? = some (.inl 2) ∧ K (some (.int (m i52 1))) m) ∧ (x1 = 9 → sh[b]? = some (.inl 5) ∧ ∃ i56, ta b 5 = some i56 ∧ sh[i56]? = some (.inl 2) ∧ K (some (.int (m i56 1))) m) ∧ (x1 = 10 → sh[b]? = some (.inl 5) ∧ ∃ i60, ta b 9 = some i60 ∧ sh[i60]? = some (.inl 4) ∧ ∃ i63, ta i60 0 = some i63 ∧ sh[i63]? = some (.inl 2) ∧ K (some (.int (m i63 1))) m) ∧ (x1 = 11 → sh[b]? = some (.inl 5) ∧ ∃ i67, ta b 0 = some i67 ∧ sh[i67]? = some (.inl 0) ∧ K (some (.int (m i67 14))) m))) : WP G (rmD (d + 1) 0 0) mX5_count (QC G sh ta K) 0 0 0 [(0, .ref b), (1, .int x1)] [] (sh, ta, m) := by
  refine WP.iload_n 1 dX5_count_0 rfl rfl ?_
  by_cases c1 : (x1 : Int32).toInt < 0 ∨ 11 < (x1 : Int32).toInt
  · have h := h.1 c1
    refine WP.tswO (td := 163) dX5_count_1 c1 (by decide) ?_
    refine WP.aload_n 0 dX5_count_163 rfl rfl ?_
    refine WP.iconst (v := 1) dX5_count_164 rfl ?_
    obtain ⟨h6, h⟩ := h
    refine WP.callV (y := mX5_refuse) (As := [.int 1]) (st := []) dX5_count_165 wm_X5_87 mw_X5_refuse rfl (Nat.le_of_ble_eq_true rfl) (rmok d) h6 (by decide) rfl h (fun v2 Sm3 h5 => ?_)
    obtain ⟨m3, rfl, r4, rfl, h⟩ := h5
    show WP G _ _ _ 0 0 168 [(0, .ref b), (1, .int x1)] [.int r4] (sh, ta, m3)
    exact WP.iret dX5_count_168 rfl (Nat.le_refl _) (Nat.le_refl _) ⟨_, rfl, h⟩
  rcases (show (x1 : Int32).toInt = 0 ∨ (x1 : Int32).toInt = 1 ∨ (x1 : Int32).toInt = 2 ∨ (x1 : Int32).toInt = 3 ∨ (x1 : Int32).toInt = 4 ∨ (x1 : Int32).toInt = 5 ∨ (x1 : Int32).toInt = 6 ∨ (x1 : Int32).toInt = 7 ∨ (x1 : Int32).toInt = 8 ∨ (x1 : Int32).toInt = 9 ∨ (x1 : Int32).toInt = 10 ∨ (x1 : Int32).toInt = 11 by omega) with c1 | c1 | c1 | c1 | c1 | c1 | c1 | c1 | c1 | c1 | c1 | c1
  · have h := h.2.1 (i32_of c1 rfl)
    refine WP.tswI (td := 64) 0 dX5_count_1 c1 (by decide) rfl (by decide) ?_
    refine WP.aload_n 0 dX5_count_64 rfl rfl ?_
    obtain ⟨h7, h⟩ := h
    obtain ⟨i8, h9, h⟩ := h
    refine WP.getR 5 0 wf_X5_67 (by decide) (by decide) rfl h7 h9 dX5_count_65 ?_
    obtain ⟨h10, h⟩ := h
    refine WP.getIN 0 9 wf_X5_91 (by decide) (by decide) rfl h10 dX5_count_68 ?_
    exact WP.iret dX5_count_71 rfl (Nat.le_refl _) (Nat.le_refl _) ⟨_, rfl, h⟩
  · have h := h.2.2.1 (i32_of c1 rfl)
    refine WP.tswI (td := 72) 1 dX5_count_1 c1 (by decide) rfl (by decide) ?_
    refine WP.aload_n 0 dX5_count_72 rfl rfl ?_
    obtain ⟨h11, h⟩ := h
    obtain ⟨i12, h13, h⟩ := h
    refine WP.getR 5 0 wf_X5_67 (by decide) (by decide) rfl h11 h13 dX5_count_73 ?_
    obtain ⟨h14, h⟩ := h
    refine WP.getIN 0 13 wf_X5_299 (by decide) (by decide) rfl h14 dX5_count_76 ?_
    exact WP.iret dX5_count_79 rfl (Nat.le_refl _) (Nat.le_refl _) ⟨_, rfl, h⟩
  · have h := h.2.2.2.1 (i32_of c1 rfl)
    refine WP.tswI (td := 80) 2 dX5_count_1 c1 (by decide) rfl (by decide) ?_
    refine WP.aload_n 0 dX5_count_80 rfl rfl ?_
    obtain ⟨h15, h⟩ := h
    obtain ⟨i16, h17, h⟩ := h
    refine WP.getR 5 0 wf_X5_67 (by decide) (by decide) rfl h15 h17 dX5_count_81 ?_
    obtain ⟨h18, h⟩ := h
    refine WP.getIN 0 12 wf_X5_152 (by decide) (by decide) rfl h18 dX5_count_84 ?_
    exact WP.iret dX5_count_87 rfl (Nat.le_refl _) (Nat.le_refl _) ⟨_, rfl, h⟩
  · have h := h.2.2.2.2.1 (i32_of c1 rfl)
    refine WP.tswI (td := 88) 3 dX5_count_1 c1 (by decide) rfl (by decide) ?_
    refine WP.aload_n 0 dX5_count_88 rfl rfl ?_
    obtain ⟨h19, h⟩ := h
    obtain ⟨i20, h21, h⟩ := h
    refine WP.getR 5 0 wf_X5_67 (by decide) (by decide) rfl h19 h21 dX5_count_89 ?_
    obtain ⟨h26, h⟩ := h
    refine WP.callV (y := mX0_strength) (As := []) (st := []) dX5_count_92 wm_X5_305 mw_X0_strength rfl (Nat.le_of_ble_eq_true rfl) (rmok d) h26 (by decide) rfl h (fun v22 Sm23 h25 => ?_)
    obtain ⟨m23, rfl, r24, rfl, h⟩ := h25
    show WP G _ _ _ 0 0 95 [(0, .ref b), (1, .int x1)] [.int r24] (sh, ta, m23)
    exact WP.iret dX5_count_95 rfl (Nat.le_refl _) (Nat.le_refl _) ⟨_, rfl, h⟩
  · have h := h.2.2.2.2.2.1 (i32_of c1 rfl)
    refine WP.tswI (td := 96) 4 dX5_count_1 c1 (by decide) rfl (by decide) ?_
    refine WP.aload_n 0 dX5_count_96 rfl rfl ?_
    obtain ⟨h27, h⟩ := h
    obtain ⟨i28, h29, h⟩ := h
    refine WP.getR 5 0 wf_X5_67 (by decide) (by decide) rfl h27 h29 dX5_count_97 ?_
    obtain ⟨h30, h⟩ := h
    refine WP.getIN 0 10 wf_X5_146 (by decide) (by decide) rfl h30 dX5_count_100 ?_
    exact WP.iret dX5_count_103 rfl (Nat.le_refl _) (Nat.le_refl _) ⟨_, rfl, h⟩
  · have h := h.2.2.2.2.2.2.1 (i32_of c1 rfl)
    refine WP.tswI (td := 104) 5 dX5_count_1 c1 (by decide) rfl (by decide) ?_
    refine WP.aload_n 0 dX5_count_104 rfl rfl ?_
    obtain ⟨h31, h⟩ := h
    obtain ⟨i32, h33, h⟩ := h
    refine WP.getR 5 0 wf_X5_67 (by decide) (by decide) rfl h31 h33 dX5_count_105 ?_
    obtain ⟨h34, h⟩ := h
    refine WP.getIN 0 11 wf_X5_149 (by decide) (by decide) rfl h34 dX5_count_108 ?_
    exact WP.iret dX5_count_111 rfl (Nat.le_refl _) (Nat.le_refl _) ⟨_, rfl, h⟩
  · have h := h.2.2.2.2.2.2.2.1 (i32_of c1 rfl)
    refine WP.tswI (td := 112) 6 dX5_count_1 c1 (by decide) rfl (by decide) ?_
    refine WP.aload_n 0 dX5_count_112 rfl rfl ?_
    obtain ⟨h35, h⟩ := h
    obtain ⟨i36, h37, h⟩ := h
    refine WP.getR 5 0 wf_X5_67 (by decide) (by decide) rfl h35 h37 dX5_count_113 ?_
    obtain ⟨h42, h⟩ := h
    refine WP.callV (y := mX0_howManyWon) (As := []) (st := []) dX5_count_116 wm_X5_308 mw_X0_howManyWon rfl (Nat.le_of_ble_eq_true rfl) (rmok d) h42 (by decide) rfl h (fun v38 Sm39 h41 => ?_)
    obtain ⟨m39, rfl, r40, rfl, h⟩ := h41
    show WP G _ _ _ 0 0 119 [(0, .ref b), (1, .int x1)] [.int r40] (sh, ta, m39)
    exact WP.iret dX5_count_119 rfl (Nat.le_refl _) (Nat.le_refl _) ⟨_, rfl, h⟩
  · have h := h.2.2.2.2.2.2.2.2.1 (i32_of c1 rfl)
    refine WP.tswI (td := 120) 7 dX5_count_1 c1 (by decide) rfl (by decide) ?_
    refine WP.aload_n 0 dX5_count_120 rfl rfl ?_
    obtain ⟨h43, h⟩ := h
    obtain ⟨i44, h45, h⟩ := h
    refine WP.getR 5 0 wf_X5_67 (by decide) (by decide) rfl h43 h45 dX5_count_121 ?_
    obtain ⟨h50, h⟩ := h
    refine WP.callV (y := mX0_worthOfWon) (As := []) (st := []) dX5_count_124 wm_X5_311 mw_X0_worthOfWon rfl (Nat.le_of_ble_eq_true rfl) (rmok d) h50 (by decide) rfl h (fun v46 Sm47 h49 => ?_)
    obtain ⟨m47, rfl, r48, rfl, h⟩ := h49
    show WP G _ _ _ 0 0 127 [(0, .ref b), (1, .int x1)] [.int r48] (sh, ta, m47)
    exact WP.iret dX5_count_127 rfl (Nat.le_refl _) (Nat.le_refl _) ⟨_, rfl, h⟩
  · have h := h.2.2.2.2.2.2.2.2.2.1 (i32_of c1 rfl)
    refine WP.tswI (td := 128) 8 dX5_count_1 c1 (by decide) rfl (by decide) ?_
    refine WP.aload_n 0 dX5_count_128 rfl rfl ?_
    obtain ⟨h51, h⟩ := h
    obtain ⟨i52, h53, h⟩ := h
    refine WP.getR 5 3 wf_X5_14 (by decide) (by decide) rfl h51 h53 dX5_count_129 ?_
    obtain ⟨h54, h⟩ := h
    refine WP.getIN 2 1 wf_X5_168 (by decide) (by decide) rfl h54 dX5_count_132 ?_
    exact WP.iret dX5_count_135 rfl (Nat.le_refl _) (Nat.le_refl _) ⟨_, rfl, h⟩
  · have h := h.2.2.2.2.2.2.2.2.2.2.1 (i32_of c1 rfl)
    refine WP.tswI (td := 136) 9 dX5_count_1 c1 (by decide) rfl (by decide) ?_
    refine WP.aload_n 0 dX5_count_136 rfl rfl ?_
    obtain ⟨h55, h⟩ := h
    obtain ⟨i56, h57, h⟩ := h
    refine WP.getR 5 5 wf_X5_21 (by decide) (by decide) rfl h55 h57 dX5_count_137 ?_
    obtain ⟨h58, h⟩ := h
    refine WP.getIN 2 1 wf_X5_168 (by decide) (by decide) rfl h58 dX5_count_140 ?_
    exact WP.iret dX5_count_143 rfl (Nat.le_refl _) (Nat.le_refl _) ⟨_, rfl, h⟩
  · have h := h.2.2.2.2.2.2.2.2.2.2.2.1 (i32_of c1 rfl)
    refine WP.tswI (td := 144) 10 dX5_count_1 c1 (by decide) rfl (by decide) ?_
    refine WP.aload_n 0 dX5_count_144 rfl rfl ?_
    obtain ⟨h59, h⟩ := h
    obtain ⟨i60, h61, h⟩ := h
    refine WP.getR 5 9 wf_X5_44 (by decide) (by decide) rfl h59 h61 dX5_count_145 ?_
    obtain ⟨h62, h⟩ := h
    obtain ⟨i63, h64, h⟩ := h
    refine WP.getRN 4 0 wf_X5_265 (by decide) (by decide) rfl h62 h64 dX5_count_148 ?_
    obtain ⟨h65, h⟩ := h
    refine WP.getIN 2 1 wf_X5_168 (by decide) (by decide) rfl h65 dX5_count_151 ?_
    exact WP.iret dX5_count_154 rfl (Nat.le_refl _) (Nat.le_refl _) ⟨_, rfl, h⟩
  · have h := h.2.2.2.2.2.2.2.2.2.2.2.2 (i32_of c1 rfl)
    refine WP.tswI (td := 155) 11 dX5_count_1 c1 (by decide) rfl (by decide) ?_
    refine WP.aload_n 0 dX5_count_155 rfl rfl ?_
    obtain ⟨h66, h⟩ := h
    obtain ⟨i67, h68, h⟩ := h
    refine WP.getR 5 0 wf_X5_67 (by decide) (by decide) rfl h66 h68 dX5_count_156 ?_
    obtain ⟨h69, h⟩ := h
    refine WP.getIN 0 14 wf_X5_217 (by decide) (by decide) rfl h69 dX5_count_159 ?_
    exact WP.iret dX5_count_162 rfl (Nat.le_refl _) (Nat.le_refl _) ⟨_, rfl, h⟩
set_option maxHeartbeats 4000000 in
set_option maxRecDepth 20000 in
theorem rg_X5_told_0 (hG : fl G = false) (b : Nat) (x1 : Int32) (h : ((x1 < (1 : Int32) → sh[b]? = some (.inl 5) ∧ Cal G mX5_refuse d [.ref b, .int 1] sh ta m (fun v2 m3 => ∃ r4, v2 = some (.int r4) ∧ K (some (.int r4)) m3)) ∧ (¬ x1 < (1 : Int32) → (((6 : Int32) < x1 → sh[b]? = some (.inl 5) ∧ Cal G mX5_refuse d [.ref b, .int 1] sh ta m (fun v8 m9 => ∃ r10, v8 = some (.int r10) ∧ K (some (.int r10)) m9)) ∧ (¬ (6 : Int32) < x1 → sh[b]? = some (.inl 5) ∧ ∃ i14, ta b 13 = some i14 ∧ ∃ n17, sh[i14]? = some (.inr (0, n17)) ∧ InB x1 n17 ∧ K (some (.int (rd (m i14) x1))) m))))) : WP G (rmD (d + 1) 0 0) mX5_told (QC G sh ta K) 0 0 0 [(0, .ref b), (1, .int x1)] [] (sh, ta, m) := by
  refine WP.iload_n 1 dX5_told_0 rfl rfl ?_
  refine WP.iconst (v := 1) dX5_told_1 rfl ?_
  refine WP.icmp_lt (tgt := 20) dX5_told_2 (by decide) (fun c1 => ?_) (fun c1 => ?_)
  · have h := h.1 c1
    refine WP.aload_n 0 dX5_told_20 rfl rfl ?_
    refine WP.iconst (v := 1) dX5_told_21 rfl ?_
    obtain ⟨h6, h⟩ := h
    refine WP.callV (y := mX5_refuse) (As := [.int 1]) (st := []) dX5_told_22 wm_X5_87 mw_X5_refuse rfl (Nat.le_of_ble_eq_true rfl) (rmok d) h6 (by decide) rfl h (fun v2 Sm3 h5 => ?_)
    obtain ⟨m3, rfl, r4, rfl, h⟩ := h5
    show WP G _ _ _ 0 0 25 [(0, .ref b), (1, .int x1)] [.int r4] (sh, ta, m3)
    exact WP.iret dX5_told_25 rfl (Nat.le_refl _) (Nat.le_refl _) ⟨_, rfl, h⟩
  · have h := h.2 c1
    refine WP.iload_n 1 dX5_told_5 rfl rfl ?_
    refine WP.bipush (v := 6) dX5_told_6 rfl ?_
    refine WP.icmp_gt (tgt := 20) dX5_told_8 (by decide) (fun c7 => ?_) (fun c7 => ?_)
    · have h := h.1 c7
      refine WP.aload_n 0 dX5_told_20 rfl rfl ?_
      refine WP.iconst (v := 1) dX5_told_21 rfl ?_
      obtain ⟨h12, h⟩ := h
      refine WP.callV (y := mX5_refuse) (As := [.int 1]) (st := []) dX5_told_22 wm_X5_87 mw_X5_refuse rfl (Nat.le_of_ble_eq_true rfl) (rmok d) h12 (by decide) rfl h (fun v8 Sm9 h11 => ?_)
      obtain ⟨m9, rfl, r10, rfl, h⟩ := h11
      show WP G _ _ _ 0 0 25 [(0, .ref b), (1, .int x1)] [.int r10] (sh, ta, m9)
      exact WP.iret dX5_told_25 rfl (Nat.le_refl _) (Nat.le_refl _) ⟨_, rfl, h⟩
    · have h := h.2 c7
      refine WP.aload_n 0 dX5_told_11 rfl rfl ?_
      obtain ⟨h13, h⟩ := h
      obtain ⟨i14, h15, h⟩ := h
      refine WP.getR 5 13 wf_X5_59 (by decide) (by decide) rfl h13 h15 dX5_told_12 ?_
      refine WP.iload_n 1 dX5_told_15 rfl rfl ?_
      obtain ⟨n17, h16, h⟩ := h
      obtain ⟨h18, h⟩ := h
      refine WP.iald h16 h18 dX5_told_16 ?_
      refine WP.goto (tgt := 25) dX5_told_17 (by decide) ?_
      exact WP.iret dX5_told_25 rfl (Nat.le_refl _) (Nat.le_refl _) ⟨_, rfl, h⟩
set_option maxHeartbeats 4000000 in
set_option maxRecDepth 20000 in
theorem rg_X5_refuse_0 (hG : fl G = false) (b : Nat) (x1 : Int32) (h : ((x1 < 0 → K (some (.int (((-1000000000)) - x1))) m) ∧ (¬ x1 < 0 → sh[b]? = some (.inl 5) ∧ ∃ i3, ta b 13 = some i3 ∧ ∃ n6, sh[i3]? = some (.inr (0, n6)) ∧ (((Int32.ofNat n6) ≤ x1 → K (some (.int (((-1000000000)) - x1))) m) ∧ (¬ (Int32.ofNat n6) ≤ x1 → InB x1 n6 ∧ InB x1 n6 ∧ ∀ m10, m10 = upa m i3 x1 ((rd (m i3) x1) + 1) → K (some (.int (((-1000000000)) - x1))) m10))))) : WP G (rmD (d + 1) 0 0) mX5_refuse (QC G sh ta K) 0 0 0 [(0, .ref b), (1, .int x1)] [] (sh, ta, m) := by
  refine WP.iload_n 1 dX5_refuse_0 rfl rfl ?_
  refine WP.if_lt (tgt := 23) dX5_refuse_1 (by decide) (fun c1 => ?_) (fun c1 => ?_)
  · have h := h.1 c1
    refine WP.ldc_w wx_X5_314 dX5_refuse_23 ?_
    refine WP.iload_n 1 dX5_refuse_26 rfl rfl ?_
    refine WP.isub dX5_refuse_27 ?_
    exact WP.iret dX5_refuse_28 rfl (Nat.le_refl _) (Nat.le_refl _) ⟨_, rfl, h⟩
  · have h := h.2 c1
    refine WP.iload_n 1 dX5_refuse_4 rfl rfl ?_
    refine WP.aload_n 0 dX5_refuse_5 rfl rfl ?_
    obtain ⟨h2, h⟩ := h
    obtain ⟨i3, h4, h⟩ := h
    refine WP.getR 5 13 wf_X5_59 (by decide) (by decide) rfl h2 h4 dX5_refuse_6 ?_
    obtain ⟨n6, h5, h⟩ := h
    refine WP.alen (Int32.ofNat n6) h5 rfl dX5_refuse_9 ?_
    refine WP.icmp_ge (tgt := 23) dX5_refuse_10 (by decide) (fun c7 => ?_) (fun c7 => ?_)
    · have h := h.1 c7
      refine WP.ldc_w wx_X5_314 dX5_refuse_23 ?_
      refine WP.iload_n 1 dX5_refuse_26 rfl rfl ?_
      refine WP.isub dX5_refuse_27 ?_
      exact WP.iret dX5_refuse_28 rfl (Nat.le_refl _) (Nat.le_refl _) ⟨_, rfl, h⟩
    · have h := h.2 c7
      refine WP.aload_n 0 dX5_refuse_13 rfl rfl ?_
      refine WP.getR 5 13 wf_X5_59 (by decide) (by decide) rfl h2 h4 dX5_refuse_14 ?_
      refine WP.iload_n 1 dX5_refuse_17 rfl rfl ?_
      refine WP.dup2 dX5_refuse_18 rfl rfl ?_
      obtain ⟨h8, h⟩ := h
      refine WP.iald h5 h8 dX5_refuse_19 ?_
      refine WP.iconst (v := 1) dX5_refuse_20 rfl ?_
      refine WP.iadd dX5_refuse_21 ?_
      obtain ⟨h9, h⟩ := h
      have h := h _ rfl
      refine WP.iast h5 h9 dX5_refuse_22 ?_
      generalize upa m i3 x1 ((rd (m i3) x1) + 1) = m10 at h ⊢
      refine WP.ldc_w wx_X5_314 dX5_refuse_23 ?_
      refine WP.iload_n 1 dX5_refuse_26 rfl rfl ?_
      refine WP.isub dX5_refuse_27 ?_
      exact WP.iret dX5_refuse_28 rfl (Nat.le_refl _) (Nat.le_refl _) ⟨_, rfl, h⟩
set_option maxHeartbeats 4000000 in
set_option maxRecDepth 20000 in
theorem rg_X5_isCell_0 (hG : fl G = false) (x0 : Int32) (h : ((x0 < 0 → K (some (.int 0)) m) ∧ (¬ x0 < 0 → (((16 : Int32) ≤ x0 → K (some (.int 0)) m) ∧ (¬ (16 : Int32) ≤ x0 → K (some (.int 1)) m))))) : WP G (rmD (d + 1) 0 0) mX5_isCell (QC G sh ta K) 0 0 0 [(0, .int x0)] [] (sh, ta, m) := by
  refine WP.iload_n 0 dX5_isCell_0 rfl rfl ?_
  refine WP.if_lt (tgt := 14) dX5_isCell_1 (by decide) (fun c1 => ?_) (fun c1 => ?_)
  · have h := h.1 c1
    refine WP.iconst (v := 0) dX5_isCell_14 rfl ?_
    exact WP.zret dX5_isCell_15 rfl (Nat.le_refl _) (Nat.le_refl _) rfl ⟨_, rfl, h⟩
  · have h := h.2 c1
    refine WP.iload_n 0 dX5_isCell_4 rfl rfl ?_
    refine WP.bipush (v := 16) dX5_isCell_5 rfl ?_
    refine WP.icmp_ge (tgt := 14) dX5_isCell_7 (by decide) (fun c2 => ?_) (fun c2 => ?_)
    · have h := h.1 c2
      refine WP.iconst (v := 0) dX5_isCell_14 rfl ?_
      exact WP.zret dX5_isCell_15 rfl (Nat.le_refl _) (Nat.le_refl _) rfl ⟨_, rfl, h⟩
    · have h := h.2 c2
      refine WP.iconst (v := 1) dX5_isCell_10 rfl ?_
      refine WP.goto (tgt := 15) dX5_isCell_11 (by decide) ?_
      exact WP.zret dX5_isCell_15 rfl (Nat.le_refl _) (Nat.le_refl _) rfl ⟨_, rfl, h⟩
set_option maxHeartbeats 4000000 in
set_option maxRecDepth 20000 in
theorem rg_X5_isPile_0 (hG : fl G = false) (x0 : Int32) (h : Cal G mX5_isCell d [.int x0] sh ta m (fun v1 m2 => ∃ r3, v1 = some (.int r3) ∧ ((r3 = 0 → K (some (.int 0)) m2) ∧ (¬ r3 = 0 → ((x0 = 0 → K (some (.int 0)) m2) ∧ (¬ x0 = 0 → K (some (.int 1)) m2)))))) : WP G (rmD (d + 1) 0 0) mX5_isPile (QC G sh ta K) 0 0 0 [(0, .int x0)] [] (sh, ta, m) := by
  refine WP.iload_n 0 dX5_isPile_0 rfl rfl ?_
  refine WP.callS (y := mX5_isCell) (As := [.int x0]) (st := []) dX5_isPile_1 wm_X5_155 mw_X5_isCell rfl (Nat.le_of_ble_eq_true rfl) (rmok d) rfl h (fun v1 Sm2 h4 => ?_)
  obtain ⟨m2, rfl, r3, rfl, h⟩ := h4
  show WP G _ _ _ 0 0 4 [(0, .int x0)] [.int r3] (sh, ta, m2)
  refine WP.if_eq (tgt := 15) dX5_isPile_4 (by decide) (fun c5 => ?_) (fun c5 => ?_)
  · have h := h.1 c5
    refine WP.iconst (v := 0) dX5_isPile_15 rfl ?_
    exact WP.zret dX5_isPile_16 rfl (Nat.le_refl _) (Nat.le_refl _) rfl ⟨_, rfl, h⟩
  · have h := h.2 c5
    refine WP.iload_n 0 dX5_isPile_7 rfl rfl ?_
    refine WP.if_eq (tgt := 15) dX5_isPile_8 (by decide) (fun c6 => ?_) (fun c6 => ?_)
    · have h := h.1 c6
      refine WP.iconst (v := 0) dX5_isPile_15 rfl ?_
      exact WP.zret dX5_isPile_16 rfl (Nat.le_refl _) (Nat.le_refl _) rfl ⟨_, rfl, h⟩
    · have h := h.2 c6
      refine WP.iconst (v := 1) dX5_isPile_11 rfl ?_
      refine WP.goto (tgt := 16) dX5_isPile_12 (by decide) ?_
      exact WP.zret dX5_isPile_16 rfl (Nat.le_refl _) (Nat.le_refl _) rfl ⟨_, rfl, h⟩
set_option maxHeartbeats 4000000 in
set_option maxRecDepth 20000 in
theorem rg_X5_isAhead_0 (hG : fl G = false) (x0 : Int32) (h : ((x0 < (1 : Int32) → K (some (.int 0)) m) ∧ (¬ x0 < (1 : Int32) → (((3 : Int32) < x0 → K (some (.int 0)) m) ∧ (¬ (3 : Int32) < x0 → K (some (.int 1)) m))))) : WP G (rmD (d + 1) 0 0) mX5_isAhead (QC G sh ta K) 0 0 0 [(0, .int x0)] [] (sh, ta, m) := by
  refine WP.iload_n 0 dX5_isAhead_0 rfl rfl ?_
  refine WP.iconst (v := 1) dX5_isAhead_1 rfl ?_
  refine WP.icmp_lt (tgt := 14) dX5_isAhead_2 (by decide) (fun c1 => ?_) (fun c1 => ?_)
  · have h := h.1 c1
    refine WP.iconst (v := 0) dX5_isAhead_14 rfl ?_
    exact WP.zret dX5_isAhead_15 rfl (Nat.le_refl _) (Nat.le_refl _) rfl ⟨_, rfl, h⟩
  · have h := h.2 c1
    refine WP.iload_n 0 dX5_isAhead_5 rfl rfl ?_
    refine WP.iconst (v := 3) dX5_isAhead_6 rfl ?_
    refine WP.icmp_gt (tgt := 14) dX5_isAhead_7 (by decide) (fun c2 => ?_) (fun c2 => ?_)
    · have h := h.1 c2
      refine WP.iconst (v := 0) dX5_isAhead_14 rfl ?_
      exact WP.zret dX5_isAhead_15 rfl (Nat.le_refl _) (Nat.le_refl _) rfl ⟨_, rfl, h⟩
    · have h := h.2 c2
      refine WP.iconst (v := 1) dX5_isAhead_10 rfl ?_
      refine WP.goto (tgt := 15) dX5_isAhead_11 (by decide) ?_
      exact WP.zret dX5_isAhead_15 rfl (Nat.le_refl _) (Nat.le_refl _) rfl ⟨_, rfl, h⟩
set_option maxHeartbeats 4000000 in
set_option maxRecDepth 20000 in
theorem rg_X5_isSheet_0 (hG : fl G = false) (x0 : Int32) (h : ((x0 < 0 → K (some (.int 0)) m) ∧ (¬ x0 < 0 → (((4 : Int32) ≤ x0 → K (some (.int 0)) m) ∧ (¬ (4 : Int32) ≤ x0 → K (some (.int 1)) m))))) : WP G (rmD (d + 1) 0 0) mX5_isSheet (QC G sh ta K) 0 0 0 [(0, .int x0)] [] (sh, ta, m) := by
  refine WP.iload_n 0 dX5_isSheet_0 rfl rfl ?_
  refine WP.if_lt (tgt := 13) dX5_isSheet_1 (by decide) (fun c1 => ?_) (fun c1 => ?_)
  · have h := h.1 c1
    refine WP.iconst (v := 0) dX5_isSheet_13 rfl ?_
    exact WP.zret dX5_isSheet_14 rfl (Nat.le_refl _) (Nat.le_refl _) rfl ⟨_, rfl, h⟩
  · have h := h.2 c1
    refine WP.iload_n 0 dX5_isSheet_4 rfl rfl ?_
    refine WP.iconst (v := 4) dX5_isSheet_5 rfl ?_
    refine WP.icmp_ge (tgt := 13) dX5_isSheet_6 (by decide) (fun c2 => ?_) (fun c2 => ?_)
    · have h := h.1 c2
      refine WP.iconst (v := 0) dX5_isSheet_13 rfl ?_
      exact WP.zret dX5_isSheet_14 rfl (Nat.le_refl _) (Nat.le_refl _) rfl ⟨_, rfl, h⟩
    · have h := h.2 c2
      refine WP.iconst (v := 1) dX5_isSheet_9 rfl ?_
      refine WP.goto (tgt := 14) dX5_isSheet_10 (by decide) ?_
      exact WP.zret dX5_isSheet_14 rfl (Nat.le_refl _) (Nat.le_refl _) rfl ⟨_, rfl, h⟩
set_option maxHeartbeats 4000000 in
set_option maxRecDepth 20000 in
theorem rg_X5_lackOf_0 (hG : fl G = false) (b : Nat) (x1 : Int32) (h : Cal G mX5_isSheet d [.int x1] sh ta m (fun v1 m2 => ∃ r3, v1 = some (.int r3) ∧ ((¬ r3 = 0 → sh[b]? = some (.inl 5) ∧ ∃ i7, ta b 11 = some i7 ∧ ∃ n10, sh[i7]? = some (.inr (0, n10)) ∧ InB x1 n10 ∧ ((¬ (rd (m2 i7) x1) = 0 → K (some (.int 0)) m2) ∧ ((rd (m2 i7) x1) = 0 → K (some (.int 2)) m2))) ∧ (r3 = 0 → K (some (.int 1)) m2)))) : WP G (rmD (d + 1) 0 0) mX5_lackOf (QC G sh ta K) 0 0 0 [(0, .ref b), (1, .int x1)] [] (sh, ta, m) := by
  refine WP.iload_n 1 dX5_lackOf_0 rfl rfl ?_
  refine WP.callS (y := mX5_isSheet) (As := [.int x1]) (st := []) dX5_lackOf_1 wm_X5_271 mw_X5_isSheet rfl (Nat.le_of_ble_eq_true rfl) (rmok d) rfl h (fun v1 Sm2 h4 => ?_)
  obtain ⟨m2, rfl, r3, rfl, h⟩ := h4
  show WP G _ _ _ 0 0 4 [(0, .ref b), (1, .int x1)] [.int r3] (sh, ta, m2)
  refine WP.if_ne (tgt := 9) dX5_lackOf_4 (by decide) (fun c5 => ?_) (fun c5 => ?_)
  · have h := h.1 c5
    refine WP.aload_n 0 dX5_lackOf_9 rfl rfl ?_
    obtain ⟨h6, h⟩ := h
    obtain ⟨i7, h8, h⟩ := h
    refine WP.getR 5 11 wf_X5_52 (by decide) (by decide) rfl h6 h8 dX5_lackOf_10 ?_
    refine WP.iload_n 1 dX5_lackOf_13 rfl rfl ?_
    obtain ⟨n10, h9, h⟩ := h
    obtain ⟨h11, h⟩ := h
    refine WP.iald h9 h11 dX5_lackOf_14 ?_
    refine WP.if_ne (tgt := 22) dX5_lackOf_15 (by decide) (fun c12 => ?_) (fun c12 => ?_)
    · have h := h.1 c12
      refine WP.iconst (v := 0) dX5_lackOf_22 rfl ?_
      exact WP.iret dX5_lackOf_23 rfl (Nat.le_refl _) (Nat.le_refl _) ⟨_, rfl, h⟩
    · have h := h.2 c12
      refine WP.iconst (v := 2) dX5_lackOf_18 rfl ?_
      refine WP.goto (tgt := 23) dX5_lackOf_19 (by decide) ?_
      exact WP.iret dX5_lackOf_23 rfl (Nat.le_refl _) (Nat.le_refl _) ⟨_, rfl, h⟩
  · have h := h.2 c5
    refine WP.iconst (v := 1) dX5_lackOf_7 rfl ?_
    exact WP.iret dX5_lackOf_8 rfl (Nat.le_refl _) (Nat.le_refl _) ⟨_, rfl, h⟩
set_option maxHeartbeats 4000000 in
set_option maxRecDepth 20000 in
theorem rg_X5_lowestBits_0 (hG : fl G = false) (x0 : Int32) (x1 : Int32) (h : ((¬ x1 = (8 : Int32) → ((¬ x1 = (16 : Int32) → K (some (.int x0)) m) ∧ (x1 = (16 : Int32) → K (some (.int ((x0 : Int32).toInt16.toInt32))) m))) ∧ (x1 = (8 : Int32) → K (some (.int ((x0 : Int32).toInt8.toInt32))) m))) : WP G (rmD (d + 1) 0 0) mX5_lowestBits (QC G sh ta K) 0 0 0 [(0, .int x0), (1, .int x1)] [] (sh, ta, m) := by
  refine WP.iload_n 1 dX5_lowestBits_0 rfl rfl ?_
  refine WP.bipush (v := 8) dX5_lowestBits_1 rfl ?_
  refine WP.icmp_ne (tgt := 9) dX5_lowestBits_3 (by decide) (fun c1 => ?_) (fun c1 => ?_)
  · have h := h.1 c1
    refine WP.iload_n 1 dX5_lowestBits_9 rfl rfl ?_
    refine WP.bipush (v := 16) dX5_lowestBits_10 rfl ?_
    refine WP.icmp_ne (tgt := 20) dX5_lowestBits_12 (by decide) (fun c2 => ?_) (fun c2 => ?_)
    · have h := h.1 c2
      refine WP.iload_n 0 dX5_lowestBits_20 rfl rfl ?_
      exact WP.iret dX5_lowestBits_21 rfl (Nat.le_refl _) (Nat.le_refl _) ⟨_, rfl, h⟩
    · have h := h.2 c2
      refine WP.iload_n 0 dX5_lowestBits_15 rfl rfl ?_
      refine WP.i2s dX5_lowestBits_16 ?_
      refine WP.goto (tgt := 21) dX5_lowestBits_17 (by decide) ?_
      exact WP.iret dX5_lowestBits_21 rfl (Nat.le_refl _) (Nat.le_refl _) ⟨_, rfl, h⟩
  · have h := h.2 c1
    refine WP.iload_n 0 dX5_lowestBits_6 rfl rfl ?_
    refine WP.i2b dX5_lowestBits_7 ?_
    exact WP.iret dX5_lowestBits_8 rfl (Nat.le_refl _) (Nat.le_refl _) ⟨_, rfl, h⟩
set_option maxHeartbeats 4000000 in
set_option maxRecDepth 20000 in
theorem rg_X5_mostOf_0 (hG : fl G = false) (x0 : Int32) (h : ((¬ x0 = 0 → ((¬ x0 = (1 : Int32) → K (some (.int 99)) m) ∧ (x0 = (1 : Int32) → K (some (.int 9)) m))) ∧ (x0 = 0 → K (some (.int 6)) m))) : WP G (rmD (d + 1) 0 0) mX5_mostOf (QC G sh ta K) 0 0 0 [(0, .int x0)] [] (sh, ta, m) := by
  refine WP.iload_n 0 dX5_mostOf_0 rfl rfl ?_
  refine WP.if_ne (tgt := 7) dX5_mostOf_1 (by decide) (fun c1 => ?_) (fun c1 => ?_)
  · have h := h.1 c1
    refine WP.iload_n 0 dX5_mostOf_7 rfl rfl ?_
    refine WP.iconst (v := 1) dX5_mostOf_8 rfl ?_
    refine WP.icmp_ne (tgt := 17) dX5_mostOf_9 (by decide) (fun c2 => ?_) (fun c2 => ?_)
    · have h := h.1 c2
      refine WP.bipush (v := 99) dX5_mostOf_17 rfl ?_
      exact WP.iret dX5_mostOf_19 rfl (Nat.le_refl _) (Nat.le_refl _) ⟨_, rfl, h⟩
    · have h := h.2 c2
      refine WP.bipush (v := 9) dX5_mostOf_12 rfl ?_
      refine WP.goto (tgt := 19) dX5_mostOf_14 (by decide) ?_
      exact WP.iret dX5_mostOf_19 rfl (Nat.le_refl _) (Nat.le_refl _) ⟨_, rfl, h⟩
  · have h := h.2 c1
    refine WP.bipush (v := 6) dX5_mostOf_4 rfl ?_
    exact WP.iret dX5_mostOf_6 rfl (Nat.le_refl _) (Nat.le_refl _) ⟨_, rfl, h⟩
set_option maxHeartbeats 4000000 in
set_option maxRecDepth 20000 in
theorem rg_X5_within_0 (hG : fl G = false) (x0 : Int32) (x1 : Int32) (x2 : Int32) (h : K (some (.int (if x1 < (if x0 < x2 then x0 else x2) then (if x0 < x2 then x0 else x2) else x1))) m) : WP G (rmD (d + 1) 0 0) mX5_within (QC G sh ta K) 0 0 0 [(0, .int x0), (1, .int x1), (2, .int x2)] [] (sh, ta, m) := by
  refine WP.iload_n 1 dX5_within_0 rfl rfl ?_
  refine WP.iload_n 2 dX5_within_1 rfl rfl ?_
  refine WP.iload_n 0 dX5_within_2 rfl rfl ?_
  refine WP.mmin wm_X5_287 (Nat.le_of_ble_eq_true rfl) (rmok0 d) dX5_within_3 ?_
  refine WP.mmax wm_X5_253 (Nat.le_of_ble_eq_true rfl) (rmok0 d) dX5_within_6 ?_
  exact WP.iret dX5_within_9 rfl (Nat.le_refl _) (Nat.le_refl _) ⟨_, rfl, h⟩
set_option maxHeartbeats 4000000 in
set_option maxRecDepth 20000 in
theorem rg_X5_kindAbove_0 (hG : fl G = false) (x0 : Int32) (h : ((x0 < 0 → K (some (.int ((-1)))) m) ∧ (¬ x0 < 0 → (((7 : Int32) ≤ x0 → K (some (.int ((-1)))) m) ∧ (¬ (7 : Int32) ≤ x0 → InB x0 7 ∧ K (some (.int (aboveT (x0 : Int32).toNatClampNeg))) m))))) : WP G (rmD (d + 1) 0 0) mX5_kindAbove (QC G sh ta K) 0 0 0 [(0, .int x0)] [] (sh, ta, m) := by
  refine WP.iload_n 0 dX5_kindAbove_0 rfl rfl ?_
  refine WP.if_lt (tgt := 20) dX5_kindAbove_1 (by decide) (fun c1 => ?_) (fun c1 => ?_)
  · have h := h.1 c1
    refine WP.iconst (v := (-1)) dX5_kindAbove_20 rfl ?_
    exact WP.iret dX5_kindAbove_21 rfl (Nat.le_refl _) (Nat.le_refl _) ⟨_, rfl, h⟩
  · have h := h.2 c1
    refine WP.iload_n 0 dX5_kindAbove_4 rfl rfl ?_
    refine WP.getAbove wf_X5_315 dX5_kindAbove_5 ?_
    refine WP.alenAbove dX5_kindAbove_8 ?_
    refine WP.icmp_ge (tgt := 20) dX5_kindAbove_9 (by decide) (fun c2 => ?_) (fun c2 => ?_)
    · have h := h.1 c2
      refine WP.iconst (v := (-1)) dX5_kindAbove_20 rfl ?_
      exact WP.iret dX5_kindAbove_21 rfl (Nat.le_refl _) (Nat.le_refl _) ⟨_, rfl, h⟩
    · have h := h.2 c2
      refine WP.getAbove wf_X5_315 dX5_kindAbove_12 ?_
      refine WP.iload_n 0 dX5_kindAbove_15 rfl rfl ?_
      obtain ⟨h3, h⟩ := h
      refine WP.ialdAbove h3 dX5_kindAbove_16 ?_
      refine WP.goto (tgt := 21) dX5_kindAbove_17 (by decide) ?_
      exact WP.iret dX5_kindAbove_21 rfl (Nat.le_refl _) (Nat.le_refl _) ⟨_, rfl, h⟩
set_option maxHeartbeats 4000000 in
set_option maxRecDepth 20000 in
theorem rg_X5_isUnder_0 (hG : fl G = false) (x0 : Int32) (x1 : Int32) (h : WP G (rmD (d + 1) 0 0) mX5_isUnder (QC G sh ta K) 0 0 4 [(1, .int x1), (2, .int x0), (3, .int 0)] [] (sh, ta, m)) : WP G (rmD (d + 1) 0 0) mX5_isUnder (QC G sh ta K) 0 0 0 [(0, .int x0), (1, .int x1)] [] (sh, ta, m) := by
  refine WP.iload_n 0 dX5_isUnder_0 rfl rfl ?_
  refine WP.istore_n (lv2 := [(2, .int x0), (0, .int x0), (1, .int x1)]) dX5_isUnder_1 rfl (by decide) rfl ?_
  refine WP.iconst (v := 0) dX5_isUnder_2 rfl ?_
  refine WP.istore_n (lv2 := [(3, .int 0), (2, .int x0), (0, .int x0), (1, .int x1)]) dX5_isUnder_3 rfl (by decide) rfl ?_
  exact WP.pick [3, 1, 0] rfl h
set_option maxHeartbeats 4000000 in
set_option maxRecDepth 20000 in
theorem rg_X5_isUnder_4 (hG : fl G = false) (x1 : Int32) (x2 : Int32) (x3 : Int32) (h : (((7 : Int32) ≤ x3 → K (some (.int 0)) m) ∧ (¬ (7 : Int32) ≤ x3 → ((x2 < 0 → K (some (.int 0)) m) ∧ (¬ x2 < 0 → ((¬ x2 = x1 → Cal G mX5_kindAbove d [.int x2] sh ta m (fun v4 m5 => ∃ r6, v4 = some (.int r6) ∧ WP G (rmD (d + 1) 0 0) mX5_isUnder (QC G sh ta K) 0 0 4 [(1, .int x1), (2, .int r6), (3, .int (x3 + 1))] [] (sh, ta, m5))) ∧ (x2 = x1 → K (some (.int 1)) m))))))) : WP G (rmD (d + 1) 0 0) mX5_isUnder (QC G sh ta K) 0 0 4 [(1, .int x1), (2, .int x2), (3, .int x3)] [] (sh, ta, m) := by
  refine WP.iload_n 2 dX5_isUnder_4 rfl rfl ?_
  refine WP.bipush (v := 7) dX5_isUnder_5 rfl ?_
  refine WP.icmp_ge (tgt := 32) dX5_isUnder_7 (by decide) (fun c1 => ?_) (fun c1 => ?_)
  · have h := h.1 c1
    refine WP.iconst (v := 0) dX5_isUnder_32 rfl ?_
    exact WP.zret dX5_isUnder_33 rfl (Nat.le_refl _) (Nat.le_refl _) rfl ⟨_, rfl, h⟩
  · have h := h.2 c1
    refine WP.iload_n 1 dX5_isUnder_10 rfl rfl ?_
    refine WP.if_lt (tgt := 32) dX5_isUnder_11 (by decide) (fun c2 => ?_) (fun c2 => ?_)
    · have h := h.1 c2
      refine WP.iconst (v := 0) dX5_isUnder_32 rfl ?_
      exact WP.zret dX5_isUnder_33 rfl (Nat.le_refl _) (Nat.le_refl _) rfl ⟨_, rfl, h⟩
    · have h := h.2 c2
      refine WP.iload_n 1 dX5_isUnder_14 rfl rfl ?_
      refine WP.iload_n 0 dX5_isUnder_15 rfl rfl ?_
      refine WP.icmp_ne (tgt := 21) dX5_isUnder_16 (by decide) (fun c3 => ?_) (fun c3 => ?_)
      · have h := h.1 c3
        refine WP.iload_n 1 dX5_isUnder_21 rfl rfl ?_
        refine WP.callS (y := mX5_kindAbove) (As := [.int x2]) (st := []) dX5_isUnder_22 wm_X5_318 mw_X5_kindAbove rfl (Nat.le_of_ble_eq_true rfl) (rmok d) rfl h (fun v4 Sm5 h7 => ?_)
        obtain ⟨m5, rfl, r6, rfl, h⟩ := h7
        show WP G _ _ _ 0 0 25 [(1, .int x1), (2, .int x2), (3, .int x3)] [.int r6] (sh, ta, m5)
        refine WP.istore_n (lv2 := [(2, .int r6), (1, .int x1), (3, .int x3)]) dX5_isUnder_25 rfl (by decide) rfl ?_
        refine WP.iinc (lv2 := [(3, .int (x3 + 1)), (2, .int r6), (1, .int x1)]) 2 1 dX5_isUnder_26 rfl rfl (by decide) rfl ?_
        refine WP.goto (tgt := 4) dX5_isUnder_29 (by decide) ?_
        exact WP.pick [2, 1, 0] rfl h
      · have h := h.2 c3
        refine WP.iconst (v := 1) dX5_isUnder_19 rfl ?_
        exact WP.zret dX5_isUnder_20 rfl (Nat.le_refl _) (Nat.le_refl _) rfl ⟨_, rfl, h⟩
set_option maxHeartbeats 4000000 in
set_option maxRecDepth 20000 in
theorem rg_X5_pullsIn_0 (hG : fl G = false) (b : Nat) (h : WP G (rmD (d + 1) 0 0) mX5_pullsIn (QC G sh ta K) 0 0 2 [(0, .ref b), (1, .int 0)] [] (sh, ta, m)) : WP G (rmD (d + 1) 0 0) mX5_pullsIn (QC G sh ta K) 0 0 0 [(0, .ref b)] [] (sh, ta, m) := by
  refine WP.iconst (v := 0) dX5_pullsIn_0 rfl ?_
  refine WP.istore_n (lv2 := [(1, .int 0), (0, .ref b)]) dX5_pullsIn_1 rfl (by decide) rfl ?_
  exact WP.pick [1, 0] rfl h
set_option maxHeartbeats 4000000 in
set_option maxRecDepth 20000 in
theorem rg_X5_pullsIn_2 (hG : fl G = false) (b : Nat) (x1 : Int32) (h : sh[b]? = some (.inl 2) ∧ (((m b 1) ≤ x1 → K (some (.int x1)) m) ∧ (¬ (m b 1) ≤ x1 → Cal G mX2_at d [.ref b, .int x1] sh ta m (fun v3 m4 => ∃ r5, v3 = some (.int r5) ∧ Cal G mX5_isPile d [.int r5] sh ta m4 (fun v7 m8 => ∃ r9, v7 = some (.int r9) ∧ ((r9 = 0 → K (some (.int x1)) m8) ∧ (¬ r9 = 0 → WP G (rmD (d + 1) 0 0) mX5_pullsIn (QC G sh ta K) 0 0 2 [(0, .ref b), (1, .int (x1 + 1))] [] (sh, ta, m8)))))))) : WP G (rmD (d + 1) 0 0) mX5_pullsIn (QC G sh ta K) 0 0 2 [(0, .ref b), (1, .int x1)] [] (sh, ta, m) := by
  refine WP.iload_n 1 dX5_pullsIn_2 rfl rfl ?_
  refine WP.aload_n 0 dX5_pullsIn_3 rfl rfl ?_
  obtain ⟨h1, h⟩ := h
  refine WP.getIN 2 1 wf_X5_168 (by decide) (by decide) rfl h1 dX5_pullsIn_4 ?_
  refine WP.icmp_ge (tgt := 27) dX5_pullsIn_7 (by decide) (fun c2 => ?_) (fun c2 => ?_)
  · have h := h.1 c2
    refine WP.iload_n 1 dX5_pullsIn_27 rfl rfl ?_
    exact WP.iret dX5_pullsIn_28 rfl (Nat.le_refl _) (Nat.le_refl _) ⟨_, rfl, h⟩
  · have h := h.2 c2
    refine WP.aload_n 0 dX5_pullsIn_10 rfl rfl ?_
    refine WP.iload_n 1 dX5_pullsIn_11 rfl rfl ?_
    refine WP.callV (y := mX2_at) (As := [.int x1]) (st := []) dX5_pullsIn_12 wm_X5_210 mw_X2_at rfl (Nat.le_of_ble_eq_true rfl) (rmok d) h1 (by decide) rfl h (fun v3 Sm4 h6 => ?_)
    obtain ⟨m4, rfl, r5, rfl, h⟩ := h6
    show WP G _ _ _ 0 0 15 [(0, .ref b), (1, .int x1)] [.int r5] (sh, ta, m4)
    refine WP.callS (y := mX5_isPile) (As := [.int r5]) (st := []) dX5_pullsIn_15 wm_X5_83 mw_X5_isPile rfl (Nat.le_of_ble_eq_true rfl) (rmok d) rfl h (fun v7 Sm8 h10 => ?_)
    obtain ⟨m8, rfl, r9, rfl, h⟩ := h10
    show WP G _ _ _ 0 0 18 [(0, .ref b), (1, .int x1)] [.int r9] (sh, ta, m8)
    refine WP.if_eq (tgt := 27) dX5_pullsIn_18 (by decide) (fun c11 => ?_) (fun c11 => ?_)
    · have h := h.1 c11
      refine WP.iload_n 1 dX5_pullsIn_27 rfl rfl ?_
      exact WP.iret dX5_pullsIn_28 rfl (Nat.le_refl _) (Nat.le_refl _) ⟨_, rfl, h⟩
    · have h := h.2 c11
      refine WP.iinc (lv2 := [(1, .int (x1 + 1)), (0, .ref b)]) 1 1 dX5_pullsIn_21 rfl rfl (by decide) rfl ?_
      refine WP.goto (tgt := 2) dX5_pullsIn_24 (by decide) ?_
      exact WP.pick [1, 0] rfl h
set_option maxHeartbeats 4000000 in
set_option maxRecDepth 20000 in
theorem rg_X5_checked_0 (hG : fl G = false) (b : Nat) (x1 : Int32) (h : sh[b]? = some (.inl 5) ∧ ∃ i2, ta b 2 = some i2 ∧ ∃ i4, ta b 0 = some i4 ∧ sh[i2]? = some (.inl 0) ∧ Cal G mX0_copyFrom d [.ref i2, .ref i4] sh ta m (fun v6 m7 => v6 = none ∧ WP G (rmD (d + 1) 0 0) mX5_checked (QC G sh ta K) 0 0 13 [(0, .ref b), (1, .int x1), (2, .int 0)] [] (sh, ta, m7))) : WP G (rmD (d + 1) 0 0) mX5_checked (QC G sh ta K) 0 0 0 [(0, .ref b), (1, .int x1)] [] (sh, ta, m) := by
  refine WP.aload_n 0 dX5_checked_0 rfl rfl ?_
  obtain ⟨h1, h⟩ := h
  obtain ⟨i2, h3, h⟩ := h
  refine WP.getR 5 2 wf_X5_80 (by decide) (by decide) rfl h1 h3 dX5_checked_1 ?_
  refine WP.aload_n 0 dX5_checked_4 rfl rfl ?_
  obtain ⟨i4, h5, h⟩ := h
  refine WP.getR 5 0 wf_X5_67 (by decide) (by decide) rfl h1 h5 dX5_checked_5 ?_
  obtain ⟨h10, h⟩ := h
  refine WP.callV (y := mX0_copyFrom) (As := [.ref i4]) (st := []) dX5_checked_8 wm_X5_223 mw_X0_copyFrom rfl (Nat.le_of_ble_eq_true rfl) (rmok d) h10 (by decide) rfl h (fun v6 Sm7 h9 => ?_)
  obtain ⟨m7, rfl, rfl, h⟩ := h9
  show WP G _ _ _ 0 0 11 [(0, .ref b), (1, .int x1)] [] (sh, ta, m7)
  refine WP.iconst (v := 0) dX5_checked_11 rfl ?_
  refine WP.istore_n (lv2 := [(2, .int 0), (0, .ref b), (1, .int x1)]) dX5_checked_12 rfl (by decide) rfl ?_
  exact WP.pick [1, 2, 0] rfl h
set_option maxHeartbeats 4000000 in
set_option maxRecDepth 20000 in
theorem rg_X5_checked_13 (hG : fl G = false) (b : Nat) (x1 : Int32) (x2 : Int32) (h : sh[b]? = some (.inl 5) ∧ ∃ i2, ta b 5 = some i2 ∧ sh[i2]? = some (.inl 2) ∧ (((m i2 1) ≤ x2 → K (some (.int 0)) m) ∧ (¬ (m i2 1) ≤ x2 → ∃ i6, ta b 2 = some i6 ∧ sh[i6]? = some (.inl 0) ∧ Cal G mX0_grip d [.ref i6, .int x1] sh ta m (fun v8 m9 => ∃ r10, v8 = some (.int r10) ∧ Cal G mX2_at d [.ref i2, .int x2] sh ta m9 (fun v13 m14 => ∃ r15, v13 = some (.int r15) ∧ ((r10 = r15 → WP G (rmD (d + 1) 0 0) mX5_checked (QC G sh ta K) 0 0 13 [(0, .ref b), (1, .int x1), (2, .int (x2 + 1))] [] (sh, ta, m14)) ∧ (¬ r10 = r15 → K (some (.int (1 + x2))) m14))))))) : WP G (rmD (d + 1) 0 0) mX5_checked (QC G sh ta K) 0 0 13 [(0, .ref b), (1, .int x1), (2, .int x2)] [] (sh, ta, m) := by
  refine WP.iload_n 2 dX5_checked_13 rfl rfl ?_
  refine WP.aload_n 0 dX5_checked_14 rfl rfl ?_
  obtain ⟨h1, h⟩ := h
  obtain ⟨i2, h3, h⟩ := h
  refine WP.getR 5 5 wf_X5_21 (by decide) (by decide) rfl h1 h3 dX5_checked_15 ?_
  obtain ⟨h4, h⟩ := h
  refine WP.getIN 2 1 wf_X5_168 (by decide) (by decide) rfl h4 dX5_checked_18 ?_
  refine WP.icmp_ge (tgt := 53) dX5_checked_21 (by decide) (fun c5 => ?_) (fun c5 => ?_)
  · have h := h.1 c5
    refine WP.iconst (v := 0) dX5_checked_53 rfl ?_
    exact WP.iret dX5_checked_54 rfl (Nat.le_refl _) (Nat.le_refl _) ⟨_, rfl, h⟩
  · have h := h.2 c5
    refine WP.aload_n 0 dX5_checked_24 rfl rfl ?_
    obtain ⟨i6, h7, h⟩ := h
    refine WP.getR 5 2 wf_X5_80 (by decide) (by decide) rfl h1 h7 dX5_checked_25 ?_
    refine WP.iload_n 1 dX5_checked_28 rfl rfl ?_
    obtain ⟨h12, h⟩ := h
    refine WP.callV (y := mX0_grip) (As := [.int x1]) (st := []) dX5_checked_29 wm_X5_197 mw_X0_grip rfl (Nat.le_of_ble_eq_true rfl) (rmok d) h12 (by decide) rfl h (fun v8 Sm9 h11 => ?_)
    obtain ⟨m9, rfl, r10, rfl, h⟩ := h11
    show WP G _ _ _ 0 0 32 [(0, .ref b), (1, .int x1), (2, .int x2)] [.int r10] (sh, ta, m9)
    refine WP.aload_n 0 dX5_checked_32 rfl rfl ?_
    refine WP.getR 5 5 wf_X5_21 (by decide) (by decide) rfl h1 h3 dX5_checked_33 ?_
    refine WP.iload_n 2 dX5_checked_36 rfl rfl ?_
    refine WP.callV (y := mX2_at) (As := [.int x2]) (st := [.int r10]) dX5_checked_37 wm_X5_210 mw_X2_at rfl (Nat.le_of_ble_eq_true rfl) (rmok d) h4 (by decide) rfl h (fun v13 Sm14 h16 => ?_)
    obtain ⟨m14, rfl, r15, rfl, h⟩ := h16
    show WP G _ _ _ 0 0 40 [(0, .ref b), (1, .int x1), (2, .int x2)] [.int r15, .int r10] (sh, ta, m14)
    refine WP.icmp_eq (tgt := 47) dX5_checked_40 (by decide) (fun c17 => ?_) (fun c17 => ?_)
    · have h := h.1 c17
      refine WP.iinc (lv2 := [(2, .int (x2 + 1)), (0, .ref b), (1, .int x1)]) 2 1 dX5_checked_47 rfl rfl (by decide) rfl ?_
      refine WP.goto (tgt := 13) dX5_checked_50 (by decide) ?_
      exact WP.pick [1, 2, 0] rfl h
    · have h := h.2 c17
      refine WP.iconst (v := 1) dX5_checked_43 rfl ?_
      refine WP.iload_n 2 dX5_checked_44 rfl rfl ?_
      refine WP.iadd dX5_checked_45 ?_
      exact WP.iret dX5_checked_46 rfl (Nat.le_refl _) (Nat.le_refl _) ⟨_, rfl, h⟩
set_option maxHeartbeats 4000000 in
set_option maxRecDepth 20000 in
theorem rg_X5_leadsToWin_0 (hG : fl G = false) (b : Nat) (x1 : Int32) (b2 : Nat) (x3 : Int32) (x4 : Int32) (h : ((x3 < 0 → K (some (.int 0)) m) ∧ (¬ x3 < 0 → ((x4 ≤ x3 → K (some (.int 0)) m) ∧ (¬ x4 ≤ x3 → ∃ n4, sh[b2]? = some (.inr (0, n4)) ∧ ((x4 ≤ (Int32.ofNat n4) → ((¬ x3 = (x4 - 1) → WP G (rmD (d + 1) 0 0) mX5_leadsToWin (QC G sh ta K) 0 0 72 [(0, .ref b), (1, .int x1), (2, .ref b2), (3, .int x3), (4, .int x4), (5, .int 1)] [] (sh, ta, m)) ∧ (x3 = (x4 - 1) → sh[b]? = some (.inl 0) ∧ Cal G mX0_cellOf d [.ref b, .int x1] sh ta m (fun v7 m8 => ∃ r9, v7 = some (.int r9) ∧ InB x3 n4 ∧ ∀ m13, m13 = upa m8 b2 x3 r9 → InB x3 n4 ∧ (((rd (m13 b2) x3) < 0 → K (some (.int 0)) m13) ∧ (¬ (rd (m13 b2) x3) < 0 → InB x3 n4 ∧ Cal G mX0_top d [.ref b, .int (rd (m13 b2) x3)] sh ta m13 (fun v17 m18 => ∃ r19, v17 = some (.int r19) ∧ ((¬ r19 = x1 → K (some (.int 0)) m18) ∧ (r19 = x1 → InB x3 n4 ∧ Cal G mX0_does d [.ref b, .int (rd (m18 b2) x3)] sh ta m18 (fun v23 m24 => ∃ r25, v23 = some (.int r25) ∧ ((¬ r25 = (2 : Int32) → K (some (.int 0)) m24) ∧ (r25 = (2 : Int32) → K (some (.int 1)) m24)))))))))))) ∧ (¬ x4 ≤ (Int32.ofNat n4) → K (some (.int 0)) m))))))) : WP G (rmD (d + 1) 0 0) mX5_leadsToWin (QC G sh ta K) 0 0 0 [(0, .ref b), (1, .int x1), (2, .ref b2), (3, .int x3), (4, .int x4)] [] (sh, ta, m) := by
  refine WP.iload_n 3 dX5_leadsToWin_0 rfl rfl ?_
  refine WP.if_lt (tgt := 17) dX5_leadsToWin_1 (by decide) (fun c1 => ?_) (fun c1 => ?_)
  · have h := h.1 c1
    refine WP.iconst (v := 0) dX5_leadsToWin_17 rfl ?_
    exact WP.zret dX5_leadsToWin_18 rfl (Nat.le_refl _) (Nat.le_refl _) rfl ⟨_, rfl, h⟩
  · have h := h.2 c1
    refine WP.iload_n 3 dX5_leadsToWin_4 rfl rfl ?_
    refine WP.iload 4 dX5_leadsToWin_5 rfl ?_
    refine WP.icmp_ge (tgt := 17) dX5_leadsToWin_7 (by decide) (fun c2 => ?_) (fun c2 => ?_)
    · have h := h.1 c2
      refine WP.iconst (v := 0) dX5_leadsToWin_17 rfl ?_
      exact WP.zret dX5_leadsToWin_18 rfl (Nat.le_refl _) (Nat.le_refl _) rfl ⟨_, rfl, h⟩
    · have h := h.2 c2
      refine WP.iload 4 dX5_leadsToWin_10 rfl ?_
      refine WP.aload_n 2 dX5_leadsToWin_12 rfl rfl ?_
      obtain ⟨n4, h3, h⟩ := h
      refine WP.alen (Int32.ofNat n4) h3 rfl dX5_leadsToWin_13 ?_
      refine WP.icmp_le (tgt := 19) dX5_leadsToWin_14 (by decide) (fun c5 => ?_) (fun c5 => ?_)
      · have h := h.1 c5
        refine WP.iload_n 3 dX5_leadsToWin_19 rfl rfl ?_
        refine WP.iload 4 dX5_leadsToWin_20 rfl ?_
        refine WP.iconst (v := 1) dX5_leadsToWin_22 rfl ?_
        refine WP.isub dX5_leadsToWin_23 ?_
        refine WP.icmp_ne (tgt := 69) dX5_leadsToWin_24 (by decide) (fun c6 => ?_) (fun c6 => ?_)
        · have h := h.1 c6
          refine WP.iconst (v := 1) dX5_leadsToWin_69 rfl ?_
          refine WP.istore (lv2 := [(5, .int 1), (0, .ref b), (1, .int x1), (2, .ref b2), (3, .int x3), (4, .int x4)]) dX5_leadsToWin_70 (by decide) rfl ?_
          exact WP.pick [1, 2, 3, 4, 5, 0] rfl h
        · have h := h.2 c6
          refine WP.aload_n 2 dX5_leadsToWin_27 rfl rfl ?_
          refine WP.iload_n 3 dX5_leadsToWin_28 rfl rfl ?_
          refine WP.aload_n 0 dX5_leadsToWin_29 rfl rfl ?_
          refine WP.iload_n 1 dX5_leadsToWin_30 rfl rfl ?_
          obtain ⟨h11, h⟩ := h
          refine WP.callV (y := mX0_cellOf) (As := [.int x1]) (st := [.int x3, .ref b2]) dX5_leadsToWin_31 wm_X5_114 mw_X0_cellOf rfl (Nat.le_of_ble_eq_true rfl) (rmok d) h11 (by decide) rfl h (fun v7 Sm8 h10 => ?_)
          obtain ⟨m8, rfl, r9, rfl, h⟩ := h10
          show WP G _ _ _ 0 0 34 [(0, .ref b), (1, .int x1), (2, .ref b2), (3, .int x3), (4, .int x4)] [.int r9, .int x3, .ref b2] (sh, ta, m8)
          obtain ⟨h12, h⟩ := h
          have h := h _ rfl
          refine WP.iast h3 h12 dX5_leadsToWin_34 ?_
          generalize upa m8 b2 x3 r9 = m13 at h ⊢
          refine WP.aload_n 2 dX5_leadsToWin_35 rfl rfl ?_
          refine WP.iload_n 3 dX5_leadsToWin_36 rfl rfl ?_
          obtain ⟨h14, h⟩ := h
          refine WP.iald h3 h14 dX5_leadsToWin_37 ?_
          refine WP.if_lt (tgt := 67) dX5_leadsToWin_38 (by decide) (fun c15 => ?_) (fun c15 => ?_)
          · have h := h.1 c15
            refine WP.iconst (v := 0) dX5_leadsToWin_67 rfl ?_
            exact WP.zret dX5_leadsToWin_68 rfl (Nat.le_refl _) (Nat.le_refl _) rfl ⟨_, rfl, h⟩
          · have h := h.2 c15
            refine WP.aload_n 0 dX5_leadsToWin_41 rfl rfl ?_
            refine WP.aload_n 2 dX5_leadsToWin_42 rfl rfl ?_
            refine WP.iload_n 3 dX5_leadsToWin_43 rfl rfl ?_
            obtain ⟨h16, h⟩ := h
            refine WP.iald h3 h16 dX5_leadsToWin_44 ?_
            refine WP.callV (y := mX0_top) (As := [.int (rd (m13 b2) x3)]) (st := []) dX5_leadsToWin_45 wm_X5_158 mw_X0_top rfl (Nat.le_of_ble_eq_true rfl) (rmok d) h11 (by decide) rfl h (fun v17 Sm18 h20 => ?_)
            obtain ⟨m18, rfl, r19, rfl, h⟩ := h20
            show WP G _ _ _ 0 0 48 [(0, .ref b), (1, .int x1), (2, .ref b2), (3, .int x3), (4, .int x4)] [.int r19] (sh, ta, m18)
            refine WP.iload_n 1 dX5_leadsToWin_48 rfl rfl ?_
            refine WP.icmp_ne (tgt := 67) dX5_leadsToWin_49 (by decide) (fun c21 => ?_) (fun c21 => ?_)
            · have h := h.1 c21
              refine WP.iconst (v := 0) dX5_leadsToWin_67 rfl ?_
              exact WP.zret dX5_leadsToWin_68 rfl (Nat.le_refl _) (Nat.le_refl _) rfl ⟨_, rfl, h⟩
            · have h := h.2 c21
              refine WP.aload_n 0 dX5_leadsToWin_52 rfl rfl ?_
              refine WP.aload_n 2 dX5_leadsToWin_53 rfl rfl ?_
              refine WP.iload_n 3 dX5_leadsToWin_54 rfl rfl ?_
              obtain ⟨h22, h⟩ := h
              refine WP.iald h3 h22 dX5_leadsToWin_55 ?_
              refine WP.callV (y := mX0_does) (As := [.int (rd (m18 b2) x3)]) (st := []) dX5_leadsToWin_56 wm_X5_165 mw_X0_does rfl (Nat.le_of_ble_eq_true rfl) (rmok d) h11 (by decide) rfl h (fun v23 Sm24 h26 => ?_)
              obtain ⟨m24, rfl, r25, rfl, h⟩ := h26
              show WP G _ _ _ 0 0 59 [(0, .ref b), (1, .int x1), (2, .ref b2), (3, .int x3), (4, .int x4)] [.int r25] (sh, ta, m24)
              refine WP.iconst (v := 2) dX5_leadsToWin_59 rfl ?_
              refine WP.icmp_ne (tgt := 67) dX5_leadsToWin_60 (by decide) (fun c27 => ?_) (fun c27 => ?_)
              · have h := h.1 c27
                refine WP.iconst (v := 0) dX5_leadsToWin_67 rfl ?_
                exact WP.zret dX5_leadsToWin_68 rfl (Nat.le_refl _) (Nat.le_refl _) rfl ⟨_, rfl, h⟩
              · have h := h.2 c27
                refine WP.iconst (v := 1) dX5_leadsToWin_63 rfl ?_
                refine WP.goto (tgt := 68) dX5_leadsToWin_64 (by decide) ?_
                exact WP.zret dX5_leadsToWin_68 rfl (Nat.le_refl _) (Nat.le_refl _) rfl ⟨_, rfl, h⟩
      · have h := h.2 c5
        refine WP.iconst (v := 0) dX5_leadsToWin_17 rfl ?_
        exact WP.zret dX5_leadsToWin_18 rfl (Nat.le_refl _) (Nat.le_refl _) rfl ⟨_, rfl, h⟩
set_option maxHeartbeats 4000000 in
set_option maxRecDepth 20000 in
theorem rg_X5_leadsToWin_72 (hG : fl G = false) (b : Nat) (x1 : Int32) (b2 : Nat) (x3 : Int32) (x4 : Int32) (x5 : Int32) (h : (((16 : Int32) ≤ x5 → K (some (.int 0)) m) ∧ (¬ (16 : Int32) ≤ x5 → Cal G mX5_isLikeOneAhead d [.ref b, .int x5] sh ta m (fun v2 m3 => ∃ r4, v2 = some (.int r4) ∧ ((r4 = 0 → sh[b]? = some (.inl 0) ∧ Cal G mX0_grip d [.ref b, .int x5] sh ta m3 (fun v8 m9 => ∃ r10, v8 = some (.int r10) ∧ Cal G mX5_leadsToWin d [.ref b, .int x1, .ref b2, .int (x3 + 1), .int x4] sh ta m9 (fun v12 m13 => ∃ r14, v12 = some (.int r14) ∧ Cal G mX0_takeBack d [.ref b, .int x5, .int r10, .int (m9 b 15), .int (m3 b 12)] sh ta m13 (fun v16 m17 => v16 = none ∧ ((r14 = 0 → WP G (rmD (d + 1) 0 0) mX5_leadsToWin (QC G sh ta K) 0 0 72 [(0, .ref b), (1, .int x1), (2, .ref b2), (3, .int x3), (4, .int x4), (5, .int (x5 + 1))] [] (sh, ta, m17)) ∧ (¬ r14 = 0 → ∃ n22, sh[b2]? = some (.inr (0, n22)) ∧ InB x3 n22 ∧ ∀ m24, m24 = upa m17 b2 x3 x5 → K (some (.int 1)) m24)))))) ∧ (¬ r4 = 0 → WP G (rmD (d + 1) 0 0) mX5_leadsToWin (QC G sh ta K) 0 0 72 [(0, .ref b), (1, .int x1), (2, .ref b2), (3, .int x3), (4, .int x4), (5, .int (x5 + 1))] [] (sh, ta, m3))))))) : WP G (rmD (d + 1) 0 0) mX5_leadsToWin (QC G sh ta K) 0 0 72 [(0, .ref b), (1, .int x1), (2, .ref b2), (3, .int x3), (4, .int x4), (5, .int x5)] [] (sh, ta, m) := by
  refine WP.iload 5 dX5_leadsToWin_72 rfl ?_
  refine WP.bipush (v := 16) dX5_leadsToWin_74 rfl ?_
  refine WP.icmp_ge (tgt := 154) dX5_leadsToWin_76 (by decide) (fun c1 => ?_) (fun c1 => ?_)
  · have h := h.1 c1
    refine WP.iconst (v := 0) dX5_leadsToWin_154 rfl ?_
    exact WP.zret dX5_leadsToWin_155 rfl (Nat.le_refl _) (Nat.le_refl _) rfl ⟨_, rfl, h⟩
  · have h := h.2 c1
    refine WP.aload_n 0 dX5_leadsToWin_79 rfl rfl ?_
    refine WP.iload 5 dX5_leadsToWin_80 rfl ?_
    refine WP.callS (y := mX5_isLikeOneAhead) (As := [.ref b, .int x5]) (st := []) dX5_leadsToWin_82 wm_X5_230 mw_X5_isLikeOneAhead rfl (Nat.le_of_ble_eq_true rfl) (rmok d) rfl h (fun v2 Sm3 h5 => ?_)
    obtain ⟨m3, rfl, r4, rfl, h⟩ := h5
    show WP G _ _ _ 0 0 85 [(0, .ref b), (1, .int x1), (2, .ref b2), (3, .int x3), (4, .int x4), (5, .int x5)] [.int r4] (sh, ta, m3)
    refine WP.if_eq (tgt := 91) dX5_leadsToWin_85 (by decide) (fun c6 => ?_) (fun c6 => ?_)
    · have h := h.1 c6
      refine WP.aload_n 0 dX5_leadsToWin_91 rfl rfl ?_
      obtain ⟨h7, h⟩ := h
      refine WP.getIN 0 12 wf_X5_152 (by decide) (by decide) rfl h7 dX5_leadsToWin_92 ?_
      refine WP.istore (lv2 := [(6, .int (m3 b 12)), (0, .ref b), (1, .int x1), (2, .ref b2), (3, .int x3), (4, .int x4), (5, .int x5)]) dX5_leadsToWin_95 (by decide) rfl ?_
      refine WP.aload_n 1 dX5_leadsToWin_97 rfl rfl ?_
      refine WP.iload 6 dX5_leadsToWin_98 rfl ?_
      refine WP.callV (y := mX0_grip) (As := [.int x5]) (st := []) dX5_leadsToWin_100 wm_X5_197 mw_X0_grip rfl (Nat.le_of_ble_eq_true rfl) (rmok d) h7 (by decide) rfl h (fun v8 Sm9 h11 => ?_)
      obtain ⟨m9, rfl, r10, rfl, h⟩ := h11
      show WP G _ _ _ 0 0 103 [(6, .int (m3 b 12)), (0, .ref b), (1, .int x1), (2, .ref b2), (3, .int x3), (4, .int x4), (5, .int x5)] [.int r10] (sh, ta, m9)
      refine WP.istore (lv2 := [(7, .int r10), (6, .int (m3 b 12)), (0, .ref b), (1, .int x1), (2, .ref b2), (3, .int x3), (4, .int x4), (5, .int x5)]) dX5_leadsToWin_103 (by decide) rfl ?_
      refine WP.aload_n 2 dX5_leadsToWin_105 rfl rfl ?_
      refine WP.getIN 0 15 wf_X5_200 (by decide) (by decide) rfl h7 dX5_leadsToWin_106 ?_
      refine WP.istore (lv2 := [(8, .int (m9 b 15)), (7, .int r10), (6, .int (m3 b 12)), (0, .ref b), (1, .int x1), (2, .ref b2), (3, .int x3), (4, .int x4), (5, .int x5)]) dX5_leadsToWin_109 (by decide) rfl ?_
      refine WP.aload_n 3 dX5_leadsToWin_111 rfl rfl ?_
      refine WP.iload_n 4 dX5_leadsToWin_112 rfl rfl ?_
      refine WP.aload_n 5 dX5_leadsToWin_113 rfl rfl ?_
      refine WP.iload_n 6 dX5_leadsToWin_114 rfl rfl ?_
      refine WP.iconst (v := 1) dX5_leadsToWin_115 rfl ?_
      refine WP.iadd dX5_leadsToWin_116 ?_
      refine WP.iload 7 dX5_leadsToWin_117 rfl ?_
      refine WP.callS (y := mX5_leadsToWin) (As := [.ref b, .int x1, .ref b2, .int (x3 + 1), .int x4]) (st := []) dX5_leadsToWin_119 wm_X5_226 mw_X5_leadsToWin rfl (Nat.le_of_ble_eq_true rfl) (rmok d) rfl h (fun v12 Sm13 h15 => ?_)
      obtain ⟨m13, rfl, r14, rfl, h⟩ := h15
      show WP G _ _ _ 0 0 122 [(8, .int (m9 b 15)), (7, .int r10), (6, .int (m3 b 12)), (0, .ref b), (1, .int x1), (2, .ref b2), (3, .int x3), (4, .int x4), (5, .int x5)] [.int r14] (sh, ta, m13)
      refine WP.istore (lv2 := [(9, .int r14), (8, .int (m9 b 15)), (7, .int r10), (6, .int (m3 b 12)), (0, .ref b), (1, .int x1), (2, .ref b2), (3, .int x3), (4, .int x4), (5, .int x5)]) dX5_leadsToWin_122 (by decide) rfl ?_
      refine WP.aload_n 4 dX5_leadsToWin_124 rfl rfl ?_
      refine WP.iload 9 dX5_leadsToWin_125 rfl ?_
      refine WP.iload 2 dX5_leadsToWin_127 rfl ?_
      refine WP.iload 1 dX5_leadsToWin_129 rfl ?_
      refine WP.iload 3 dX5_leadsToWin_131 rfl ?_
      refine WP.callV (y := mX0_takeBack) (As := [.int x5, .int r10, .int (m9 b 15), .int (m3 b 12)]) (st := []) dX5_leadsToWin_133 wm_X5_321 mw_X0_takeBack rfl (Nat.le_of_ble_eq_true rfl) (rmok d) h7 (by decide) rfl h (fun v16 Sm17 h19 => ?_)
      obtain ⟨m17, rfl, rfl, h⟩ := h19
      show WP G _ _ _ 0 0 136 [(9, .int r14), (8, .int (m9 b 15)), (7, .int r10), (6, .int (m3 b 12)), (0, .ref b), (1, .int x1), (2, .ref b2), (3, .int x3), (4, .int x4), (5, .int x5)] [] (sh, ta, m17)
      refine WP.iload 0 dX5_leadsToWin_136 rfl ?_
      refine WP.if_eq (tgt := 148) dX5_leadsToWin_138 (by decide) (fun c20 => ?_) (fun c20 => ?_)
      · have h := h.1 c20
        refine WP.iinc (lv2 := [(5, .int (x5 + 1)), (9, .int r14), (8, .int (m9 b 15)), (7, .int r10), (6, .int (m3 b 12)), (0, .ref b), (1, .int x1), (2, .ref b2), (3, .int x3), (4, .int x4)]) 9 1 dX5_leadsToWin_148 rfl rfl (by decide) rfl ?_
        refine WP.goto (tgt := 72) dX5_leadsToWin_151 (by decide) ?_
        exact WP.pick [5, 6, 7, 8, 9, 0] rfl h
      · have h := h.2 c20
        refine WP.aload_n 6 dX5_leadsToWin_141 rfl rfl ?_
        refine WP.iload_n 7 dX5_leadsToWin_142 rfl rfl ?_
        refine WP.iload 9 dX5_leadsToWin_143 rfl ?_
        obtain ⟨n22, h21, h⟩ := h
        obtain ⟨h23, h⟩ := h
        have h := h _ rfl
        refine WP.iast h21 h23 dX5_leadsToWin_145 ?_
        generalize upa m17 b2 x3 x5 = m24 at h ⊢
        refine WP.iconst (v := 1) dX5_leadsToWin_146 rfl ?_
        exact WP.zret dX5_leadsToWin_147 rfl (Nat.le_refl _) (Nat.le_refl _) rfl ⟨_, rfl, h⟩
    · have h := h.2 c6
      refine WP.goto (tgt := 148) dX5_leadsToWin_88 (by decide) ?_
      refine WP.iinc (lv2 := [(5, .int (x5 + 1)), (0, .ref b), (1, .int x1), (2, .ref b2), (3, .int x3), (4, .int x4)]) 5 1 dX5_leadsToWin_148 rfl rfl (by decide) rfl ?_
      refine WP.goto (tgt := 72) dX5_leadsToWin_151 (by decide) ?_
      exact WP.pick [1, 2, 3, 4, 5, 0] rfl h
set_option maxHeartbeats 4000000 in
set_option maxRecDepth 20000 in
theorem rg_X5_isLikeOneAhead_0 (hG : fl G = false) (b : Nat) (x1 : Int32) (h : sh[b]? = some (.inl 0) ∧ Cal G mX0_highOf d [.ref b, .int x1] sh ta m (fun v1 m2 => ∃ r3, v1 = some (.int r3) ∧ ((r3 ≤ 0 → WP G (rmD (d + 1) 0 0) mX5_isLikeOneAhead (QC G sh ta K) 0 0 12 [(0, .ref b), (1, .int x1), (2, .int 1)] [] (sh, ta, m2)) ∧ (¬ r3 ≤ 0 → K (some (.int 0)) m2)))) : WP G (rmD (d + 1) 0 0) mX5_isLikeOneAhead (QC G sh ta K) 0 0 0 [(0, .ref b), (1, .int x1)] [] (sh, ta, m) := by
  refine WP.aload_n 0 dX5_isLikeOneAhead_0 rfl rfl ?_
  refine WP.iload_n 1 dX5_isLikeOneAhead_1 rfl rfl ?_
  obtain ⟨h5, h⟩ := h
  refine WP.callV (y := mX0_highOf) (As := [.int x1]) (st := []) dX5_isLikeOneAhead_2 wm_X5_95 mw_X0_highOf rfl (Nat.le_of_ble_eq_true rfl) (rmok d) h5 (by decide) rfl h (fun v1 Sm2 h4 => ?_)
  obtain ⟨m2, rfl, r3, rfl, h⟩ := h4
  show WP G _ _ _ 0 0 5 [(0, .ref b), (1, .int x1)] [.int r3] (sh, ta, m2)
  refine WP.if_le (tgt := 10) dX5_isLikeOneAhead_5 (by decide) (fun c6 => ?_) (fun c6 => ?_)
  · have h := h.1 c6
    refine WP.iconst (v := 1) dX5_isLikeOneAhead_10 rfl ?_
    refine WP.istore_n (lv2 := [(2, .int 1), (0, .ref b), (1, .int x1)]) dX5_isLikeOneAhead_11 rfl (by decide) rfl ?_
    exact WP.pick [1, 2, 0] rfl h
  · have h := h.2 c6
    refine WP.iconst (v := 0) dX5_isLikeOneAhead_8 rfl ?_
    exact WP.zret dX5_isLikeOneAhead_9 rfl (Nat.le_refl _) (Nat.le_refl _) rfl ⟨_, rfl, h⟩
set_option maxHeartbeats 4000000 in
set_option maxRecDepth 20000 in
theorem rg_X5_isLikeOneAhead_12 (hG : fl G = false) (b : Nat) (x1 : Int32) (x2 : Int32) (h : ((x1 ≤ x2 → K (some (.int 0)) m) ∧ (¬ x1 ≤ x2 → sh[b]? = some (.inl 0) ∧ Cal G mX0_highOf d [.ref b, .int x2] sh ta m (fun v2 m3 => ∃ r4, v2 = some (.int r4) ∧ ((¬ r4 = 0 → WP G (rmD (d + 1) 0 0) mX5_isLikeOneAhead (QC G sh ta K) 0 0 12 [(0, .ref b), (1, .int x1), (2, .int (x2 + 1))] [] (sh, ta, m3)) ∧ (r4 = 0 → K (some (.int 1)) m3)))))) : WP G (rmD (d + 1) 0 0) mX5_isLikeOneAhead (QC G sh ta K) 0 0 12 [(0, .ref b), (1, .int x1), (2, .int x2)] [] (sh, ta, m) := by
  refine WP.iload_n 2 dX5_isLikeOneAhead_12 rfl rfl ?_
  refine WP.iload_n 1 dX5_isLikeOneAhead_13 rfl rfl ?_
  refine WP.icmp_ge (tgt := 33) dX5_isLikeOneAhead_14 (by decide) (fun c1 => ?_) (fun c1 => ?_)
  · have h := h.1 c1
    refine WP.iconst (v := 0) dX5_isLikeOneAhead_33 rfl ?_
    exact WP.zret dX5_isLikeOneAhead_34 rfl (Nat.le_refl _) (Nat.le_refl _) rfl ⟨_, rfl, h⟩
  · have h := h.2 c1
    refine WP.aload_n 0 dX5_isLikeOneAhead_17 rfl rfl ?_
    refine WP.iload_n 2 dX5_isLikeOneAhead_18 rfl rfl ?_
    obtain ⟨h6, h⟩ := h
    refine WP.callV (y := mX0_highOf) (As := [.int x2]) (st := []) dX5_isLikeOneAhead_19 wm_X5_95 mw_X0_highOf rfl (Nat.le_of_ble_eq_true rfl) (rmok d) h6 (by decide) rfl h (fun v2 Sm3 h5 => ?_)
    obtain ⟨m3, rfl, r4, rfl, h⟩ := h5
    show WP G _ _ _ 0 0 22 [(0, .ref b), (1, .int x1), (2, .int x2)] [.int r4] (sh, ta, m3)
    refine WP.if_ne (tgt := 27) dX5_isLikeOneAhead_22 (by decide) (fun c7 => ?_) (fun c7 => ?_)
    · have h := h.1 c7
      refine WP.iinc (lv2 := [(2, .int (x2 + 1)), (0, .ref b), (1, .int x1)]) 2 1 dX5_isLikeOneAhead_27 rfl rfl (by decide) rfl ?_
      refine WP.goto (tgt := 12) dX5_isLikeOneAhead_30 (by decide) ?_
      exact WP.pick [1, 2, 0] rfl h
    · have h := h.2 c7
      refine WP.iconst (v := 1) dX5_isLikeOneAhead_25 rfl ?_
      exact WP.zret dX5_isLikeOneAhead_26 rfl (Nat.le_refl _) (Nat.le_refl _) rfl ⟨_, rfl, h⟩
set_option maxHeartbeats 4000000 in
set_option maxRecDepth 20000 in
theorem rg_X5_gainAt_0 (hG : fl G = false) (b : Nat) (x1 : Int32) (x2 : Int32) (h : sh[b]? = some (.inl 0) ∧ Cal G mX0_does d [.ref b, .int x1] sh ta m (fun v1 m2 => ∃ r3, v1 = some (.int r3) ∧ ((¬ r3 = (2 : Int32) → (((1 : Int32) < x2 → Cal G mX0_grip d [.ref b, .int x1] sh ta m2 (fun v8 m9 => ∃ r10, v8 = some (.int r10) ∧ Cal G mX5_bestGain d [.ref b, .int (x2 - 1)] sh ta m9 (fun v12 m13 => ∃ r14, v12 = some (.int r14) ∧ Cal G mX0_takeBack d [.ref b, .int x1, .int r10, .int (m9 b 15), .int (m2 b 12)] sh ta m13 (fun v16 m17 => v16 = none ∧ K (some (.int (0 - r14))) m17)))) ∧ (¬ (1 : Int32) < x2 → K (some (.int 0)) m2))) ∧ (r3 = (2 : Int32) → Cal G mX0_top d [.ref b, .int x1] sh ta m2 (fun v20 m21 => ∃ r22, v20 = some (.int r22) ∧ Cal G mX0_likes d [.ref b, .int r22] sh ta m21 (fun v24 m25 => ∃ r26, v24 = some (.int r26) ∧ (((1 : Int32) < x2 → Cal G mX0_grip d [.ref b, .int x1] sh ta m25 (fun v29 m30 => ∃ r31, v29 = some (.int r31) ∧ Cal G mX5_bestGain d [.ref b, .int (x2 - 1)] sh ta m30 (fun v33 m34 => ∃ r35, v33 = some (.int r35) ∧ Cal G mX0_takeBack d [.ref b, .int x1, .int r31, .int (m30 b 15), .int (m25 b 12)] sh ta m34 (fun v37 m38 => v37 = none ∧ K (some (.int (r26 - r35))) m38)))) ∧ (¬ (1 : Int32) < x2 → K (some (.int r26)) m25)))))))) : WP G (rmD (d + 1) 0 0) mX5_gainAt (QC G sh ta K) 0 0 0 [(0, .ref b), (1, .int x1), (2, .int x2)] [] (sh, ta, m) := by
  refine WP.aload_n 0 dX5_gainAt_0 rfl rfl ?_
  refine WP.iload_n 1 dX5_gainAt_1 rfl rfl ?_
  obtain ⟨h5, h⟩ := h
  refine WP.callV (y := mX0_does) (As := [.int x1]) (st := []) dX5_gainAt_2 wm_X5_165 mw_X0_does rfl (Nat.le_of_ble_eq_true rfl) (rmok d) h5 (by decide) rfl h (fun v1 Sm2 h4 => ?_)
  obtain ⟨m2, rfl, r3, rfl, h⟩ := h4
  show WP G _ _ _ 0 0 5 [(0, .ref b), (1, .int x1), (2, .int x2)] [.int r3] (sh, ta, m2)
  refine WP.iconst (v := 2) dX5_gainAt_5 rfl ?_
  refine WP.icmp_ne (tgt := 21) dX5_gainAt_6 (by decide) (fun c6 => ?_) (fun c6 => ?_)
  · have h := h.1 c6
    refine WP.iconst (v := 0) dX5_gainAt_21 rfl ?_
    refine WP.istore_n (lv2 := [(3, .int 0), (0, .ref b), (1, .int x1), (2, .int x2)]) dX5_gainAt_22 rfl (by decide) rfl ?_
    refine WP.iload_n 3 dX5_gainAt_23 rfl rfl ?_
    refine WP.iconst (v := 1) dX5_gainAt_24 rfl ?_
    refine WP.icmp_gt (tgt := 30) dX5_gainAt_25 (by decide) (fun c7 => ?_) (fun c7 => ?_)
    · have h := h.1 c7
      refine WP.aload_n 1 dX5_gainAt_30 rfl rfl ?_
      refine WP.getIN 0 12 wf_X5_152 (by decide) (by decide) rfl h5 dX5_gainAt_31 ?_
      refine WP.istore (lv2 := [(4, .int (m2 b 12)), (3, .int 0), (0, .ref b), (1, .int x1), (2, .int x2)]) dX5_gainAt_34 (by decide) rfl ?_
      refine WP.aload_n 2 dX5_gainAt_36 rfl rfl ?_
      refine WP.iload_n 3 dX5_gainAt_37 rfl rfl ?_
      refine WP.callV (y := mX0_grip) (As := [.int x1]) (st := []) dX5_gainAt_38 wm_X5_197 mw_X0_grip rfl (Nat.le_of_ble_eq_true rfl) (rmok d) h5 (by decide) rfl h (fun v8 Sm9 h11 => ?_)
      obtain ⟨m9, rfl, r10, rfl, h⟩ := h11
      show WP G _ _ _ 0 0 41 [(4, .int (m2 b 12)), (3, .int 0), (0, .ref b), (1, .int x1), (2, .int x2)] [.int r10] (sh, ta, m9)
      refine WP.istore (lv2 := [(5, .int r10), (4, .int (m2 b 12)), (3, .int 0), (0, .ref b), (1, .int x1), (2, .int x2)]) dX5_gainAt_41 (by decide) rfl ?_
      refine WP.aload_n 3 dX5_gainAt_43 rfl rfl ?_
      refine WP.getIN 0 15 wf_X5_200 (by decide) (by decide) rfl h5 dX5_gainAt_44 ?_
      refine WP.istore (lv2 := [(6, .int (m9 b 15)), (5, .int r10), (4, .int (m2 b 12)), (3, .int 0), (0, .ref b), (1, .int x1), (2, .int x2)]) dX5_gainAt_47 (by decide) rfl ?_
      refine WP.iload_n 3 dX5_gainAt_49 rfl rfl ?_
      refine WP.aload_n 4 dX5_gainAt_50 rfl rfl ?_
      refine WP.iload_n 6 dX5_gainAt_51 rfl rfl ?_
      refine WP.iconst (v := 1) dX5_gainAt_52 rfl ?_
      refine WP.isub dX5_gainAt_53 ?_
      refine WP.callS (y := mX5_bestGain) (As := [.ref b, .int (x2 - 1)]) (st := [.int 0]) dX5_gainAt_54 wm_X5_325 mw_X5_bestGain rfl (Nat.le_of_ble_eq_true rfl) (rmok d) rfl h (fun v12 Sm13 h15 => ?_)
      obtain ⟨m13, rfl, r14, rfl, h⟩ := h15
      show WP G _ _ _ 0 0 57 [(6, .int (m9 b 15)), (5, .int r10), (4, .int (m2 b 12)), (3, .int 0), (0, .ref b), (1, .int x1), (2, .int x2)] [.int r14, .int 0] (sh, ta, m13)
      refine WP.isub dX5_gainAt_57 ?_
      refine WP.istore_n (lv2 := [(3, .int (0 - r14)), (6, .int (m9 b 15)), (5, .int r10), (4, .int (m2 b 12)), (0, .ref b), (1, .int x1), (2, .int x2)]) dX5_gainAt_58 rfl (by decide) rfl ?_
      refine WP.aload_n 4 dX5_gainAt_59 rfl rfl ?_
      refine WP.iload_n 5 dX5_gainAt_60 rfl rfl ?_
      refine WP.iload 2 dX5_gainAt_61 rfl ?_
      refine WP.iload 1 dX5_gainAt_63 rfl ?_
      refine WP.iload 3 dX5_gainAt_65 rfl ?_
      refine WP.callV (y := mX0_takeBack) (As := [.int x1, .int r10, .int (m9 b 15), .int (m2 b 12)]) (st := []) dX5_gainAt_67 wm_X5_321 mw_X0_takeBack rfl (Nat.le_of_ble_eq_true rfl) (rmok d) h5 (by decide) rfl h (fun v16 Sm17 h19 => ?_)
      obtain ⟨m17, rfl, rfl, h⟩ := h19
      show WP G _ _ _ 0 0 70 [(3, .int (0 - r14)), (6, .int (m9 b 15)), (5, .int r10), (4, .int (m2 b 12)), (0, .ref b), (1, .int x1), (2, .int x2)] [] (sh, ta, m17)
      refine WP.iload_n 0 dX5_gainAt_70 rfl rfl ?_
      exact WP.iret dX5_gainAt_71 rfl (Nat.le_refl _) (Nat.le_refl _) ⟨_, rfl, h⟩
    · have h := h.2 c7
      refine WP.iload_n 0 dX5_gainAt_28 rfl rfl ?_
      exact WP.iret dX5_gainAt_29 rfl (Nat.le_refl _) (Nat.le_refl _) ⟨_, rfl, h⟩
  · have h := h.2 c6
    refine WP.aload_n 0 dX5_gainAt_9 rfl rfl ?_
    refine WP.aload_n 0 dX5_gainAt_10 rfl rfl ?_
    refine WP.iload_n 1 dX5_gainAt_11 rfl rfl ?_
    refine WP.callV (y := mX0_top) (As := [.int x1]) (st := [.ref b]) dX5_gainAt_12 wm_X5_158 mw_X0_top rfl (Nat.le_of_ble_eq_true rfl) (rmok d) h5 (by decide) rfl h (fun v20 Sm21 h23 => ?_)
    obtain ⟨m21, rfl, r22, rfl, h⟩ := h23
    show WP G _ _ _ 0 0 15 [(0, .ref b), (1, .int x1), (2, .int x2)] [.int r22, .ref b] (sh, ta, m21)
    refine WP.callV (y := mX0_likes) (As := [.int r22]) (st := []) dX5_gainAt_15 wm_X5_126 mw_X0_likes rfl (Nat.le_of_ble_eq_true rfl) (rmok d) h5 (by decide) rfl h (fun v24 Sm25 h27 => ?_)
    obtain ⟨m25, rfl, r26, rfl, h⟩ := h27
    show WP G _ _ _ 0 0 18 [(0, .ref b), (1, .int x1), (2, .int x2)] [.int r26] (sh, ta, m25)
    refine WP.goto (tgt := 22) dX5_gainAt_18 (by decide) ?_
    refine WP.istore_n (lv2 := [(3, .int r26), (0, .ref b), (1, .int x1), (2, .int x2)]) dX5_gainAt_22 rfl (by decide) rfl ?_
    refine WP.iload_n 3 dX5_gainAt_23 rfl rfl ?_
    refine WP.iconst (v := 1) dX5_gainAt_24 rfl ?_
    refine WP.icmp_gt (tgt := 30) dX5_gainAt_25 (by decide) (fun c28 => ?_) (fun c28 => ?_)
    · have h := h.1 c28
      refine WP.aload_n 1 dX5_gainAt_30 rfl rfl ?_
      refine WP.getIN 0 12 wf_X5_152 (by decide) (by decide) rfl h5 dX5_gainAt_31 ?_
      refine WP.istore (lv2 := [(4, .int (m25 b 12)), (3, .int r26), (0, .ref b), (1, .int x1), (2, .int x2)]) dX5_gainAt_34 (by decide) rfl ?_
      refine WP.aload_n 2 dX5_gainAt_36 rfl rfl ?_
      refine WP.iload_n 3 dX5_gainAt_37 rfl rfl ?_
      refine WP.callV (y := mX0_grip) (As := [.int x1]) (st := []) dX5_gainAt_38 wm_X5_197 mw_X0_grip rfl (Nat.le_of_ble_eq_true rfl) (rmok d) h5 (by decide) rfl h (fun v29 Sm30 h32 => ?_)
      obtain ⟨m30, rfl, r31, rfl, h⟩ := h32
      show WP G _ _ _ 0 0 41 [(4, .int (m25 b 12)), (3, .int r26), (0, .ref b), (1, .int x1), (2, .int x2)] [.int r31] (sh, ta, m30)
      refine WP.istore (lv2 := [(5, .int r31), (4, .int (m25 b 12)), (3, .int r26), (0, .ref b), (1, .int x1), (2, .int x2)]) dX5_gainAt_41 (by decide) rfl ?_
      refine WP.aload_n 3 dX5_gainAt_43 rfl rfl ?_
      refine WP.getIN 0 15 wf_X5_200 (by decide) (by decide) rfl h5 dX5_gainAt_44 ?_
      refine WP.istore (lv2 := [(6, .int (m30 b 15)), (5, .int r31), (4, .int (m25 b 12)), (3, .int r26), (0, .ref b), (1, .int x1), (2, .int x2)]) dX5_gainAt_47 (by decide) rfl ?_
      refine WP.iload_n 3 dX5_gainAt_49 rfl rfl ?_
      refine WP.aload_n 4 dX5_gainAt_50 rfl rfl ?_
      refine WP.iload_n 6 dX5_gainAt_51 rfl rfl ?_
      refine WP.iconst (v := 1) dX5_gainAt_52 rfl ?_
      refine WP.isub dX5_gainAt_53 ?_
      refine WP.callS (y := mX5_bestGain) (As := [.ref b, .int (x2 - 1)]) (st := [.int r26]) dX5_gainAt_54 wm_X5_325 mw_X5_bestGain rfl (Nat.le_of_ble_eq_true rfl) (rmok d) rfl h (fun v33 Sm34 h36 => ?_)
      obtain ⟨m34, rfl, r35, rfl, h⟩ := h36
      show WP G _ _ _ 0 0 57 [(6, .int (m30 b 15)), (5, .int r31), (4, .int (m25 b 12)), (3, .int r26), (0, .ref b), (1, .int x1), (2, .int x2)] [.int r35, .int r26] (sh, ta, m34)
      refine WP.isub dX5_gainAt_57 ?_
      refine WP.istore_n (lv2 := [(3, .int (r26 - r35)), (6, .int (m30 b 15)), (5, .int r31), (4, .int (m25 b 12)), (0, .ref b), (1, .int x1), (2, .int x2)]) dX5_gainAt_58 rfl (by decide) rfl ?_
      refine WP.aload_n 4 dX5_gainAt_59 rfl rfl ?_
      refine WP.iload_n 5 dX5_gainAt_60 rfl rfl ?_
      refine WP.iload 2 dX5_gainAt_61 rfl ?_
      refine WP.iload 1 dX5_gainAt_63 rfl ?_
      refine WP.iload 3 dX5_gainAt_65 rfl ?_
      refine WP.callV (y := mX0_takeBack) (As := [.int x1, .int r31, .int (m30 b 15), .int (m25 b 12)]) (st := []) dX5_gainAt_67 wm_X5_321 mw_X0_takeBack rfl (Nat.le_of_ble_eq_true rfl) (rmok d) h5 (by decide) rfl h (fun v37 Sm38 h40 => ?_)
      obtain ⟨m38, rfl, rfl, h⟩ := h40
      show WP G _ _ _ 0 0 70 [(3, .int (r26 - r35)), (6, .int (m30 b 15)), (5, .int r31), (4, .int (m25 b 12)), (0, .ref b), (1, .int x1), (2, .int x2)] [] (sh, ta, m38)
      refine WP.iload_n 0 dX5_gainAt_70 rfl rfl ?_
      exact WP.iret dX5_gainAt_71 rfl (Nat.le_refl _) (Nat.le_refl _) ⟨_, rfl, h⟩
    · have h := h.2 c28
      refine WP.iload_n 0 dX5_gainAt_28 rfl rfl ?_
      exact WP.iret dX5_gainAt_29 rfl (Nat.le_refl _) (Nat.le_refl _) ⟨_, rfl, h⟩
set_option maxHeartbeats 4000000 in
set_option maxRecDepth 20000 in
theorem rg_X5_bestGain_0 (hG : fl G = false) (b : Nat) (x1 : Int32) (h : Cal G mX5_gainAt d [.ref b, .int 1, .int x1] sh ta m (fun v1 m2 => ∃ r3, v1 = some (.int r3) ∧ WP G (rmD (d + 1) 0 0) mX5_bestGain (QC G sh ta K) 0 0 9 [(0, .ref b), (1, .int x1), (2, .int r3), (3, .int 2)] [] (sh, ta, m2))) : WP G (rmD (d + 1) 0 0) mX5_bestGain (QC G sh ta K) 0 0 0 [(0, .ref b), (1, .int x1)] [] (sh, ta, m) := by
  refine WP.aload_n 0 dX5_bestGain_0 rfl rfl ?_
  refine WP.iconst (v := 1) dX5_bestGain_1 rfl ?_
  refine WP.iload_n 1 dX5_bestGain_2 rfl rfl ?_
  refine WP.callS (y := mX5_gainAt) (As := [.ref b, .int 1, .int x1]) (st := []) dX5_bestGain_3 wm_X5_234 mw_X5_gainAt rfl (Nat.le_of_ble_eq_true rfl) (rmok d) rfl h (fun v1 Sm2 h4 => ?_)
  obtain ⟨m2, rfl, r3, rfl, h⟩ := h4
  show WP G _ _ _ 0 0 6 [(0, .ref b), (1, .int x1)] [.int r3] (sh, ta, m2)
  refine WP.istore_n (lv2 := [(2, .int r3), (0, .ref b), (1, .int x1)]) dX5_bestGain_6 rfl (by decide) rfl ?_
  refine WP.iconst (v := 2) dX5_bestGain_7 rfl ?_
  refine WP.istore_n (lv2 := [(3, .int 2), (2, .int r3), (0, .ref b), (1, .int x1)]) dX5_bestGain_8 rfl (by decide) rfl ?_
  exact WP.pick [2, 3, 1, 0] rfl h
set_option maxHeartbeats 4000000 in
set_option maxRecDepth 20000 in
theorem rg_X5_bestGain_9 (hG : fl G = false) (b : Nat) (x1 : Int32) (x2 : Int32) (x3 : Int32) (h : (((16 : Int32) ≤ x3 → K (some (.int x2)) m) ∧ (¬ (16 : Int32) ≤ x3 → Cal G mX5_isLikeOneAhead d [.ref b, .int x3] sh ta m (fun v2 m3 => ∃ r4, v2 = some (.int r4) ∧ ((¬ r4 = 0 → WP G (rmD (d + 1) 0 0) mX5_bestGain (QC G sh ta K) 0 0 9 [(0, .ref b), (1, .int x1), (2, .int x2), (3, .int (x3 + 1))] [] (sh, ta, m3)) ∧ (r4 = 0 → Cal G mX5_gainAt d [.ref b, .int x3, .int x1] sh ta m3 (fun v7 m8 => ∃ r9, v7 = some (.int r9) ∧ WP G (rmD (d + 1) 0 0) mX5_bestGain (QC G sh ta K) 0 0 9 [(0, .ref b), (1, .int x1), (2, .int (if x2 < r9 then r9 else x2)), (3, .int (x3 + 1))] [] (sh, ta, m8)))))))) : WP G (rmD (d + 1) 0 0) mX5_bestGain (QC G sh ta K) 0 0 9 [(0, .ref b), (1, .int x1), (2, .int x2), (3, .int x3)] [] (sh, ta, m) := by
  refine WP.iload_n 3 dX5_bestGain_9 rfl rfl ?_
  refine WP.bipush (v := 16) dX5_bestGain_10 rfl ?_
  refine WP.icmp_ge (tgt := 40) dX5_bestGain_12 (by decide) (fun c1 => ?_) (fun c1 => ?_)
  · have h := h.1 c1
    refine WP.iload_n 2 dX5_bestGain_40 rfl rfl ?_
    exact WP.iret dX5_bestGain_41 rfl (Nat.le_refl _) (Nat.le_refl _) ⟨_, rfl, h⟩
  · have h := h.2 c1
    refine WP.aload_n 0 dX5_bestGain_15 rfl rfl ?_
    refine WP.iload_n 3 dX5_bestGain_16 rfl rfl ?_
    refine WP.callS (y := mX5_isLikeOneAhead) (As := [.ref b, .int x3]) (st := []) dX5_bestGain_17 wm_X5_230 mw_X5_isLikeOneAhead rfl (Nat.le_of_ble_eq_true rfl) (rmok d) rfl h (fun v2 Sm3 h5 => ?_)
    obtain ⟨m3, rfl, r4, rfl, h⟩ := h5
    show WP G _ _ _ 0 0 20 [(0, .ref b), (1, .int x1), (2, .int x2), (3, .int x3)] [.int r4] (sh, ta, m3)
    refine WP.if_ne (tgt := 34) dX5_bestGain_20 (by decide) (fun c6 => ?_) (fun c6 => ?_)
    · have h := h.1 c6
      refine WP.iinc (lv2 := [(3, .int (x3 + 1)), (0, .ref b), (1, .int x1), (2, .int x2)]) 3 1 dX5_bestGain_34 rfl rfl (by decide) rfl ?_
      refine WP.goto (tgt := 9) dX5_bestGain_37 (by decide) ?_
      exact WP.pick [1, 2, 3, 0] rfl h
    · have h := h.2 c6
      refine WP.iload_n 2 dX5_bestGain_23 rfl rfl ?_
      refine WP.aload_n 0 dX5_bestGain_24 rfl rfl ?_
      refine WP.iload_n 3 dX5_bestGain_25 rfl rfl ?_
      refine WP.iload_n 1 dX5_bestGain_26 rfl rfl ?_
      refine WP.callS (y := mX5_gainAt) (As := [.ref b, .int x3, .int x1]) (st := [.int x2]) dX5_bestGain_27 wm_X5_234 mw_X5_gainAt rfl (Nat.le_of_ble_eq_true rfl) (rmok d) rfl h (fun v7 Sm8 h10 => ?_)
      obtain ⟨m8, rfl, r9, rfl, h⟩ := h10
      show WP G _ _ _ 0 0 30 [(0, .ref b), (1, .int x1), (2, .int x2), (3, .int x3)] [.int r9, .int x2] (sh, ta, m8)
      refine WP.mmax wm_X5_253 (Nat.le_of_ble_eq_true rfl) (rmok0 d) dX5_bestGain_30 ?_
      refine WP.istore_n (lv2 := [(2, .int (if x2 < r9 then r9 else x2)), (0, .ref b), (1, .int x1), (3, .int x3)]) dX5_bestGain_33 rfl (by decide) rfl ?_
      refine WP.iinc (lv2 := [(3, .int (x3 + 1)), (2, .int (if x2 < r9 then r9 else x2)), (0, .ref b), (1, .int x1)]) 3 1 dX5_bestGain_34 rfl rfl (by decide) rfl ?_
      refine WP.goto (tgt := 9) dX5_bestGain_37 (by decide) ?_
      exact WP.pick [2, 3, 1, 0] rfl h
set_option maxHeartbeats 4000000 in
set_option maxRecDepth 20000 in
theorem rg_X5_haulOf_0 (hG : fl G = false) (b : Nat) (b1 : Nat) (h : Cal G mX5_pullsIn d [.ref b1] sh ta m (fun v1 m2 => ∃ r3, v1 = some (.int r3) ∧ WP G (rmD (d + 1) 0 0) mX5_haulOf (QC G sh ta K) 0 0 10 [(0, .ref b), (1, .ref b1), (2, .int r3), (3, .int 0), (4, .int 0)] [] (sh, ta, m2))) : WP G (rmD (d + 1) 0 0) mX5_haulOf (QC G sh ta K) 0 0 0 [(0, .ref b), (1, .ref b1)] [] (sh, ta, m) := by
  refine WP.aload_n 1 dX5_haulOf_0 rfl rfl ?_
  refine WP.callS (y := mX5_pullsIn) (As := [.ref b1]) (st := []) dX5_haulOf_1 wm_X5_206 mw_X5_pullsIn rfl (Nat.le_of_ble_eq_true rfl) (rmok d) rfl h (fun v1 Sm2 h4 => ?_)
  obtain ⟨m2, rfl, r3, rfl, h⟩ := h4
  show WP G _ _ _ 0 0 4 [(0, .ref b), (1, .ref b1)] [.int r3] (sh, ta, m2)
  refine WP.istore_n (lv2 := [(2, .int r3), (0, .ref b), (1, .ref b1)]) dX5_haulOf_4 rfl (by decide) rfl ?_
  refine WP.iconst (v := 0) dX5_haulOf_5 rfl ?_
  refine WP.istore_n (lv2 := [(3, .int 0), (2, .int r3), (0, .ref b), (1, .ref b1)]) dX5_haulOf_6 rfl (by decide) rfl ?_
  refine WP.iconst (v := 0) dX5_haulOf_7 rfl ?_
  refine WP.istore (lv2 := [(4, .int 0), (3, .int 0), (2, .int r3), (0, .ref b), (1, .ref b1)]) dX5_haulOf_8 (by decide) rfl ?_
  exact WP.pick [3, 4, 2, 1, 0] rfl h
set_option maxHeartbeats 4000000 in
set_option maxRecDepth 20000 in
theorem rg_X5_haulOf_10 (hG : fl G = false) (b : Nat) (b1 : Nat) (x2 : Int32) (x3 : Int32) (x4 : Int32) (h : ((x2 ≤ x4 → K (some (.int x3)) m) ∧ (¬ x2 ≤ x4 → sh[b1]? = some (.inl 2) ∧ Cal G mX2_at d [.ref b1, .int x4] sh ta m (fun v2 m3 => ∃ r4, v2 = some (.int r4) ∧ sh[b]? = some (.inl 0) ∧ Cal G mX0_grip d [.ref b, .int r4] sh ta m3 (fun v7 m8 => ∃ r9, v7 = some (.int r9) ∧ ((¬ r9 = (2 : Int32) → WP G (rmD (d + 1) 0 0) mX5_haulOf (QC G sh ta K) 0 0 10 [(0, .ref b), (1, .ref b1), (2, .int x2), (3, .int x3), (4, .int (x4 + 1))] [] (sh, ta, m8)) ∧ (r9 = (2 : Int32) → Cal G mX0_likes d [.ref b, .int (m8 b 15)] sh ta m8 (fun v13 m14 => ∃ r15, v13 = some (.int r15) ∧ WP G (rmD (d + 1) 0 0) mX5_haulOf (QC G sh ta K) 0 0 10 [(0, .ref b), (1, .ref b1), (2, .int x2), (3, .int (x3 + r15)), (4, .int (x4 + 1))] [] (sh, ta, m14))))))))) : WP G (rmD (d + 1) 0 0) mX5_haulOf (QC G sh ta K) 0 0 10 [(0, .ref b), (1, .ref b1), (2, .int x2), (3, .int x3), (4, .int x4)] [] (sh, ta, m) := by
  refine WP.iload 4 dX5_haulOf_10 rfl ?_
  refine WP.iload_n 2 dX5_haulOf_12 rfl rfl ?_
  refine WP.icmp_ge (tgt := 47) dX5_haulOf_13 (by decide) (fun c1 => ?_) (fun c1 => ?_)
  · have h := h.1 c1
    refine WP.iload_n 3 dX5_haulOf_47 rfl rfl ?_
    exact WP.iret dX5_haulOf_48 rfl (Nat.le_refl _) (Nat.le_refl _) ⟨_, rfl, h⟩
  · have h := h.2 c1
    refine WP.aload_n 0 dX5_haulOf_16 rfl rfl ?_
    refine WP.aload_n 1 dX5_haulOf_17 rfl rfl ?_
    refine WP.iload 4 dX5_haulOf_18 rfl ?_
    obtain ⟨h6, h⟩ := h
    refine WP.callV (y := mX2_at) (As := [.int x4]) (st := [.ref b]) dX5_haulOf_20 wm_X5_210 mw_X2_at rfl (Nat.le_of_ble_eq_true rfl) (rmok d) h6 (by decide) rfl h (fun v2 Sm3 h5 => ?_)
    obtain ⟨m3, rfl, r4, rfl, h⟩ := h5
    show WP G _ _ _ 0 0 23 [(0, .ref b), (1, .ref b1), (2, .int x2), (3, .int x3), (4, .int x4)] [.int r4, .ref b] (sh, ta, m3)
    obtain ⟨h11, h⟩ := h
    refine WP.callV (y := mX0_grip) (As := [.int r4]) (st := []) dX5_haulOf_23 wm_X5_197 mw_X0_grip rfl (Nat.le_of_ble_eq_true rfl) (rmok d) h11 (by decide) rfl h (fun v7 Sm8 h10 => ?_)
    obtain ⟨m8, rfl, r9, rfl, h⟩ := h10
    show WP G _ _ _ 0 0 26 [(0, .ref b), (1, .ref b1), (2, .int x2), (3, .int x3), (4, .int x4)] [.int r9] (sh, ta, m8)
    refine WP.iconst (v := 2) dX5_haulOf_26 rfl ?_
    refine WP.icmp_ne (tgt := 41) dX5_haulOf_27 (by decide) (fun c12 => ?_) (fun c12 => ?_)
    · have h := h.1 c12
      refine WP.iinc (lv2 := [(4, .int (x4 + 1)), (0, .ref b), (1, .ref b1), (2, .int x2), (3, .int x3)]) 4 1 dX5_haulOf_41 rfl rfl (by decide) rfl ?_
      refine WP.goto (tgt := 10) dX5_haulOf_44 (by decide) ?_
      exact WP.pick [1, 2, 3, 4, 0] rfl h
    · have h := h.2 c12
      refine WP.iload_n 3 dX5_haulOf_30 rfl rfl ?_
      refine WP.aload_n 0 dX5_haulOf_31 rfl rfl ?_
      refine WP.aload_n 0 dX5_haulOf_32 rfl rfl ?_
      refine WP.getIN 0 15 wf_X5_200 (by decide) (by decide) rfl h11 dX5_haulOf_33 ?_
      refine WP.callV (y := mX0_likes) (As := [.int (m8 b 15)]) (st := [.int x3]) dX5_haulOf_36 wm_X5_126 mw_X0_likes rfl (Nat.le_of_ble_eq_true rfl) (rmok d) h11 (by decide) rfl h (fun v13 Sm14 h16 => ?_)
      obtain ⟨m14, rfl, r15, rfl, h⟩ := h16
      show WP G _ _ _ 0 0 39 [(0, .ref b), (1, .ref b1), (2, .int x2), (3, .int x3), (4, .int x4)] [.int r15, .int x3] (sh, ta, m14)
      refine WP.iadd dX5_haulOf_39 ?_
      refine WP.istore_n (lv2 := [(3, .int (x3 + r15)), (0, .ref b), (1, .ref b1), (2, .int x2), (4, .int x4)]) dX5_haulOf_40 rfl (by decide) rfl ?_
      refine WP.iinc (lv2 := [(4, .int (x4 + 1)), (3, .int (x3 + r15)), (0, .ref b), (1, .ref b1), (2, .int x2)]) 4 1 dX5_haulOf_41 rfl rfl (by decide) rfl ?_
      refine WP.goto (tgt := 10) dX5_haulOf_44 (by decide) ?_
      exact WP.pick [2, 3, 4, 1, 0] rfl h
set_option maxHeartbeats 4000000 in
set_option maxRecDepth 20000 in
theorem rg_X5_fits_0 (hG : fl G = false) (b : Nat) (x1 : Int32) (x2 : Int32) (h : WP G (rmD (d + 1) 0 0) mX5_fits (QC G sh ta K) 0 0 2 [(0, .ref b), (1, .int x1), (2, .int x2), (3, .int 0)] [] (sh, ta, m)) : WP G (rmD (d + 1) 0 0) mX5_fits (QC G sh ta K) 0 0 0 [(0, .ref b), (1, .int x1), (2, .int x2)] [] (sh, ta, m) := by
  refine WP.iconst (v := 0) dX5_fits_0 rfl ?_
  refine WP.istore_n (lv2 := [(3, .int 0), (0, .ref b), (1, .int x1), (2, .int x2)]) dX5_fits_1 rfl (by decide) rfl ?_
  exact WP.pick [1, 2, 3, 0] rfl h
set_option maxHeartbeats 4000000 in
set_option maxRecDepth 20000 in
theorem rg_X5_fits_2 (hG : fl G = false) (b : Nat) (x1 : Int32) (x2 : Int32) (x3 : Int32) (h : sh[b]? = some (.inl 2) ∧ (((m b 1) ≤ (x3 + 1) → K (some (.int 1)) m) ∧ (¬ (m b 1) ≤ (x3 + 1) → ¬ (2 : Int32) = 0 ∧ Cal G mX5_strengthAt d [.int x1, .int x2, .int (x3 / 2)] sh ta m (fun v4 m5 => ∃ r6, v4 = some (.int r6) ∧ Cal G mX2_at d [.ref b, .int (x3 + 1)] sh ta m5 (fun v8 m9 => ∃ r10, v8 = some (.int r10) ∧ Cal G mX2_at d [.ref b, .int x3] sh ta m9 (fun v12 m13 => ∃ r14, v12 = some (.int r14) ∧ Cal G mX5_holdBy d [.int r6, .int r14] sh ta m13 (fun v16 m17 => ∃ r18, v16 = some (.int r18) ∧ ((r10 = r18 → WP G (rmD (d + 1) 0 0) mX5_fits (QC G sh ta K) 0 0 2 [(0, .ref b), (1, .int x1), (2, .int x2), (3, .int (x3 + 2))] [] (sh, ta, m17)) ∧ (¬ r10 = r18 → K (some (.int 0)) m17))))))))) : WP G (rmD (d + 1) 0 0) mX5_fits (QC G sh ta K) 0 0 2 [(0, .ref b), (1, .int x1), (2, .int x2), (3, .int x3)] [] (sh, ta, m) := by
  refine WP.iload_n 3 dX5_fits_2 rfl rfl ?_
  refine WP.iconst (v := 1) dX5_fits_3 rfl ?_
  refine WP.iadd dX5_fits_4 ?_
  refine WP.aload_n 0 dX5_fits_5 rfl rfl ?_
  obtain ⟨h1, h⟩ := h
  refine WP.getIN 2 1 wf_X5_168 (by decide) (by decide) rfl h1 dX5_fits_6 ?_
  refine WP.icmp_ge (tgt := 50) dX5_fits_9 (by decide) (fun c2 => ?_) (fun c2 => ?_)
  · have h := h.1 c2
    refine WP.iconst (v := 1) dX5_fits_50 rfl ?_
    exact WP.zret dX5_fits_51 rfl (Nat.le_refl _) (Nat.le_refl _) rfl ⟨_, rfl, h⟩
  · have h := h.2 c2
    refine WP.iload_n 1 dX5_fits_12 rfl rfl ?_
    refine WP.iload_n 2 dX5_fits_13 rfl rfl ?_
    refine WP.iload_n 3 dX5_fits_14 rfl rfl ?_
    refine WP.iconst (v := 2) dX5_fits_15 rfl ?_
    obtain ⟨h3, h⟩ := h
    refine WP.idiv dX5_fits_16 h3 ?_
    refine WP.callS (y := mX5_strengthAt) (As := [.int x1, .int x2, .int (x3 / 2)]) (st := []) dX5_fits_17 wm_X5_329 mw_X5_strengthAt rfl (Nat.le_of_ble_eq_true rfl) (rmok d) rfl h (fun v4 Sm5 h7 => ?_)
    obtain ⟨m5, rfl, r6, rfl, h⟩ := h7
    show WP G _ _ _ 0 0 20 [(0, .ref b), (1, .int x1), (2, .int x2), (3, .int x3)] [.int r6] (sh, ta, m5)
    refine WP.istore (lv2 := [(4, .int r6), (0, .ref b), (1, .int x1), (2, .int x2), (3, .int x3)]) dX5_fits_20 (by decide) rfl ?_
    refine WP.aload_n 1 dX5_fits_22 rfl rfl ?_
    refine WP.iload_n 4 dX5_fits_23 rfl rfl ?_
    refine WP.iconst (v := 1) dX5_fits_24 rfl ?_
    refine WP.iadd dX5_fits_25 ?_
    refine WP.callV (y := mX2_at) (As := [.int (x3 + 1)]) (st := []) dX5_fits_26 wm_X5_210 mw_X2_at rfl (Nat.le_of_ble_eq_true rfl) (rmok d) h1 (by decide) rfl h (fun v8 Sm9 h11 => ?_)
    obtain ⟨m9, rfl, r10, rfl, h⟩ := h11
    show WP G _ _ _ 0 0 29 [(4, .int r6), (0, .ref b), (1, .int x1), (2, .int x2), (3, .int x3)] [.int r10] (sh, ta, m9)
    refine WP.iload 0 dX5_fits_29 rfl ?_
    refine WP.aload_n 1 dX5_fits_31 rfl rfl ?_
    refine WP.iload_n 4 dX5_fits_32 rfl rfl ?_
    refine WP.callV (y := mX2_at) (As := [.int x3]) (st := [.int r6, .int r10]) dX5_fits_33 wm_X5_210 mw_X2_at rfl (Nat.le_of_ble_eq_true rfl) (rmok d) h1 (by decide) rfl h (fun v12 Sm13 h15 => ?_)
    obtain ⟨m13, rfl, r14, rfl, h⟩ := h15
    show WP G _ _ _ 0 0 36 [(4, .int r6), (0, .ref b), (1, .int x1), (2, .int x2), (3, .int x3)] [.int r14, .int r6, .int r10] (sh, ta, m13)
    refine WP.callS (y := mX5_holdBy) (As := [.int r6, .int r14]) (st := [.int r10]) dX5_fits_36 wm_X5_332 mw_X5_holdBy rfl (Nat.le_of_ble_eq_true rfl) (rmok d) rfl h (fun v16 Sm17 h19 => ?_)
    obtain ⟨m17, rfl, r18, rfl, h⟩ := h19
    show WP G _ _ _ 0 0 39 [(4, .int r6), (0, .ref b), (1, .int x1), (2, .int x2), (3, .int x3)] [.int r18, .int r10] (sh, ta, m17)
    refine WP.icmp_eq (tgt := 44) dX5_fits_39 (by decide) (fun c20 => ?_) (fun c20 => ?_)
    · have h := h.1 c20
      refine WP.iinc (lv2 := [(3, .int (x3 + 2)), (4, .int r6), (0, .ref b), (1, .int x1), (2, .int x2)]) 4 2 dX5_fits_44 rfl rfl (by decide) rfl ?_
      refine WP.goto (tgt := 2) dX5_fits_47 (by decide) ?_
      exact WP.pick [2, 3, 4, 0] rfl h
    · have h := h.2 c20
      refine WP.iconst (v := 0) dX5_fits_42 rfl ?_
      exact WP.zret dX5_fits_43 rfl (Nat.le_refl _) (Nat.le_refl _) rfl ⟨_, rfl, h⟩
set_option maxHeartbeats 4000000 in
set_option maxRecDepth 20000 in
theorem rg_X5_strengthAt_0 (hG : fl G = false) (x0 : Int32) (x1 : Int32) (x2 : Int32) (h : K (some (.int (if (0 : Int32) < (x0 - (x2 * x1)) then (x0 - (x2 * x1)) else (0 : Int32)))) m) : WP G (rmD (d + 1) 0 0) mX5_strengthAt (QC G sh ta K) 0 0 0 [(0, .int x0), (1, .int x1), (2, .int x2)] [] (sh, ta, m) := by
  refine WP.iconst (v := 0) dX5_strengthAt_0 rfl ?_
  refine WP.iload_n 0 dX5_strengthAt_1 rfl rfl ?_
  refine WP.iload_n 2 dX5_strengthAt_2 rfl rfl ?_
  refine WP.iload_n 1 dX5_strengthAt_3 rfl rfl ?_
  refine WP.imul dX5_strengthAt_4 ?_
  refine WP.isub dX5_strengthAt_5 ?_
  refine WP.mmax wm_X5_253 (Nat.le_of_ble_eq_true rfl) (rmok0 d) dX5_strengthAt_6 ?_
  exact WP.iret dX5_strengthAt_9 rfl (Nat.le_refl _) (Nat.le_refl _) ⟨_, rfl, h⟩
set_option maxHeartbeats 4000000 in
set_option maxRecDepth 20000 in
theorem rg_X5_holdBy_0 (hG : fl G = false) (x0 : Int32) (x1 : Int32) (h : ((x0 < x1 → (((2 * x0) < x1 → K (some (.int 0)) m) ∧ (¬ (2 * x0) < x1 → K (some (.int 1)) m))) ∧ (¬ x0 < x1 → K (some (.int 2)) m))) : WP G (rmD (d + 1) 0 0) mX5_holdBy (QC G sh ta K) 0 0 0 [(0, .int x0), (1, .int x1)] [] (sh, ta, m) := by
  refine WP.iload_n 0 dX5_holdBy_0 rfl rfl ?_
  refine WP.iload_n 1 dX5_holdBy_1 rfl rfl ?_
  refine WP.icmp_lt (tgt := 7) dX5_holdBy_2 (by decide) (fun c1 => ?_) (fun c1 => ?_)
  · have h := h.1 c1
    refine WP.iconst (v := 2) dX5_holdBy_7 rfl ?_
    refine WP.iload_n 0 dX5_holdBy_8 rfl rfl ?_
    refine WP.imul dX5_holdBy_9 ?_
    refine WP.iload_n 1 dX5_holdBy_10 rfl rfl ?_
    refine WP.icmp_lt (tgt := 18) dX5_holdBy_11 (by decide) (fun c2 => ?_) (fun c2 => ?_)
    · have h := h.1 c2
      refine WP.iconst (v := 0) dX5_holdBy_18 rfl ?_
      exact WP.iret dX5_holdBy_19 rfl (Nat.le_refl _) (Nat.le_refl _) ⟨_, rfl, h⟩
    · have h := h.2 c2
      refine WP.iconst (v := 1) dX5_holdBy_14 rfl ?_
      refine WP.goto (tgt := 19) dX5_holdBy_15 (by decide) ?_
      exact WP.iret dX5_holdBy_19 rfl (Nat.le_refl _) (Nat.le_refl _) ⟨_, rfl, h⟩
  · have h := h.2 c1
    refine WP.iconst (v := 2) dX5_holdBy_5 rfl ?_
    exact WP.iret dX5_holdBy_6 rfl (Nat.le_refl _) (Nat.le_refl _) ⟨_, rfl, h⟩
set_option maxHeartbeats 4000000 in
set_option maxRecDepth 20000 in
theorem rg_X5_casesOf_0 (hG : fl G = false) (b : Nat) (b1 : Nat) (x2 : Int32) (h : sh[b1]? = some (.inl 2) ∧ Cal G mX2_at d [.ref b1, .int x2] sh ta m (fun v1 m2 => ∃ r3, v1 = some (.int r3) ∧ WP G (rmD (d + 1) 0 0) mX5_casesOf (QC G sh ta K) 0 0 12 [(0, .ref b), (1, .ref b1), (2, .int x2), (3, .int r3), (4, .int 0), (5, .int 0)] [] (sh, ta, m2))) : WP G (rmD (d + 1) 0 0) mX5_casesOf (QC G sh ta K) 0 0 0 [(0, .ref b), (1, .ref b1), (2, .int x2)] [] (sh, ta, m) := by
  refine WP.aload_n 1 dX5_casesOf_0 rfl rfl ?_
  refine WP.iload_n 2 dX5_casesOf_1 rfl rfl ?_
  obtain ⟨h5, h⟩ := h
  refine WP.callV (y := mX2_at) (As := [.int x2]) (st := []) dX5_casesOf_2 wm_X5_210 mw_X2_at rfl (Nat.le_of_ble_eq_true rfl) (rmok d) h5 (by decide) rfl h (fun v1 Sm2 h4 => ?_)
  obtain ⟨m2, rfl, r3, rfl, h⟩ := h4
  show WP G _ _ _ 0 0 5 [(0, .ref b), (1, .ref b1), (2, .int x2)] [.int r3] (sh, ta, m2)
  refine WP.istore_n (lv2 := [(3, .int r3), (0, .ref b), (1, .ref b1), (2, .int x2)]) dX5_casesOf_5 rfl (by decide) rfl ?_
  refine WP.iconst (v := 0) dX5_casesOf_6 rfl ?_
  refine WP.istore (lv2 := [(4, .int 0), (3, .int r3), (0, .ref b), (1, .ref b1), (2, .int x2)]) dX5_casesOf_7 (by decide) rfl ?_
  refine WP.iconst (v := 0) dX5_casesOf_9 rfl ?_
  refine WP.istore (lv2 := [(5, .int 0), (4, .int 0), (3, .int r3), (0, .ref b), (1, .ref b1), (2, .int x2)]) dX5_casesOf_10 (by decide) rfl ?_
  exact WP.pick [3, 4, 5, 2, 1, 0] rfl h
set_option maxHeartbeats 4000000 in
set_option maxRecDepth 20000 in
theorem rg_X5_casesOf_12 (hG : fl G = false) (b : Nat) (b1 : Nat) (x2 : Int32) (x3 : Int32) (x4 : Int32) (x5 : Int32) (h : ((x2 ≤ x5 → sh[b]? = some (.inl 5) ∧ ∃ i3, ta b 0 = some i3 ∧ sh[i3]? = some (.inl 0) ∧ Cal G mX0_highOf d [.ref i3, .int x3] sh ta m (fun v5 m6 => ∃ r7, v5 = some (.int r7) ∧ Cal G mX0_thingAt d [.ref i3, .int x3, .int ((r7 - 1) - x4)] sh ta m6 (fun v10 m11 => ∃ r12, v10 = some (.int r12) ∧ ((0 ≤ r12 → Cal G mX5_strengthAt d [.int (m11 i3 10), .int (m11 i3 11), .int (if ((m11 i3 12) + x2) < (9999 : Int32) then ((m11 i3 12) + x2) else (9999 : Int32))] sh ta m11 (fun v15 m16 => ∃ r17, v15 = some (.int r17) ∧ Cal G mX0_needs d [.ref i3, .int r12] sh ta m16 (fun v19 m20 => ∃ r21, v19 = some (.int r21) ∧ ((r21 ≤ 0 → K (some (.int 16)) m20) ∧ (¬ r21 ≤ 0 → ¬ (r21 : Int32) = 0 ∧ K (some (.int (if ((r17 * 16) / r21) < (16 : Int32) then ((r17 * 16) / r21) else (16 : Int32)))) m20))))) ∧ (¬ 0 ≤ r12 → K (some (.int 0)) m11))))) ∧ (¬ x2 ≤ x5 → sh[b1]? = some (.inl 2) ∧ Cal G mX2_at d [.ref b1, .int x5] sh ta m (fun v25 m26 => ∃ r27, v25 = some (.int r27) ∧ ((¬ r27 = x3 → WP G (rmD (d + 1) 0 0) mX5_casesOf (QC G sh ta K) 0 0 12 [(0, .ref b), (1, .ref b1), (2, .int x2), (3, .int x3), (4, .int x4), (5, .int (x5 + 1))] [] (sh, ta, m26)) ∧ (r27 = x3 → WP G (rmD (d + 1) 0 0) mX5_casesOf (QC G sh ta K) 0 0 12 [(0, .ref b), (1, .ref b1), (2, .int x2), (3, .int x3), (4, .int (x4 + 1)), (5, .int (x5 + 1))] [] (sh, ta, m26))))))) : WP G (rmD (d + 1) 0 0) mX5_casesOf (QC G sh ta K) 0 0 12 [(0, .ref b), (1, .ref b1), (2, .int x2), (3, .int x3), (4, .int x4), (5, .int x5)] [] (sh, ta, m) := by
  refine WP.iload 5 dX5_casesOf_12 rfl ?_
  refine WP.iload_n 2 dX5_casesOf_14 rfl rfl ?_
  refine WP.icmp_ge (tgt := 37) dX5_casesOf_15 (by decide) (fun c1 => ?_) (fun c1 => ?_)
  · have h := h.1 c1
    refine WP.aload_n 0 dX5_casesOf_37 rfl rfl ?_
    obtain ⟨h2, h⟩ := h
    obtain ⟨i3, h4, h⟩ := h
    refine WP.getR 5 0 wf_X5_67 (by decide) (by decide) rfl h2 h4 dX5_casesOf_38 ?_
    refine WP.iload_n 3 dX5_casesOf_41 rfl rfl ?_
    refine WP.aload_n 0 dX5_casesOf_42 rfl rfl ?_
    refine WP.getR 5 0 wf_X5_67 (by decide) (by decide) rfl h2 h4 dX5_casesOf_43 ?_
    refine WP.iload_n 3 dX5_casesOf_46 rfl rfl ?_
    obtain ⟨h9, h⟩ := h
    refine WP.callV (y := mX0_highOf) (As := [.int x3]) (st := [.int x3, .ref i3]) dX5_casesOf_47 wm_X5_95 mw_X0_highOf rfl (Nat.le_of_ble_eq_true rfl) (rmok d) h9 (by decide) rfl h (fun v5 Sm6 h8 => ?_)
    obtain ⟨m6, rfl, r7, rfl, h⟩ := h8
    show WP G _ _ _ 0 0 50 [(0, .ref b), (1, .ref b1), (2, .int x2), (3, .int x3), (4, .int x4), (5, .int x5)] [.int r7, .int x3, .ref i3] (sh, ta, m6)
    refine WP.iconst (v := 1) dX5_casesOf_50 rfl ?_
    refine WP.isub dX5_casesOf_51 ?_
    refine WP.iload 4 dX5_casesOf_52 rfl ?_
    refine WP.isub dX5_casesOf_54 ?_
    refine WP.callV (y := mX0_thingAt) (As := [.int x3, .int ((r7 - 1) - x4)]) (st := []) dX5_casesOf_55 wm_X5_161 mw_X0_thingAt rfl (Nat.le_of_ble_eq_true rfl) (rmok d) h9 (by decide) rfl h (fun v10 Sm11 h13 => ?_)
    obtain ⟨m11, rfl, r12, rfl, h⟩ := h13
    show WP G _ _ _ 0 0 58 [(0, .ref b), (1, .ref b1), (2, .int x2), (3, .int x3), (4, .int x4), (5, .int x5)] [.int r12] (sh, ta, m11)
    refine WP.istore (lv2 := [(5, .int r12), (0, .ref b), (1, .ref b1), (2, .int x2), (3, .int x3), (4, .int x4)]) dX5_casesOf_58 (by decide) rfl ?_
    refine WP.iload 0 dX5_casesOf_60 rfl ?_
    refine WP.if_ge (tgt := 67) dX5_casesOf_62 (by decide) (fun c14 => ?_) (fun c14 => ?_)
    · have h := h.1 c14
      refine WP.aload_n 1 dX5_casesOf_67 rfl rfl ?_
      refine WP.getR 5 0 wf_X5_67 (by decide) (by decide) rfl h2 h4 dX5_casesOf_68 ?_
      refine WP.getIN 0 10 wf_X5_146 (by decide) (by decide) rfl h9 dX5_casesOf_71 ?_
      refine WP.aload_n 1 dX5_casesOf_74 rfl rfl ?_
      refine WP.getR 5 0 wf_X5_67 (by decide) (by decide) rfl h2 h4 dX5_casesOf_75 ?_
      refine WP.getIN 0 11 wf_X5_149 (by decide) (by decide) rfl h9 dX5_casesOf_78 ?_
      refine WP.sipush (v := 9999) dX5_casesOf_81 rfl ?_
      refine WP.aload_n 1 dX5_casesOf_84 rfl rfl ?_
      refine WP.getR 5 0 wf_X5_67 (by decide) (by decide) rfl h2 h4 dX5_casesOf_85 ?_
      refine WP.getIN 0 12 wf_X5_152 (by decide) (by decide) rfl h9 dX5_casesOf_88 ?_
      refine WP.iload_n 3 dX5_casesOf_91 rfl rfl ?_
      refine WP.iadd dX5_casesOf_92 ?_
      refine WP.mmin wm_X5_287 (Nat.le_of_ble_eq_true rfl) (rmok0 d) dX5_casesOf_93 ?_
      refine WP.callS (y := mX5_strengthAt) (As := [.int (m11 i3 10), .int (m11 i3 11), .int (if ((m11 i3 12) + x2) < (9999 : Int32) then ((m11 i3 12) + x2) else (9999 : Int32))]) (st := []) dX5_casesOf_96 wm_X5_329 mw_X5_strengthAt rfl (Nat.le_of_ble_eq_true rfl) (rmok d) rfl h (fun v15 Sm16 h18 => ?_)
      obtain ⟨m16, rfl, r17, rfl, h⟩ := h18
      show WP G _ _ _ 0 0 99 [(5, .int r12), (0, .ref b), (1, .ref b1), (2, .int x2), (3, .int x3), (4, .int x4)] [.int r17] (sh, ta, m16)
      refine WP.istore (lv2 := [(6, .int r17), (5, .int r12), (0, .ref b), (1, .ref b1), (2, .int x2), (3, .int x3), (4, .int x4)]) dX5_casesOf_99 (by decide) rfl ?_
      refine WP.aload_n 2 dX5_casesOf_101 rfl rfl ?_
      refine WP.getR 5 0 wf_X5_67 (by decide) (by decide) rfl h2 h4 dX5_casesOf_102 ?_
      refine WP.iload 1 dX5_casesOf_105 rfl ?_
      refine WP.callV (y := mX0_needs) (As := [.int r12]) (st := []) dX5_casesOf_107 wm_X5_123 mw_X0_needs rfl (Nat.le_of_ble_eq_true rfl) (rmok d) h9 (by decide) rfl h (fun v19 Sm20 h22 => ?_)
      obtain ⟨m20, rfl, r21, rfl, h⟩ := h22
      show WP G _ _ _ 0 0 110 [(6, .int r17), (5, .int r12), (0, .ref b), (1, .ref b1), (2, .int x2), (3, .int x3), (4, .int x4)] [.int r21] (sh, ta, m20)
      refine WP.istore (lv2 := [(7, .int r21), (6, .int r17), (5, .int r12), (0, .ref b), (1, .ref b1), (2, .int x2), (3, .int x3), (4, .int x4)]) dX5_casesOf_110 (by decide) rfl ?_
      refine WP.iload 0 dX5_casesOf_112 rfl ?_
      refine WP.if_le (tgt := 133) dX5_casesOf_114 (by decide) (fun c23 => ?_) (fun c23 => ?_)
      · have h := h.1 c23
        refine WP.bipush (v := 16) dX5_casesOf_133 rfl ?_
        exact WP.iret dX5_casesOf_135 rfl (Nat.le_refl _) (Nat.le_refl _) ⟨_, rfl, h⟩
      · have h := h.2 c23
        refine WP.bipush (v := 16) dX5_casesOf_117 rfl ?_
        refine WP.iload 1 dX5_casesOf_119 rfl ?_
        refine WP.bipush (v := 16) dX5_casesOf_121 rfl ?_
        refine WP.imul dX5_casesOf_123 ?_
        refine WP.iload 0 dX5_casesOf_124 rfl ?_
        obtain ⟨h24, h⟩ := h
        refine WP.idiv dX5_casesOf_126 h24 ?_
        refine WP.mmin wm_X5_287 (Nat.le_of_ble_eq_true rfl) (rmok0 d) dX5_casesOf_127 ?_
        refine WP.goto (tgt := 135) dX5_casesOf_130 (by decide) ?_
        exact WP.iret dX5_casesOf_135 rfl (Nat.le_refl _) (Nat.le_refl _) ⟨_, rfl, h⟩
    · have h := h.2 c14
      refine WP.iconst (v := 0) dX5_casesOf_65 rfl ?_
      exact WP.iret dX5_casesOf_66 rfl (Nat.le_refl _) (Nat.le_refl _) ⟨_, rfl, h⟩
  · have h := h.2 c1
    refine WP.aload_n 1 dX5_casesOf_18 rfl rfl ?_
    refine WP.iload 5 dX5_casesOf_19 rfl ?_
    obtain ⟨h29, h⟩ := h
    refine WP.callV (y := mX2_at) (As := [.int x5]) (st := []) dX5_casesOf_21 wm_X5_210 mw_X2_at rfl (Nat.le_of_ble_eq_true rfl) (rmok d) h29 (by decide) rfl h (fun v25 Sm26 h28 => ?_)
    obtain ⟨m26, rfl, r27, rfl, h⟩ := h28
    show WP G _ _ _ 0 0 24 [(0, .ref b), (1, .ref b1), (2, .int x2), (3, .int x3), (4, .int x4), (5, .int x5)] [.int r27] (sh, ta, m26)
    refine WP.iload_n 3 dX5_casesOf_24 rfl rfl ?_
    refine WP.icmp_ne (tgt := 31) dX5_casesOf_25 (by decide) (fun c30 => ?_) (fun c30 => ?_)
    · have h := h.1 c30
      refine WP.iinc (lv2 := [(5, .int (x5 + 1)), (0, .ref b), (1, .ref b1), (2, .int x2), (3, .int x3), (4, .int x4)]) 5 1 dX5_casesOf_31 rfl rfl (by decide) rfl ?_
      refine WP.goto (tgt := 12) dX5_casesOf_34 (by decide) ?_
      exact WP.pick [1, 2, 3, 4, 5, 0] rfl h
    · have h := h.2 c30
      refine WP.iinc (lv2 := [(4, .int (x4 + 1)), (0, .ref b), (1, .ref b1), (2, .int x2), (3, .int x3), (5, .int x5)]) 4 1 dX5_casesOf_28 rfl rfl (by decide) rfl ?_
      refine WP.iinc (lv2 := [(5, .int (x5 + 1)), (4, .int (x4 + 1)), (0, .ref b), (1, .ref b1), (2, .int x2), (3, .int x3)]) 5 1 dX5_casesOf_31 rfl rfl (by decide) rfl ?_
      refine WP.goto (tgt := 12) dX5_casesOf_34 (by decide) ?_
      exact WP.pick [2, 3, 4, 5, 1, 0] rfl h
end
