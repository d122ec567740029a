section
variable {G : Gm} {d : Nat} {sh : List Shp} {ta : Nat → Nat → Option Nat} {m : Mem} {K : Option Value → Mem → Prop}
set_option maxHeartbeats 4000000 in
set_option maxRecDepth 20000 in
theorem rg_X1_read_0 (hG : fl G = false) {K : Option Value → (Nat → Nat → Option Nat) → Mem → Prop} (b : Nat) (b1 : Nat) (b2 : Nat) (b3 : Nat) (h : sh[b]? = some (.inl 1) ∧ ∃ i2, ((upt ((upt ((upt ta b 0 (some b1))) b 1 (some b2))) b 2 (some b3))) b 2 = some i2 ∧ sh[i2]? = some (.inl 3) ∧ Cal G mX3_clear d [.ref i2] sh ((upt ((upt ((upt ta b 0 (some b1))) b 1 (some b2))) b 2 (some b3))) m (fun v4 m5 => v4 = none ∧ ∀ m9, m9 = up2 m5 b 3 0 → ∀ m10, m10 = up2 m9 b 4 0 → Cal G mX1_readAny d [.ref b, .int 0] sh ((upt ((upt ((upt ta b 0 (some b1))) b 1 (some b2))) b 2 (some b3))) m10 (fun v11 m12 => v11 = none ∧ ((¬ (m12 b 4) = 0 → K (some (.int (m12 b 3))) ((upt ((upt ((upt ta b 0 (some b1))) b 1 (some b2))) b 2 (some b3))) m12) ∧ ((m12 b 4) = 0 → ∃ i16, ((upt ((upt ((upt ta b 0 (some b1))) b 1 (some b2))) b 2 (some b3))) b 0 = some i16 ∧ sh[i16]? = some (.inl 2) ∧ (((m12 i16 1) ≤ (m12 b 3) → K (some (.int ((-1)))) ((upt ((upt ((upt ta b 0 (some b1))) b 1 (some b2))) b 2 (some b3))) m12) ∧ (¬ (m12 i16 1) ≤ (m12 b 3) → K (some (.int (m12 b 3))) ((upt ((upt ((upt ta b 0 (some b1))) b 1 (some b2))) b 2 (some b3))) m12))))))) : WP G (rmD (d + 1) 0 0) mX1_read (QT G sh K) 0 0 0 [(0, .ref b), (1, .ref b1), (2, .ref b2), (3, .ref b3)] [] (sh, ta, m) := by
  refine WP.aload_n 0 dX1_read_0 rfl rfl ?_
  refine WP.aload_n 1 dX1_read_1 rfl rfl ?_
  obtain ⟨h1, h⟩ := h
  refine WP.putR 1 0 wf_X1_14 (by decide) (by decide) rfl h1 rfl rfl rfl dX1_read_2 ?_
  refine WP.aload_n 0 dX1_read_5 rfl rfl ?_
  refine WP.aload_n 2 dX1_read_6 rfl rfl ?_
  refine WP.putR 1 1 wf_X1_22 (by decide) (by decide) rfl h1 rfl rfl rfl dX1_read_7 ?_
  refine WP.aload_n 0 dX1_read_10 rfl rfl ?_
  refine WP.aload_n 3 dX1_read_11 rfl rfl ?_
  refine WP.putR 1 2 wf_X1_29 (by decide) (by decide) rfl h1 rfl rfl rfl dX1_read_12 ?_
  refine WP.aload_n 0 dX1_read_15 rfl rfl ?_
  obtain ⟨i2, h3, h⟩ := h
  refine WP.getR 1 2 wf_X1_29 (by decide) (by decide) rfl h1 h3 dX1_read_16 ?_
  obtain ⟨h8, h⟩ := h
  refine WP.callV (y := mX3_clear) (As := []) (st := []) dX1_read_19 wm_X1_33 mw_X3_clear rfl (Nat.le_of_ble_eq_true rfl) (rmok d) h8 (by decide) rfl h (fun v4 Sm5 h7 => ?_)
  obtain ⟨m5, rfl, rfl, h⟩ := h7
  show WP G _ _ _ 0 0 22 [(0, .ref b), (1, .ref b1), (2, .ref b2), (3, .ref b3)] [] (sh, (upt ((upt ((upt ta b 0 (some b1))) b 1 (some b2))) b 2 (some b3)), m5)
  refine WP.aload_n 0 dX1_read_22 rfl rfl ?_
  refine WP.iconst (v := 0) dX1_read_23 rfl ?_
  have h := h _ rfl
  refine WP.putI 1 3 wf_X1_36 (by decide) (by decide) rfl h1 rfl rfl rfl dX1_read_24 ?_
  generalize up2 m5 b 3 0 = m9 at h ⊢
  refine WP.aload_n 0 dX1_read_27 rfl rfl ?_
  refine WP.iconst (v := 0) dX1_read_28 rfl ?_
  have h := h _ rfl
  refine WP.putI 1 4 wf_X1_40 (by decide) (by decide) rfl h1 rfl rfl rfl dX1_read_29 ?_
  generalize up2 m9 b 4 0 = m10 at h ⊢
  refine WP.aload_n 0 dX1_read_32 rfl rfl ?_
  refine WP.iconst (v := 0) dX1_read_33 rfl ?_
  refine WP.callV (y := mX1_readAny) (As := [.int 0]) (st := []) dX1_read_34 wm_X1_44 mw_X1_readAny rfl (Nat.le_of_ble_eq_true rfl) (rmok d) h1 (by decide) rfl h (fun v11 Sm12 h14 => ?_)
  obtain ⟨m12, rfl, rfl, h⟩ := h14
  show WP G _ _ _ 0 0 37 [(0, .ref b), (1, .ref b1), (2, .ref b2), (3, .ref b3)] [] (sh, (upt ((upt ((upt ta b 0 (some b1))) b 1 (some b2))) b 2 (some b3)), m12)
  refine WP.aload_n 0 dX1_read_37 rfl rfl ?_
  refine WP.getI 1 4 wf_X1_40 (by decide) (by decide) rfl h1 dX1_read_38 ?_
  refine WP.if_ne (tgt := 58) dX1_read_41 (by decide) (fun c15 => ?_) (fun c15 => ?_)
  · have h := h.1 c15
    refine WP.aload_n 0 dX1_read_58 rfl rfl ?_
    refine WP.getI 1 3 wf_X1_36 (by decide) (by decide) rfl h1 dX1_read_59 ?_
    refine WP.goto (tgt := 66) dX1_read_62 (by decide) ?_
    exact WP.iret dX1_read_66 rfl (Nat.le_refl _) (Nat.le_refl _) ⟨_, _, rfl, h⟩
  · have h := h.2 c15
    refine WP.aload_n 0 dX1_read_44 rfl rfl ?_
    refine WP.getI 1 3 wf_X1_36 (by decide) (by decide) rfl h1 dX1_read_45 ?_
    refine WP.aload_n 0 dX1_read_48 rfl rfl ?_
    obtain ⟨i16, h17, h⟩ := h
    refine WP.getR 1 0 wf_X1_14 (by decide) (by decide) rfl h1 h17 dX1_read_49 ?_
    obtain ⟨h18, h⟩ := h
    refine WP.getIN 2 1 wf_X1_47 (by decide) (by decide) rfl h18 dX1_read_52 ?_
    refine WP.icmp_ge (tgt := 65) dX1_read_55 (by decide) (fun c19 => ?_) (fun c19 => ?_)
    · have h := h.1 c19
      refine WP.iconst (v := (-1)) dX1_read_65 rfl ?_
      exact WP.iret dX1_read_66 rfl (Nat.le_refl _) (Nat.le_refl _) ⟨_, _, rfl, h⟩
    · have h := h.2 c19
      refine WP.aload_n 0 dX1_read_58 rfl rfl ?_
      refine WP.getI 1 3 wf_X1_36 (by decide) (by decide) rfl h1 dX1_read_59 ?_
      refine WP.goto (tgt := 66) dX1_read_62 (by decide) ?_
      exact WP.iret dX1_read_66 rfl (Nat.le_refl _) (Nat.le_refl _) ⟨_, _, rfl, h⟩
set_option maxHeartbeats 4000000 in
set_option maxRecDepth 20000 in
theorem rg_X1_isNext_0 (hG : fl G = false) (b : Nat) (x1 : Int32) (h : sh[b]? = some (.inl 1) ∧ ((¬ (m b 4) = 0 → K (some (.int 0)) m) ∧ ((m b 4) = 0 → ∃ i3, ta b 0 = some i3 ∧ sh[i3]? = some (.inl 2) ∧ (((m i3 1) ≤ (m b 3) → K (some (.int 0)) m) ∧ (¬ (m i3 1) ≤ (m b 3) → Cal G mX2_at d [.ref i3, .int (m b 3)] sh ta m (fun v7 m8 => ∃ r9, v7 = some (.int r9) ∧ ((¬ r9 = x1 → K (some (.int 0)) m8) ∧ (r9 = x1 → K (some (.int 1)) m8)))))))) : WP G (rmD (d + 1) 0 0) mX1_isNext (QC G sh ta K) 0 0 0 [(0, .ref b), (1, .int x1)] [] (sh, ta, m) := by
  refine WP.aload_n 0 dX1_isNext_0 rfl rfl ?_
  obtain ⟨h1, h⟩ := h
  refine WP.getI 1 4 wf_X1_40 (by decide) (by decide) rfl h1 dX1_isNext_1 ?_
  refine WP.if_ne (tgt := 40) dX1_isNext_4 (by decide) (fun c2 => ?_) (fun c2 => ?_)
  · have h := h.1 c2
    refine WP.iconst (v := 0) dX1_isNext_40 rfl ?_
    exact WP.zret dX1_isNext_41 rfl (Nat.le_refl _) (Nat.le_refl _) rfl ⟨_, rfl, h⟩
  · have h := h.2 c2
    refine WP.aload_n 0 dX1_isNext_7 rfl rfl ?_
    refine WP.getI 1 3 wf_X1_36 (by decide) (by decide) rfl h1 dX1_isNext_8 ?_
    refine WP.aload_n 0 dX1_isNext_11 rfl rfl ?_
    obtain ⟨i3, h4, h⟩ := h
    refine WP.getR 1 0 wf_X1_14 (by decide) (by decide) rfl h1 h4 dX1_isNext_12 ?_
    obtain ⟨h5, h⟩ := h
    refine WP.getIN 2 1 wf_X1_47 (by decide) (by decide) rfl h5 dX1_isNext_15 ?_
    refine WP.icmp_ge (tgt := 40) dX1_isNext_18 (by decide) (fun c6 => ?_) (fun c6 => ?_)
    · have h := h.1 c6
      refine WP.iconst (v := 0) dX1_isNext_40 rfl ?_
      exact WP.zret dX1_isNext_41 rfl (Nat.le_refl _) (Nat.le_refl _) rfl ⟨_, rfl, h⟩
    · have h := h.2 c6
      refine WP.aload_n 0 dX1_isNext_21 rfl rfl ?_
      refine WP.getR 1 0 wf_X1_14 (by decide) (by decide) rfl h1 h4 dX1_isNext_22 ?_
      refine WP.aload_n 0 dX1_isNext_25 rfl rfl ?_
      refine WP.getI 1 3 wf_X1_36 (by decide) (by decide) rfl h1 dX1_isNext_26 ?_
      refine WP.callV (y := mX2_at) (As := [.int (m b 3)]) (st := []) dX1_isNext_29 wm_X1_50 mw_X2_at rfl (Nat.le_of_ble_eq_true rfl) (rmok d) h5 (by decide) rfl h (fun v7 Sm8 h10 => ?_)
      obtain ⟨m8, rfl, r9, rfl, h⟩ := h10
      show WP G _ _ _ 0 0 32 [(0, .ref b), (1, .int x1)] [.int r9] (sh, ta, m8)
      refine WP.iload_n 1 dX1_isNext_32 rfl rfl ?_
      refine WP.icmp_ne (tgt := 40) dX1_isNext_33 (by decide) (fun c11 => ?_) (fun c11 => ?_)
      · have h := h.1 c11
        refine WP.iconst (v := 0) dX1_isNext_40 rfl ?_
        exact WP.zret dX1_isNext_41 rfl (Nat.le_refl _) (Nat.le_refl _) rfl ⟨_, rfl, h⟩
      · have h := h.2 c11
        refine WP.iconst (v := 1) dX1_isNext_36 rfl ?_
        refine WP.goto (tgt := 41) dX1_isNext_37 (by decide) ?_
        exact WP.zret dX1_isNext_41 rfl (Nat.le_refl _) (Nat.le_refl _) rfl ⟨_, rfl, h⟩
set_option maxHeartbeats 4000000 in
set_option maxRecDepth 20000 in
theorem rg_X1_readAny_0 (hG : fl G = false) (b : Nat) (x1 : Int32) (h : sh[b]? = some (.inl 1) ∧ Cal G mX1_readAll d [.ref b, .int x1] sh ta m (fun v1 m2 => v1 = none ∧ WP G (rmD (d + 1) 0 0) mX1_readAny (QC G sh ta K) 0 0 7 [(0, .ref b), (1, .int x1), (2, .int 0)] [] (sh, ta, m2))) : WP G (rmD (d + 1) 0 0) mX1_readAny (QC G sh ta K) 0 0 0 [(0, .ref b), (1, .int x1)] [] (sh, ta, m) := by
  refine WP.aload_n 0 dX1_readAny_0 rfl rfl ?_
  refine WP.iload_n 1 dX1_readAny_1 rfl rfl ?_
  obtain ⟨h5, h⟩ := h
  refine WP.callV (y := mX1_readAll) (As := [.int x1]) (st := []) dX1_readAny_2 wm_X1_53 mw_X1_readAll rfl (Nat.le_of_ble_eq_true rfl) (rmok d) h5 (by decide) rfl h (fun v1 Sm2 h4 => ?_)
  obtain ⟨m2, rfl, rfl, h⟩ := h4
  show WP G _ _ _ 0 0 5 [(0, .ref b), (1, .int x1)] [] (sh, ta, m2)
  refine WP.iconst (v := 0) dX1_readAny_5 rfl ?_
  refine WP.istore_n (lv2 := [(2, .int 0), (0, .ref b), (1, .int x1)]) dX1_readAny_6 rfl (by decide) rfl ?_
  exact WP.pick [1, 2, 0] rfl h
set_option maxHeartbeats 4000000 in
set_option maxRecDepth 20000 in
theorem rg_X1_readAny_7 (hG : fl G = false) (b : Nat) (x1 : Int32) (x2 : Int32) (h : (((60 : Int32) ≤ x2 → K none m) ∧ (¬ (60 : Int32) ≤ x2 → sh[b]? = some (.inl 1) ∧ Cal G mX1_isNext d [.ref b, .int 124] sh ta m (fun v2 m3 => ∃ r4, v2 = some (.int r4) ∧ ((r4 = 0 → K none m3) ∧ (¬ r4 = 0 → ∀ m8, m8 = up2 m3 b 3 ((m3 b 3) + 1) → Cal G mX1_readAll d [.ref b, .int x1] sh ta m8 (fun v9 m10 => v9 = none ∧ ∃ i13, ta b 2 = some i13 ∧ sh[i13]? = some (.inl 3) ∧ Cal G mX3_addSign d [.ref i13, .int 124] sh ta m10 (fun v15 m16 => v15 = none ∧ WP G (rmD (d + 1) 0 0) mX1_readAny (QC G sh ta K) 0 0 7 [(0, .ref b), (1, .int x1), (2, .int (x2 + 1))] [] (sh, ta, m16))))))))) : WP G (rmD (d + 1) 0 0) mX1_readAny (QC G sh ta K) 0 0 7 [(0, .ref b), (1, .int x1), (2, .int x2)] [] (sh, ta, m) := by
  refine WP.iload_n 2 dX1_readAny_7 rfl rfl ?_
  refine WP.bipush (v := 60) dX1_readAny_8 rfl ?_
  refine WP.icmp_ge (tgt := 52) dX1_readAny_10 (by decide) (fun c1 => ?_) (fun c1 => ?_)
  · have h := h.1 c1
    exact WP.vret dX1_readAny_52 rfl (Nat.le_refl _) (Nat.le_refl _) ⟨_, rfl, h⟩
  · have h := h.2 c1
    refine WP.aload_n 0 dX1_readAny_13 rfl rfl ?_
    refine WP.bipush (v := 124) dX1_readAny_14 rfl ?_
    obtain ⟨h6, h⟩ := h
    refine WP.callV (y := mX1_isNext) (As := [.int 124]) (st := []) dX1_readAny_16 wm_X1_56 mw_X1_isNext rfl (Nat.le_of_ble_eq_true rfl) (rmok d) h6 (by decide) rfl h (fun v2 Sm3 h5 => ?_)
    obtain ⟨m3, rfl, r4, rfl, h⟩ := h5
    show WP G _ _ _ 0 0 19 [(0, .ref b), (1, .int x1), (2, .int x2)] [.int r4] (sh, ta, m3)
    refine WP.if_eq (tgt := 52) dX1_readAny_19 (by decide) (fun c7 => ?_) (fun c7 => ?_)
    · have h := h.1 c7
      exact WP.vret dX1_readAny_52 rfl (Nat.le_refl _) (Nat.le_refl _) ⟨_, rfl, h⟩
    · have h := h.2 c7
      refine WP.aload_n 0 dX1_readAny_22 rfl rfl ?_
      refine WP.dup dX1_readAny_23 rfl ?_
      refine WP.getI 1 3 wf_X1_36 (by decide) (by decide) rfl h6 dX1_readAny_24 ?_
      refine WP.iconst (v := 1) dX1_readAny_27 rfl ?_
      refine WP.iadd dX1_readAny_28 ?_
      have h := h _ rfl
      refine WP.putI 1 3 wf_X1_36 (by decide) (by decide) rfl h6 rfl rfl rfl dX1_readAny_29 ?_
      generalize up2 m3 b 3 ((m3 b 3) + 1) = m8 at h ⊢
      refine WP.aload_n 0 dX1_readAny_32 rfl rfl ?_
      refine WP.iload_n 1 dX1_readAny_33 rfl rfl ?_
      refine WP.callV (y := mX1_readAll) (As := [.int x1]) (st := []) dX1_readAny_34 wm_X1_53 mw_X1_readAll rfl (Nat.le_of_ble_eq_true rfl) (rmok d) h6 (by decide) rfl h (fun v9 Sm10 h12 => ?_)
      obtain ⟨m10, rfl, rfl, h⟩ := h12
      show WP G _ _ _ 0 0 37 [(0, .ref b), (1, .int x1), (2, .int x2)] [] (sh, ta, m10)
      refine WP.aload_n 0 dX1_readAny_37 rfl rfl ?_
      obtain ⟨i13, h14, h⟩ := h
      refine WP.getR 1 2 wf_X1_29 (by decide) (by decide) rfl h6 h14 dX1_readAny_38 ?_
      refine WP.bipush (v := 124) dX1_readAny_41 rfl ?_
      obtain ⟨h19, h⟩ := h
      refine WP.callV (y := mX3_addSign) (As := [.int 124]) (st := []) dX1_readAny_43 wm_X1_60 mw_X3_addSign rfl (Nat.le_of_ble_eq_true rfl) (rmok d) h19 (by decide) rfl h (fun v15 Sm16 h18 => ?_)
      obtain ⟨m16, rfl, rfl, h⟩ := h18
      show WP G _ _ _ 0 0 46 [(0, .ref b), (1, .int x1), (2, .int x2)] [] (sh, ta, m16)
      refine WP.iinc (lv2 := [(2, .int (x2 + 1)), (0, .ref b), (1, .int x1)]) 2 1 dX1_readAny_46 rfl rfl (by decide) rfl ?_
      refine WP.goto (tgt := 7) dX1_readAny_49 (by decide) ?_
      exact WP.pick [1, 2, 0] rfl h
set_option maxHeartbeats 4000000 in
set_option maxRecDepth 20000 in
theorem rg_X1_readAll_0 (hG : fl G = false) (b : Nat) (x1 : Int32) (h : sh[b]? = some (.inl 1) ∧ Cal G mX1_readCompared d [.ref b, .int x1] sh ta m (fun v1 m2 => v1 = none ∧ WP G (rmD (d + 1) 0 0) mX1_readAll (QC G sh ta K) 0 0 7 [(0, .ref b), (1, .int x1), (2, .int 0)] [] (sh, ta, m2))) : WP G (rmD (d + 1) 0 0) mX1_readAll (QC G sh ta K) 0 0 0 [(0, .ref b), (1, .int x1)] [] (sh, ta, m) := by
  refine WP.aload_n 0 dX1_readAll_0 rfl rfl ?_
  refine WP.iload_n 1 dX1_readAll_1 rfl rfl ?_
  obtain ⟨h5, h⟩ := h
  refine WP.callV (y := mX1_readCompared) (As := [.int x1]) (st := []) dX1_readAll_2 wm_X1_63 mw_X1_readCompared rfl (Nat.le_of_ble_eq_true rfl) (rmok d) h5 (by decide) rfl h (fun v1 Sm2 h4 => ?_)
  obtain ⟨m2, rfl, rfl, h⟩ := h4
  show WP G _ _ _ 0 0 5 [(0, .ref b), (1, .int x1)] [] (sh, ta, m2)
  refine WP.iconst (v := 0) dX1_readAll_5 rfl ?_
  refine WP.istore_n (lv2 := [(2, .int 0), (0, .ref b), (1, .int x1)]) dX1_readAll_6 rfl (by decide) rfl ?_
  exact WP.pick [1, 2, 0] rfl h
set_option maxHeartbeats 4000000 in
set_option maxRecDepth 20000 in
theorem rg_X1_readAll_7 (hG : fl G = false) (b : Nat) (x1 : Int32) (x2 : Int32) (h : (((60 : Int32) ≤ x2 → K none m) ∧ (¬ (60 : Int32) ≤ x2 → sh[b]? = some (.inl 1) ∧ Cal G mX1_isNext d [.ref b, .int 38] sh ta m (fun v2 m3 => ∃ r4, v2 = some (.int r4) ∧ ((r4 = 0 → K none m3) ∧ (¬ r4 = 0 → ∀ m8, m8 = up2 m3 b 3 ((m3 b 3) + 1) → Cal G mX1_readCompared d [.ref b, .int x1] sh ta m8 (fun v9 m10 => v9 = none ∧ ∃ i13, ta b 2 = some i13 ∧ sh[i13]? = some (.inl 3) ∧ Cal G mX3_addSign d [.ref i13, .int 38] sh ta m10 (fun v15 m16 => v15 = none ∧ WP G (rmD (d + 1) 0 0) mX1_readAll (QC G sh ta K) 0 0 7 [(0, .ref b), (1, .int x1), (2, .int (x2 + 1))] [] (sh, ta, m16))))))))) : WP G (rmD (d + 1) 0 0) mX1_readAll (QC G sh ta K) 0 0 7 [(0, .ref b), (1, .int x1), (2, .int x2)] [] (sh, ta, m) := by
  refine WP.iload_n 2 dX1_readAll_7 rfl rfl ?_
  refine WP.bipush (v := 60) dX1_readAll_8 rfl ?_
  refine WP.icmp_ge (tgt := 52) dX1_readAll_10 (by decide) (fun c1 => ?_) (fun c1 => ?_)
  · have h := h.1 c1
    exact WP.vret dX1_readAll_52 rfl (Nat.le_refl _) (Nat.le_refl _) ⟨_, rfl, h⟩
  · have h := h.2 c1
    refine WP.aload_n 0 dX1_readAll_13 rfl rfl ?_
    refine WP.bipush (v := 38) dX1_readAll_14 rfl ?_
    obtain ⟨h6, h⟩ := h
    refine WP.callV (y := mX1_isNext) (As := [.int 38]) (st := []) dX1_readAll_16 wm_X1_56 mw_X1_isNext rfl (Nat.le_of_ble_eq_true rfl) (rmok d) h6 (by decide) rfl h (fun v2 Sm3 h5 => ?_)
    obtain ⟨m3, rfl, r4, rfl, h⟩ := h5
    show WP G _ _ _ 0 0 19 [(0, .ref b), (1, .int x1), (2, .int x2)] [.int r4] (sh, ta, m3)
    refine WP.if_eq (tgt := 52) dX1_readAll_19 (by decide) (fun c7 => ?_) (fun c7 => ?_)
    · have h := h.1 c7
      exact WP.vret dX1_readAll_52 rfl (Nat.le_refl _) (Nat.le_refl _) ⟨_, rfl, h⟩
    · have h := h.2 c7
      refine WP.aload_n 0 dX1_readAll_22 rfl rfl ?_
      refine WP.dup dX1_readAll_23 rfl ?_
      refine WP.getI 1 3 wf_X1_36 (by decide) (by decide) rfl h6 dX1_readAll_24 ?_
      refine WP.iconst (v := 1) dX1_readAll_27 rfl ?_
      refine WP.iadd dX1_readAll_28 ?_
      have h := h _ rfl
      refine WP.putI 1 3 wf_X1_36 (by decide) (by decide) rfl h6 rfl rfl rfl dX1_readAll_29 ?_
      generalize up2 m3 b 3 ((m3 b 3) + 1) = m8 at h ⊢
      refine WP.aload_n 0 dX1_readAll_32 rfl rfl ?_
      refine WP.iload_n 1 dX1_readAll_33 rfl rfl ?_
      refine WP.callV (y := mX1_readCompared) (As := [.int x1]) (st := []) dX1_readAll_34 wm_X1_63 mw_X1_readCompared rfl (Nat.le_of_ble_eq_true rfl) (rmok d) h6 (by decide) rfl h (fun v9 Sm10 h12 => ?_)
      obtain ⟨m10, rfl, rfl, h⟩ := h12
      show WP G _ _ _ 0 0 37 [(0, .ref b), (1, .int x1), (2, .int x2)] [] (sh, ta, m10)
      refine WP.aload_n 0 dX1_readAll_37 rfl rfl ?_
      obtain ⟨i13, h14, h⟩ := h
      refine WP.getR 1 2 wf_X1_29 (by decide) (by decide) rfl h6 h14 dX1_readAll_38 ?_
      refine WP.bipush (v := 38) dX1_readAll_41 rfl ?_
      obtain ⟨h19, h⟩ := h
      refine WP.callV (y := mX3_addSign) (As := [.int 38]) (st := []) dX1_readAll_43 wm_X1_60 mw_X3_addSign rfl (Nat.le_of_ble_eq_true rfl) (rmok d) h19 (by decide) rfl h (fun v15 Sm16 h18 => ?_)
      obtain ⟨m16, rfl, rfl, h⟩ := h18
      show WP G _ _ _ 0 0 46 [(0, .ref b), (1, .int x1), (2, .int x2)] [] (sh, ta, m16)
      refine WP.iinc (lv2 := [(2, .int (x2 + 1)), (0, .ref b), (1, .int x1)]) 2 1 dX1_readAll_46 rfl rfl (by decide) rfl ?_
      refine WP.goto (tgt := 7) dX1_readAll_49 (by decide) ?_
      exact WP.pick [1, 2, 0] rfl h
set_option maxHeartbeats 4000000 in
set_option maxRecDepth 20000 in
theorem rg_X1_readCompared_0 (hG : fl G = false) (b : Nat) (x1 : Int32) (h : sh[b]? = some (.inl 1) ∧ Cal G mX1_readSum d [.ref b, .int x1] sh ta m (fun v1 m2 => v1 = none ∧ Cal G mX1_isNext d [.ref b, .int 60] sh ta m2 (fun v6 m7 => ∃ r8, v6 = some (.int r8) ∧ ((¬ r8 = 0 → ∃ i11, ta b 0 = some i11 ∧ sh[i11]? = some (.inl 2) ∧ Cal G mX2_at d [.ref i11, .int (m7 b 3)] sh ta m7 (fun v13 m14 => ∃ r15, v13 = some (.int r15) ∧ ∀ m18, m18 = up2 m14 b 3 ((m14 b 3) + 1) → Cal G mX1_readSum d [.ref b, .int x1] sh ta m18 (fun v19 m20 => v19 = none ∧ ∃ i23, ta b 2 = some i23 ∧ sh[i23]? = some (.inl 3) ∧ Cal G mX3_addSign d [.ref i23, .int r15] sh ta m20 (fun v25 m26 => v25 = none ∧ K none m26)))) ∧ (r8 = 0 → Cal G mX1_isNext d [.ref b, .int 61] sh ta m7 (fun v30 m31 => ∃ r32, v30 = some (.int r32) ∧ ((¬ r32 = 0 → ∃ i35, ta b 0 = some i35 ∧ sh[i35]? = some (.inl 2) ∧ Cal G mX2_at d [.ref i35, .int (m31 b 3)] sh ta m31 (fun v37 m38 => ∃ r39, v37 = some (.int r39) ∧ ∀ m42, m42 = up2 m38 b 3 ((m38 b 3) + 1) → Cal G mX1_readSum d [.ref b, .int x1] sh ta m42 (fun v43 m44 => v43 = none ∧ ∃ i47, ta b 2 = some i47 ∧ sh[i47]? = some (.inl 3) ∧ Cal G mX3_addSign d [.ref i47, .int r39] sh ta m44 (fun v49 m50 => v49 = none ∧ K none m50)))) ∧ (r32 = 0 → Cal G mX1_isNext d [.ref b, .int 62] sh ta m31 (fun v54 m55 => ∃ r56, v54 = some (.int r56) ∧ ((r56 = 0 → K none m55) ∧ (¬ r56 = 0 → ∃ i59, ta b 0 = some i59 ∧ sh[i59]? = some (.inl 2) ∧ Cal G mX2_at d [.ref i59, .int (m55 b 3)] sh ta m55 (fun v61 m62 => ∃ r63, v61 = some (.int r63) ∧ ∀ m66, m66 = up2 m62 b 3 ((m62 b 3) + 1) → Cal G mX1_readSum d [.ref b, .int x1] sh ta m66 (fun v67 m68 => v67 = none ∧ ∃ i71, ta b 2 = some i71 ∧ sh[i71]? = some (.inl 3) ∧ Cal G mX3_addSign d [.ref i71, .int r63] sh ta m68 (fun v73 m74 => v73 = none ∧ K none m74)))))))))))))) : WP G (rmD (d + 1) 0 0) mX1_readCompared (QC G sh ta K) 0 0 0 [(0, .ref b), (1, .int x1)] [] (sh, ta, m) := by
  refine WP.aload_n 0 dX1_readCompared_0 rfl rfl ?_
  refine WP.iload_n 1 dX1_readCompared_1 rfl rfl ?_
  obtain ⟨h5, h⟩ := h
  refine WP.callV (y := mX1_readSum) (As := [.int x1]) (st := []) dX1_readCompared_2 wm_X1_66 mw_X1_readSum rfl (Nat.le_of_ble_eq_true rfl) (rmok d) h5 (by decide) rfl h (fun v1 Sm2 h4 => ?_)
  obtain ⟨m2, rfl, rfl, h⟩ := h4
  show WP G _ _ _ 0 0 5 [(0, .ref b), (1, .int x1)] [] (sh, ta, m2)
  refine WP.aload_n 0 dX1_readCompared_5 rfl rfl ?_
  refine WP.bipush (v := 60) dX1_readCompared_6 rfl ?_
  refine WP.callV (y := mX1_isNext) (As := [.int 60]) (st := []) dX1_readCompared_8 wm_X1_56 mw_X1_isNext rfl (Nat.le_of_ble_eq_true rfl) (rmok d) h5 (by decide) rfl h (fun v6 Sm7 h9 => ?_)
  obtain ⟨m7, rfl, r8, rfl, h⟩ := h9
  show WP G _ _ _ 0 0 11 [(0, .ref b), (1, .int x1)] [.int r8] (sh, ta, m7)
  refine WP.if_ne (tgt := 32) dX1_readCompared_11 (by decide) (fun c10 => ?_) (fun c10 => ?_)
  · have h := h.1 c10
    refine WP.aload_n 0 dX1_readCompared_32 rfl rfl ?_
    obtain ⟨i11, h12, h⟩ := h
    refine WP.getR 1 0 wf_X1_14 (by decide) (by decide) rfl h5 h12 dX1_readCompared_33 ?_
    refine WP.aload_n 0 dX1_readCompared_36 rfl rfl ?_
    refine WP.getI 1 3 wf_X1_36 (by decide) (by decide) rfl h5 dX1_readCompared_37 ?_
    obtain ⟨h17, h⟩ := h
    refine WP.callV (y := mX2_at) (As := [.int (m7 b 3)]) (st := []) dX1_readCompared_40 wm_X1_50 mw_X2_at rfl (Nat.le_of_ble_eq_true rfl) (rmok d) h17 (by decide) rfl h (fun v13 Sm14 h16 => ?_)
    obtain ⟨m14, rfl, r15, rfl, h⟩ := h16
    show WP G _ _ _ 0 0 43 [(0, .ref b), (1, .int x1)] [.int r15] (sh, ta, m14)
    refine WP.istore_n (lv2 := [(2, .int r15), (0, .ref b), (1, .int x1)]) dX1_readCompared_43 rfl (by decide) rfl ?_
    refine WP.aload_n 1 dX1_readCompared_44 rfl rfl ?_
    refine WP.dup dX1_readCompared_45 rfl ?_
    refine WP.getI 1 3 wf_X1_36 (by decide) (by decide) rfl h5 dX1_readCompared_46 ?_
    refine WP.iconst (v := 1) dX1_readCompared_49 rfl ?_
    refine WP.iadd dX1_readCompared_50 ?_
    have h := h _ rfl
    refine WP.putI 1 3 wf_X1_36 (by decide) (by decide) rfl h5 rfl rfl rfl dX1_readCompared_51 ?_
    generalize up2 m14 b 3 ((m14 b 3) + 1) = m18 at h ⊢
    refine WP.aload_n 1 dX1_readCompared_54 rfl rfl ?_
    refine WP.iload_n 2 dX1_readCompared_55 rfl rfl ?_
    refine WP.callV (y := mX1_readSum) (As := [.int x1]) (st := []) dX1_readCompared_56 wm_X1_66 mw_X1_readSum rfl (Nat.le_of_ble_eq_true rfl) (rmok d) h5 (by decide) rfl h (fun v19 Sm20 h22 => ?_)
    obtain ⟨m20, rfl, rfl, h⟩ := h22
    show WP G _ _ _ 0 0 59 [(2, .int r15), (0, .ref b), (1, .int x1)] [] (sh, ta, m20)
    refine WP.aload_n 1 dX1_readCompared_59 rfl rfl ?_
    obtain ⟨i23, h24, h⟩ := h
    refine WP.getR 1 2 wf_X1_29 (by decide) (by decide) rfl h5 h24 dX1_readCompared_60 ?_
    refine WP.iload_n 0 dX1_readCompared_63 rfl rfl ?_
    obtain ⟨h29, h⟩ := h
    refine WP.callV (y := mX3_addSign) (As := [.int r15]) (st := []) dX1_readCompared_64 wm_X1_60 mw_X3_addSign rfl (Nat.le_of_ble_eq_true rfl) (rmok d) h29 (by decide) rfl h (fun v25 Sm26 h28 => ?_)
    obtain ⟨m26, rfl, rfl, h⟩ := h28
    show WP G _ _ _ 0 0 67 [(2, .int r15), (0, .ref b), (1, .int x1)] [] (sh, ta, m26)
    exact WP.vret dX1_readCompared_67 rfl (Nat.le_refl _) (Nat.le_refl _) ⟨_, rfl, h⟩
  · have h := h.2 c10
    refine WP.aload_n 0 dX1_readCompared_14 rfl rfl ?_
    refine WP.bipush (v := 61) dX1_readCompared_15 rfl ?_
    refine WP.callV (y := mX1_isNext) (As := [.int 61]) (st := []) dX1_readCompared_17 wm_X1_56 mw_X1_isNext rfl (Nat.le_of_ble_eq_true rfl) (rmok d) h5 (by decide) rfl h (fun v30 Sm31 h33 => ?_)
    obtain ⟨m31, rfl, r32, rfl, h⟩ := h33
    show WP G _ _ _ 0 0 20 [(0, .ref b), (1, .int x1)] [.int r32] (sh, ta, m31)
    refine WP.if_ne (tgt := 32) dX1_readCompared_20 (by decide) (fun c34 => ?_) (fun c34 => ?_)
    · have h := h.1 c34
      refine WP.aload_n 0 dX1_readCompared_32 rfl rfl ?_
      obtain ⟨i35, h36, h⟩ := h
      refine WP.getR 1 0 wf_X1_14 (by decide) (by decide) rfl h5 h36 dX1_readCompared_33 ?_
      refine WP.aload_n 0 dX1_readCompared_36 rfl rfl ?_
      refine WP.getI 1 3 wf_X1_36 (by decide) (by decide) rfl h5 dX1_readCompared_37 ?_
      obtain ⟨h41, h⟩ := h
      refine WP.callV (y := mX2_at) (As := [.int (m31 b 3)]) (st := []) dX1_readCompared_40 wm_X1_50 mw_X2_at rfl (Nat.le_of_ble_eq_true rfl) (rmok d) h41 (by decide) rfl h (fun v37 Sm38 h40 => ?_)
      obtain ⟨m38, rfl, r39, rfl, h⟩ := h40
      show WP G _ _ _ 0 0 43 [(0, .ref b), (1, .int x1)] [.int r39] (sh, ta, m38)
      refine WP.istore_n (lv2 := [(2, .int r39), (0, .ref b), (1, .int x1)]) dX1_readCompared_43 rfl (by decide) rfl ?_
      refine WP.aload_n 1 dX1_readCompared_44 rfl rfl ?_
      refine WP.dup dX1_readCompared_45 rfl ?_
      refine WP.getI 1 3 wf_X1_36 (by decide) (by decide) rfl h5 dX1_readCompared_46 ?_
      refine WP.iconst (v := 1) dX1_readCompared_49 rfl ?_
      refine WP.iadd dX1_readCompared_50 ?_
      have h := h _ rfl
      refine WP.putI 1 3 wf_X1_36 (by decide) (by decide) rfl h5 rfl rfl rfl dX1_readCompared_51 ?_
      generalize up2 m38 b 3 ((m38 b 3) + 1) = m42 at h ⊢
      refine WP.aload_n 1 dX1_readCompared_54 rfl rfl ?_
      refine WP.iload_n 2 dX1_readCompared_55 rfl rfl ?_
      refine WP.callV (y := mX1_readSum) (As := [.int x1]) (st := []) dX1_readCompared_56 wm_X1_66 mw_X1_readSum rfl (Nat.le_of_ble_eq_true rfl) (rmok d) h5 (by decide) rfl h (fun v43 Sm44 h46 => ?_)
      obtain ⟨m44, rfl, rfl, h⟩ := h46
      show WP G _ _ _ 0 0 59 [(2, .int r39), (0, .ref b), (1, .int x1)] [] (sh, ta, m44)
      refine WP.aload_n 1 dX1_readCompared_59 rfl rfl ?_
      obtain ⟨i47, h48, h⟩ := h
      refine WP.getR 1 2 wf_X1_29 (by decide) (by decide) rfl h5 h48 dX1_readCompared_60 ?_
      refine WP.iload_n 0 dX1_readCompared_63 rfl rfl ?_
      obtain ⟨h53, h⟩ := h
      refine WP.callV (y := mX3_addSign) (As := [.int r39]) (st := []) dX1_readCompared_64 wm_X1_60 mw_X3_addSign rfl (Nat.le_of_ble_eq_true rfl) (rmok d) h53 (by decide) rfl h (fun v49 Sm50 h52 => ?_)
      obtain ⟨m50, rfl, rfl, h⟩ := h52
      show WP G _ _ _ 0 0 67 [(2, .int r39), (0, .ref b), (1, .int x1)] [] (sh, ta, m50)
      exact WP.vret dX1_readCompared_67 rfl (Nat.le_refl _) (Nat.le_refl _) ⟨_, rfl, h⟩
    · have h := h.2 c34
      refine WP.aload_n 0 dX1_readCompared_23 rfl rfl ?_
      refine WP.bipush (v := 62) dX1_readCompared_24 rfl ?_
      refine WP.callV (y := mX1_isNext) (As := [.int 62]) (st := []) dX1_readCompared_26 wm_X1_56 mw_X1_isNext rfl (Nat.le_of_ble_eq_true rfl) (rmok d) h5 (by decide) rfl h (fun v54 Sm55 h57 => ?_)
      obtain ⟨m55, rfl, r56, rfl, h⟩ := h57
      show WP G _ _ _ 0 0 29 [(0, .ref b), (1, .int x1)] [.int r56] (sh, ta, m55)
      refine WP.if_eq (tgt := 67) dX1_readCompared_29 (by decide) (fun c58 => ?_) (fun c58 => ?_)
      · have h := h.1 c58
        exact WP.vret dX1_readCompared_67 rfl (Nat.le_refl _) (Nat.le_refl _) ⟨_, rfl, h⟩
      · have h := h.2 c58
        refine WP.aload_n 0 dX1_readCompared_32 rfl rfl ?_
        obtain ⟨i59, h60, h⟩ := h
        refine WP.getR 1 0 wf_X1_14 (by decide) (by decide) rfl h5 h60 dX1_readCompared_33 ?_
        refine WP.aload_n 0 dX1_readCompared_36 rfl rfl ?_
        refine WP.getI 1 3 wf_X1_36 (by decide) (by decide) rfl h5 dX1_readCompared_37 ?_
        obtain ⟨h65, h⟩ := h
        refine WP.callV (y := mX2_at) (As := [.int (m55 b 3)]) (st := []) dX1_readCompared_40 wm_X1_50 mw_X2_at rfl (Nat.le_of_ble_eq_true rfl) (rmok d) h65 (by decide) rfl h (fun v61 Sm62 h64 => ?_)
        obtain ⟨m62, rfl, r63, rfl, h⟩ := h64
        show WP G _ _ _ 0 0 43 [(0, .ref b), (1, .int x1)] [.int r63] (sh, ta, m62)
        refine WP.istore_n (lv2 := [(2, .int r63), (0, .ref b), (1, .int x1)]) dX1_readCompared_43 rfl (by decide) rfl ?_
        refine WP.aload_n 1 dX1_readCompared_44 rfl rfl ?_
        refine WP.dup dX1_readCompared_45 rfl ?_
        refine WP.getI 1 3 wf_X1_36 (by decide) (by decide) rfl h5 dX1_readCompared_46 ?_
        refine WP.iconst (v := 1) dX1_readCompared_49 rfl ?_
        refine WP.iadd dX1_readCompared_50 ?_
        have h := h _ rfl
        refine WP.putI 1 3 wf_X1_36 (by decide) (by decide) rfl h5 rfl rfl rfl dX1_readCompared_51 ?_
        generalize up2 m62 b 3 ((m62 b 3) + 1) = m66 at h ⊢
        refine WP.aload_n 1 dX1_readCompared_54 rfl rfl ?_
        refine WP.iload_n 2 dX1_readCompared_55 rfl rfl ?_
        refine WP.callV (y := mX1_readSum) (As := [.int x1]) (st := []) dX1_readCompared_56 wm_X1_66 mw_X1_readSum rfl (Nat.le_of_ble_eq_true rfl) (rmok d) h5 (by decide) rfl h (fun v67 Sm68 h70 => ?_)
        obtain ⟨m68, rfl, rfl, h⟩ := h70
        show WP G _ _ _ 0 0 59 [(2, .int r63), (0, .ref b), (1, .int x1)] [] (sh, ta, m68)
        refine WP.aload_n 1 dX1_readCompared_59 rfl rfl ?_
        obtain ⟨i71, h72, h⟩ := h
        refine WP.getR 1 2 wf_X1_29 (by decide) (by decide) rfl h5 h72 dX1_readCompared_60 ?_
        refine WP.iload_n 0 dX1_readCompared_63 rfl rfl ?_
        obtain ⟨h77, h⟩ := h
        refine WP.callV (y := mX3_addSign) (As := [.int r63]) (st := []) dX1_readCompared_64 wm_X1_60 mw_X3_addSign rfl (Nat.le_of_ble_eq_true rfl) (rmok d) h77 (by decide) rfl h (fun v73 Sm74 h76 => ?_)
        obtain ⟨m74, rfl, rfl, h⟩ := h76
        show WP G _ _ _ 0 0 67 [(2, .int r63), (0, .ref b), (1, .int x1)] [] (sh, ta, m74)
        exact WP.vret dX1_readCompared_67 rfl (Nat.le_refl _) (Nat.le_refl _) ⟨_, rfl, h⟩
set_option maxHeartbeats 4000000 in
set_option maxRecDepth 20000 in
theorem rg_X1_readSum_0 (hG : fl G = false) (b : Nat) (x1 : Int32) (h : sh[b]? = some (.inl 1) ∧ Cal G mX1_readProduct d [.ref b, .int x1] sh ta m (fun v1 m2 => v1 = none ∧ WP G (rmD (d + 1) 0 0) mX1_readSum (QC G sh ta K) 0 0 7 [(0, .ref b), (1, .int x1), (2, .int 0)] [] (sh, ta, m2))) : WP G (rmD (d + 1) 0 0) mX1_readSum (QC G sh ta K) 0 0 0 [(0, .ref b), (1, .int x1)] [] (sh, ta, m) := by
  refine WP.aload_n 0 dX1_readSum_0 rfl rfl ?_
  refine WP.iload_n 1 dX1_readSum_1 rfl rfl ?_
  obtain ⟨h5, h⟩ := h
  refine WP.callV (y := mX1_readProduct) (As := [.int x1]) (st := []) dX1_readSum_2 wm_X1_69 mw_X1_readProduct rfl (Nat.le_of_ble_eq_true rfl) (rmok d) h5 (by decide) rfl h (fun v1 Sm2 h4 => ?_)
  obtain ⟨m2, rfl, rfl, h⟩ := h4
  show WP G _ _ _ 0 0 5 [(0, .ref b), (1, .int x1)] [] (sh, ta, m2)
  refine WP.iconst (v := 0) dX1_readSum_5 rfl ?_
  refine WP.istore_n (lv2 := [(2, .int 0), (0, .ref b), (1, .int x1)]) dX1_readSum_6 rfl (by decide) rfl ?_
  exact WP.pick [1, 2, 0] rfl h
set_option maxHeartbeats 4000000 in
set_option maxRecDepth 20000 in
theorem rg_X1_readSum_7 (hG : fl G = false) (b : Nat) (x1 : Int32) (x2 : Int32) (h : (((60 : Int32) ≤ x2 → K none m) ∧ (¬ (60 : Int32) ≤ x2 → sh[b]? = some (.inl 1) ∧ Cal G mX1_isNext d [.ref b, .int 43] sh ta m (fun v2 m3 => ∃ r4, v2 = some (.int r4) ∧ ((¬ r4 = 0 → ∃ i8, ta b 0 = some i8 ∧ sh[i8]? = some (.inl 2) ∧ Cal G mX2_at d [.ref i8, .int (m3 b 3)] sh ta m3 (fun v10 m11 => ∃ r12, v10 = some (.int r12) ∧ ∀ m15, m15 = up2 m11 b 3 ((m11 b 3) + 1) → Cal G mX1_readProduct d [.ref b, .int x1] sh ta m15 (fun v16 m17 => v16 = none ∧ ∃ i20, ta b 2 = some i20 ∧ sh[i20]? = some (.inl 3) ∧ Cal G mX3_addSign d [.ref i20, .int r12] sh ta m17 (fun v22 m23 => v22 = none ∧ WP G (rmD (d + 1) 0 0) mX1_readSum (QC G sh ta K) 0 0 7 [(0, .ref b), (1, .int x1), (2, .int (x2 + 1))] [] (sh, ta, m23))))) ∧ (r4 = 0 → Cal G mX1_isNext d [.ref b, .int 45] sh ta m3 (fun v27 m28 => ∃ r29, v27 = some (.int r29) ∧ ((r29 = 0 → K none m28) ∧ (¬ r29 = 0 → ∃ i32, ta b 0 = some i32 ∧ sh[i32]? = some (.inl 2) ∧ Cal G mX2_at d [.ref i32, .int (m28 b 3)] sh ta m28 (fun v34 m35 => ∃ r36, v34 = some (.int r36) ∧ ∀ m39, m39 = up2 m35 b 3 ((m35 b 3) + 1) → Cal G mX1_readProduct d [.ref b, .int x1] sh ta m39 (fun v40 m41 => v40 = none ∧ ∃ i44, ta b 2 = some i44 ∧ sh[i44]? = some (.inl 3) ∧ Cal G mX3_addSign d [.ref i44, .int r36] sh ta m41 (fun v46 m47 => v46 = none ∧ WP G (rmD (d + 1) 0 0) mX1_readSum (QC G sh ta K) 0 0 7 [(0, .ref b), (1, .int x1), (2, .int (x2 + 1))] [] (sh, ta, m47))))))))))))) : WP G (rmD (d + 1) 0 0) mX1_readSum (QC G sh ta K) 0 0 7 [(0, .ref b), (1, .int x1), (2, .int x2)] [] (sh, ta, m) := by
  refine WP.iload_n 2 dX1_readSum_7 rfl rfl ?_
  refine WP.bipush (v := 60) dX1_readSum_8 rfl ?_
  refine WP.icmp_ge (tgt := 72) dX1_readSum_10 (by decide) (fun c1 => ?_) (fun c1 => ?_)
  · have h := h.1 c1
    exact WP.vret dX1_readSum_72 rfl (Nat.le_refl _) (Nat.le_refl _) ⟨_, rfl, h⟩
  · have h := h.2 c1
    refine WP.aload_n 0 dX1_readSum_13 rfl rfl ?_
    refine WP.bipush (v := 43) dX1_readSum_14 rfl ?_
    obtain ⟨h6, h⟩ := h
    refine WP.callV (y := mX1_isNext) (As := [.int 43]) (st := []) dX1_readSum_16 wm_X1_56 mw_X1_isNext rfl (Nat.le_of_ble_eq_true rfl) (rmok d) h6 (by decide) rfl h (fun v2 Sm3 h5 => ?_)
    obtain ⟨m3, rfl, r4, rfl, h⟩ := h5
    show WP G _ _ _ 0 0 19 [(0, .ref b), (1, .int x1), (2, .int x2)] [.int r4] (sh, ta, m3)
    refine WP.if_ne (tgt := 31) dX1_readSum_19 (by decide) (fun c7 => ?_) (fun c7 => ?_)
    · have h := h.1 c7
      refine WP.aload_n 0 dX1_readSum_31 rfl rfl ?_
      obtain ⟨i8, h9, h⟩ := h
      refine WP.getR 1 0 wf_X1_14 (by decide) (by decide) rfl h6 h9 dX1_readSum_32 ?_
      refine WP.aload_n 0 dX1_readSum_35 rfl rfl ?_
      refine WP.getI 1 3 wf_X1_36 (by decide) (by decide) rfl h6 dX1_readSum_36 ?_
      obtain ⟨h14, h⟩ := h
      refine WP.callV (y := mX2_at) (As := [.int (m3 b 3)]) (st := []) dX1_readSum_39 wm_X1_50 mw_X2_at rfl (Nat.le_of_ble_eq_true rfl) (rmok d) h14 (by decide) rfl h (fun v10 Sm11 h13 => ?_)
      obtain ⟨m11, rfl, r12, rfl, h⟩ := h13
      show WP G _ _ _ 0 0 42 [(0, .ref b), (1, .int x1), (2, .int x2)] [.int r12] (sh, ta, m11)
      refine WP.istore_n (lv2 := [(3, .int r12), (0, .ref b), (1, .int x1), (2, .int x2)]) dX1_readSum_42 rfl (by decide) rfl ?_
      refine WP.aload_n 1 dX1_readSum_43 rfl rfl ?_
      refine WP.dup dX1_readSum_44 rfl ?_
      refine WP.getI 1 3 wf_X1_36 (by decide) (by decide) rfl h6 dX1_readSum_45 ?_
      refine WP.iconst (v := 1) dX1_readSum_48 rfl ?_
      refine WP.iadd dX1_readSum_49 ?_
      have h := h _ rfl
      refine WP.putI 1 3 wf_X1_36 (by decide) (by decide) rfl h6 rfl rfl rfl dX1_readSum_50 ?_
      generalize up2 m11 b 3 ((m11 b 3) + 1) = m15 at h ⊢
      refine WP.aload_n 1 dX1_readSum_53 rfl rfl ?_
      refine WP.iload_n 2 dX1_readSum_54 rfl rfl ?_
      refine WP.callV (y := mX1_readProduct) (As := [.int x1]) (st := []) dX1_readSum_55 wm_X1_69 mw_X1_readProduct rfl (Nat.le_of_ble_eq_true rfl) (rmok d) h6 (by decide) rfl h (fun v16 Sm17 h19 => ?_)
      obtain ⟨m17, rfl, rfl, h⟩ := h19
      show WP G _ _ _ 0 0 58 [(3, .int r12), (0, .ref b), (1, .int x1), (2, .int x2)] [] (sh, ta, m17)
      refine WP.aload_n 1 dX1_readSum_58 rfl rfl ?_
      obtain ⟨i20, h21, h⟩ := h
      refine WP.getR 1 2 wf_X1_29 (by decide) (by decide) rfl h6 h21 dX1_readSum_59 ?_
      refine WP.iload_n 0 dX1_readSum_62 rfl rfl ?_
      obtain ⟨h26, h⟩ := h
      refine WP.callV (y := mX3_addSign) (As := [.int r12]) (st := []) dX1_readSum_63 wm_X1_60 mw_X3_addSign rfl (Nat.le_of_ble_eq_true rfl) (rmok d) h26 (by decide) rfl h (fun v22 Sm23 h25 => ?_)
      obtain ⟨m23, rfl, rfl, h⟩ := h25
      show WP G _ _ _ 0 0 66 [(3, .int r12), (0, .ref b), (1, .int x1), (2, .int x2)] [] (sh, ta, m23)
      refine WP.iinc (lv2 := [(2, .int (x2 + 1)), (3, .int r12), (0, .ref b), (1, .int x1)]) 3 1 dX1_readSum_66 rfl rfl (by decide) rfl ?_
      refine WP.goto (tgt := 7) dX1_readSum_69 (by decide) ?_
      exact WP.pick [2, 3, 0] rfl h
    · have h := h.2 c7
      refine WP.aload_n 0 dX1_readSum_22 rfl rfl ?_
      refine WP.bipush (v := 45) dX1_readSum_23 rfl ?_
      refine WP.callV (y := mX1_isNext) (As := [.int 45]) (st := []) dX1_readSum_25 wm_X1_56 mw_X1_isNext rfl (Nat.le_of_ble_eq_true rfl) (rmok d) h6 (by decide) rfl h (fun v27 Sm28 h30 => ?_)
      obtain ⟨m28, rfl, r29, rfl, h⟩ := h30
      show WP G _ _ _ 0 0 28 [(0, .ref b), (1, .int x1), (2, .int x2)] [.int r29] (sh, ta, m28)
      refine WP.if_eq (tgt := 72) dX1_readSum_28 (by decide) (fun c31 => ?_) (fun c31 => ?_)
      · have h := h.1 c31
        exact WP.vret dX1_readSum_72 rfl (Nat.le_refl _) (Nat.le_refl _) ⟨_, rfl, h⟩
      · have h := h.2 c31
        refine WP.aload_n 0 dX1_readSum_31 rfl rfl ?_
        obtain ⟨i32, h33, h⟩ := h
        refine WP.getR 1 0 wf_X1_14 (by decide) (by decide) rfl h6 h33 dX1_readSum_32 ?_
        refine WP.aload_n 0 dX1_readSum_35 rfl rfl ?_
        refine WP.getI 1 3 wf_X1_36 (by decide) (by decide) rfl h6 dX1_readSum_36 ?_
        obtain ⟨h38, h⟩ := h
        refine WP.callV (y := mX2_at) (As := [.int (m28 b 3)]) (st := []) dX1_readSum_39 wm_X1_50 mw_X2_at rfl (Nat.le_of_ble_eq_true rfl) (rmok d) h38 (by decide) rfl h (fun v34 Sm35 h37 => ?_)
        obtain ⟨m35, rfl, r36, rfl, h⟩ := h37
        show WP G _ _ _ 0 0 42 [(0, .ref b), (1, .int x1), (2, .int x2)] [.int r36] (sh, ta, m35)
        refine WP.istore_n (lv2 := [(3, .int r36), (0, .ref b), (1, .int x1), (2, .int x2)]) dX1_readSum_42 rfl (by decide) rfl ?_
        refine WP.aload_n 1 dX1_readSum_43 rfl rfl ?_
        refine WP.dup dX1_readSum_44 rfl ?_
        refine WP.getI 1 3 wf_X1_36 (by decide) (by decide) rfl h6 dX1_readSum_45 ?_
        refine WP.iconst (v := 1) dX1_readSum_48 rfl ?_
        refine WP.iadd dX1_readSum_49 ?_
        have h := h _ rfl
        refine WP.putI 1 3 wf_X1_36 (by decide) (by decide) rfl h6 rfl rfl rfl dX1_readSum_50 ?_
        generalize up2 m35 b 3 ((m35 b 3) + 1) = m39 at h ⊢
        refine WP.aload_n 1 dX1_readSum_53 rfl rfl ?_
        refine WP.iload_n 2 dX1_readSum_54 rfl rfl ?_
        refine WP.callV (y := mX1_readProduct) (As := [.int x1]) (st := []) dX1_readSum_55 wm_X1_69 mw_X1_readProduct rfl (Nat.le_of_ble_eq_true rfl) (rmok d) h6 (by decide) rfl h (fun v40 Sm41 h43 => ?_)
        obtain ⟨m41, rfl, rfl, h⟩ := h43
        show WP G _ _ _ 0 0 58 [(3, .int r36), (0, .ref b), (1, .int x1), (2, .int x2)] [] (sh, ta, m41)
        refine WP.aload_n 1 dX1_readSum_58 rfl rfl ?_
        obtain ⟨i44, h45, h⟩ := h
        refine WP.getR 1 2 wf_X1_29 (by decide) (by decide) rfl h6 h45 dX1_readSum_59 ?_
        refine WP.iload_n 0 dX1_readSum_62 rfl rfl ?_
        obtain ⟨h50, h⟩ := h
        refine WP.callV (y := mX3_addSign) (As := [.int r36]) (st := []) dX1_readSum_63 wm_X1_60 mw_X3_addSign rfl (Nat.le_of_ble_eq_true rfl) (rmok d) h50 (by decide) rfl h (fun v46 Sm47 h49 => ?_)
        obtain ⟨m47, rfl, rfl, h⟩ := h49
        show WP G _ _ _ 0 0 66 [(3, .int r36), (0, .ref b), (1, .int x1), (2, .int x2)] [] (sh, ta, m47)
        refine WP.iinc (lv2 := [(2, .int (x2 + 1)), (3, .int r36), (0, .ref b), (1, .int x1)]) 3 1 dX1_readSum_66 rfl rfl (by decide) rfl ?_
        refine WP.goto (tgt := 7) dX1_readSum_69 (by decide) ?_
        exact WP.pick [2, 3, 0] rfl h
set_option maxHeartbeats 4000000 in
set_option maxRecDepth 20000 in
theorem rg_X1_readProduct_0 (hG : fl G = false) (b : Nat) (x1 : Int32) (h : sh[b]? = some (.inl 1) ∧ Cal G mX1_readPart d [.ref b, .int x1] sh ta m (fun v1 m2 => v1 = none ∧ WP G (rmD (d + 1) 0 0) mX1_readProduct (QC G sh ta K) 0 0 7 [(0, .ref b), (1, .int x1), (2, .int 0)] [] (sh, ta, m2))) : WP G (rmD (d + 1) 0 0) mX1_readProduct (QC G sh ta K) 0 0 0 [(0, .ref b), (1, .int x1)] [] (sh, ta, m) := by
  refine WP.aload_n 0 dX1_readProduct_0 rfl rfl ?_
  refine WP.iload_n 1 dX1_readProduct_1 rfl rfl ?_
  obtain ⟨h5, h⟩ := h
  refine WP.callV (y := mX1_readPart) (As := [.int x1]) (st := []) dX1_readProduct_2 wm_X1_72 mw_X1_readPart rfl (Nat.le_of_ble_eq_true rfl) (rmok d) h5 (by decide) rfl h (fun v1 Sm2 h4 => ?_)
  obtain ⟨m2, rfl, rfl, h⟩ := h4
  show WP G _ _ _ 0 0 5 [(0, .ref b), (1, .int x1)] [] (sh, ta, m2)
  refine WP.iconst (v := 0) dX1_readProduct_5 rfl ?_
  refine WP.istore_n (lv2 := [(2, .int 0), (0, .ref b), (1, .int x1)]) dX1_readProduct_6 rfl (by decide) rfl ?_
  exact WP.pick [1, 2, 0] rfl h
set_option maxHeartbeats 4000000 in
set_option maxRecDepth 20000 in
theorem rg_X1_readProduct_7 (hG : fl G = false) (b : Nat) (x1 : Int32) (x2 : Int32) (h : (((60 : Int32) ≤ x2 → K none m) ∧ (¬ (60 : Int32) ≤ x2 → sh[b]? = some (.inl 1) ∧ Cal G mX1_isNext d [.ref b, .int 42] sh ta m (fun v2 m3 => ∃ r4, v2 = some (.int r4) ∧ ((¬ r4 = 0 → ∃ i8, ta b 0 = some i8 ∧ sh[i8]? = some (.inl 2) ∧ Cal G mX2_at d [.ref i8, .int (m3 b 3)] sh ta m3 (fun v10 m11 => ∃ r12, v10 = some (.int r12) ∧ ∀ m15, m15 = up2 m11 b 3 ((m11 b 3) + 1) → Cal G mX1_readPart d [.ref b, .int x1] sh ta m15 (fun v16 m17 => v16 = none ∧ ∃ i20, ta b 2 = some i20 ∧ sh[i20]? = some (.inl 3) ∧ Cal G mX3_addSign d [.ref i20, .int r12] sh ta m17 (fun v22 m23 => v22 = none ∧ WP G (rmD (d + 1) 0 0) mX1_readProduct (QC G sh ta K) 0 0 7 [(0, .ref b), (1, .int x1), (2, .int (x2 + 1))] [] (sh, ta, m23))))) ∧ (r4 = 0 → Cal G mX1_isNext d [.ref b, .int 47] sh ta m3 (fun v27 m28 => ∃ r29, v27 = some (.int r29) ∧ ((¬ r29 = 0 → ∃ i32, ta b 0 = some i32 ∧ sh[i32]? = some (.inl 2) ∧ Cal G mX2_at d [.ref i32, .int (m28 b 3)] sh ta m28 (fun v34 m35 => ∃ r36, v34 = some (.int r36) ∧ ∀ m39, m39 = up2 m35 b 3 ((m35 b 3) + 1) → Cal G mX1_readPart d [.ref b, .int x1] sh ta m39 (fun v40 m41 => v40 = none ∧ ∃ i44, ta b 2 = some i44 ∧ sh[i44]? = some (.inl 3) ∧ Cal G mX3_addSign d [.ref i44, .int r36] sh ta m41 (fun v46 m47 => v46 = none ∧ WP G (rmD (d + 1) 0 0) mX1_readProduct (QC G sh ta K) 0 0 7 [(0, .ref b), (1, .int x1), (2, .int (x2 + 1))] [] (sh, ta, m47))))) ∧ (r29 = 0 → Cal G mX1_isNext d [.ref b, .int 37] sh ta m28 (fun v51 m52 => ∃ r53, v51 = some (.int r53) ∧ ((r53 = 0 → K none m52) ∧ (¬ r53 = 0 → ∃ i56, ta b 0 = some i56 ∧ sh[i56]? = some (.inl 2) ∧ Cal G mX2_at d [.ref i56, .int (m52 b 3)] sh ta m52 (fun v58 m59 => ∃ r60, v58 = some (.int r60) ∧ ∀ m63, m63 = up2 m59 b 3 ((m59 b 3) + 1) → Cal G mX1_readPart d [.ref b, .int x1] sh ta m63 (fun v64 m65 => v64 = none ∧ ∃ i68, ta b 2 = some i68 ∧ sh[i68]? = some (.inl 3) ∧ Cal G mX3_addSign d [.ref i68, .int r60] sh ta m65 (fun v70 m71 => v70 = none ∧ WP G (rmD (d + 1) 0 0) mX1_readProduct (QC G sh ta K) 0 0 7 [(0, .ref b), (1, .int x1), (2, .int (x2 + 1))] [] (sh, ta, m71)))))))))))))))) : WP G (rmD (d + 1) 0 0) mX1_readProduct (QC G sh ta K) 0 0 7 [(0, .ref b), (1, .int x1), (2, .int x2)] [] (sh, ta, m) := by
  refine WP.iload_n 2 dX1_readProduct_7 rfl rfl ?_
  refine WP.bipush (v := 60) dX1_readProduct_8 rfl ?_
  refine WP.icmp_ge (tgt := 81) dX1_readProduct_10 (by decide) (fun c1 => ?_) (fun c1 => ?_)
  · have h := h.1 c1
    exact WP.vret dX1_readProduct_81 rfl (Nat.le_refl _) (Nat.le_refl _) ⟨_, rfl, h⟩
  · have h := h.2 c1
    refine WP.aload_n 0 dX1_readProduct_13 rfl rfl ?_
    refine WP.bipush (v := 42) dX1_readProduct_14 rfl ?_
    obtain ⟨h6, h⟩ := h
    refine WP.callV (y := mX1_isNext) (As := [.int 42]) (st := []) dX1_readProduct_16 wm_X1_56 mw_X1_isNext rfl (Nat.le_of_ble_eq_true rfl) (rmok d) h6 (by decide) rfl h (fun v2 Sm3 h5 => ?_)
    obtain ⟨m3, rfl, r4, rfl, h⟩ := h5
    show WP G _ _ _ 0 0 19 [(0, .ref b), (1, .int x1), (2, .int x2)] [.int r4] (sh, ta, m3)
    refine WP.if_ne (tgt := 40) dX1_readProduct_19 (by decide) (fun c7 => ?_) (fun c7 => ?_)
    · have h := h.1 c7
      refine WP.aload_n 0 dX1_readProduct_40 rfl rfl ?_
      obtain ⟨i8, h9, h⟩ := h
      refine WP.getR 1 0 wf_X1_14 (by decide) (by decide) rfl h6 h9 dX1_readProduct_41 ?_
      refine WP.aload_n 0 dX1_readProduct_44 rfl rfl ?_
      refine WP.getI 1 3 wf_X1_36 (by decide) (by decide) rfl h6 dX1_readProduct_45 ?_
      obtain ⟨h14, h⟩ := h
      refine WP.callV (y := mX2_at) (As := [.int (m3 b 3)]) (st := []) dX1_readProduct_48 wm_X1_50 mw_X2_at rfl (Nat.le_of_ble_eq_true rfl) (rmok d) h14 (by decide) rfl h (fun v10 Sm11 h13 => ?_)
      obtain ⟨m11, rfl, r12, rfl, h⟩ := h13
      show WP G _ _ _ 0 0 51 [(0, .ref b), (1, .int x1), (2, .int x2)] [.int r12] (sh, ta, m11)
      refine WP.istore_n (lv2 := [(3, .int r12), (0, .ref b), (1, .int x1), (2, .int x2)]) dX1_readProduct_51 rfl (by decide) rfl ?_
      refine WP.aload_n 1 dX1_readProduct_52 rfl rfl ?_
      refine WP.dup dX1_readProduct_53 rfl ?_
      refine WP.getI 1 3 wf_X1_36 (by decide) (by decide) rfl h6 dX1_readProduct_54 ?_
      refine WP.iconst (v := 1) dX1_readProduct_57 rfl ?_
      refine WP.iadd dX1_readProduct_58 ?_
      have h := h _ rfl
      refine WP.putI 1 3 wf_X1_36 (by decide) (by decide) rfl h6 rfl rfl rfl dX1_readProduct_59 ?_
      generalize up2 m11 b 3 ((m11 b 3) + 1) = m15 at h ⊢
      refine WP.aload_n 1 dX1_readProduct_62 rfl rfl ?_
      refine WP.iload_n 2 dX1_readProduct_63 rfl rfl ?_
      refine WP.callV (y := mX1_readPart) (As := [.int x1]) (st := []) dX1_readProduct_64 wm_X1_72 mw_X1_readPart rfl (Nat.le_of_ble_eq_true rfl) (rmok d) h6 (by decide) rfl h (fun v16 Sm17 h19 => ?_)
      obtain ⟨m17, rfl, rfl, h⟩ := h19
      show WP G _ _ _ 0 0 67 [(3, .int r12), (0, .ref b), (1, .int x1), (2, .int x2)] [] (sh, ta, m17)
      refine WP.aload_n 1 dX1_readProduct_67 rfl rfl ?_
      obtain ⟨i20, h21, h⟩ := h
      refine WP.getR 1 2 wf_X1_29 (by decide) (by decide) rfl h6 h21 dX1_readProduct_68 ?_
      refine WP.iload_n 0 dX1_readProduct_71 rfl rfl ?_
      obtain ⟨h26, h⟩ := h
      refine WP.callV (y := mX3_addSign) (As := [.int r12]) (st := []) dX1_readProduct_72 wm_X1_60 mw_X3_addSign rfl (Nat.le_of_ble_eq_true rfl) (rmok d) h26 (by decide) rfl h (fun v22 Sm23 h25 => ?_)
      obtain ⟨m23, rfl, rfl, h⟩ := h25
      show WP G _ _ _ 0 0 75 [(3, .int r12), (0, .ref b), (1, .int x1), (2, .int x2)] [] (sh, ta, m23)
      refine WP.iinc (lv2 := [(2, .int (x2 + 1)), (3, .int r12), (0, .ref b), (1, .int x1)]) 3 1 dX1_readProduct_75 rfl rfl (by decide) rfl ?_
      refine WP.goto (tgt := 7) dX1_readProduct_78 (by decide) ?_
      exact WP.pick [2, 3, 0] rfl h
    · have h := h.2 c7
      refine WP.aload_n 0 dX1_readProduct_22 rfl rfl ?_
      refine WP.bipush (v := 47) dX1_readProduct_23 rfl ?_
      refine WP.callV (y := mX1_isNext) (As := [.int 47]) (st := []) dX1_readProduct_25 wm_X1_56 mw_X1_isNext rfl (Nat.le_of_ble_eq_true rfl) (rmok d) h6 (by decide) rfl h (fun v27 Sm28 h30 => ?_)
      obtain ⟨m28, rfl, r29, rfl, h⟩ := h30
      show WP G _ _ _ 0 0 28 [(0, .ref b), (1, .int x1), (2, .int x2)] [.int r29] (sh, ta, m28)
      refine WP.if_ne (tgt := 40) dX1_readProduct_28 (by decide) (fun c31 => ?_) (fun c31 => ?_)
      · have h := h.1 c31
        refine WP.aload_n 0 dX1_readProduct_40 rfl rfl ?_
        obtain ⟨i32, h33, h⟩ := h
        refine WP.getR 1 0 wf_X1_14 (by decide) (by decide) rfl h6 h33 dX1_readProduct_41 ?_
        refine WP.aload_n 0 dX1_readProduct_44 rfl rfl ?_
        refine WP.getI 1 3 wf_X1_36 (by decide) (by decide) rfl h6 dX1_readProduct_45 ?_
        obtain ⟨h38, h⟩ := h
        refine WP.callV (y := mX2_at) (As := [.int (m28 b 3)]) (st := []) dX1_readProduct_48 wm_X1_50 mw_X2_at rfl (Nat.le_of_ble_eq_true rfl) (rmok d) h38 (by decide) rfl h (fun v34 Sm35 h37 => ?_)
        obtain ⟨m35, rfl, r36, rfl, h⟩ := h37
        show WP G _ _ _ 0 0 51 [(0, .ref b), (1, .int x1), (2, .int x2)] [.int r36] (sh, ta, m35)
        refine WP.istore_n (lv2 := [(3, .int r36), (0, .ref b), (1, .int x1), (2, .int x2)]) dX1_readProduct_51 rfl (by decide) rfl ?_
        refine WP.aload_n 1 dX1_readProduct_52 rfl rfl ?_
        refine WP.dup dX1_readProduct_53 rfl ?_
        refine WP.getI 1 3 wf_X1_36 (by decide) (by decide) rfl h6 dX1_readProduct_54 ?_
        refine WP.iconst (v := 1) dX1_readProduct_57 rfl ?_
        refine WP.iadd dX1_readProduct_58 ?_
        have h := h _ rfl
        refine WP.putI 1 3 wf_X1_36 (by decide) (by decide) rfl h6 rfl rfl rfl dX1_readProduct_59 ?_
        generalize up2 m35 b 3 ((m35 b 3) + 1) = m39 at h ⊢
        refine WP.aload_n 1 dX1_readProduct_62 rfl rfl ?_
        refine WP.iload_n 2 dX1_readProduct_63 rfl rfl ?_
        refine WP.callV (y := mX1_readPart) (As := [.int x1]) (st := []) dX1_readProduct_64 wm_X1_72 mw_X1_readPart rfl (Nat.le_of_ble_eq_true rfl) (rmok d) h6 (by decide) rfl h (fun v40 Sm41 h43 => ?_)
        obtain ⟨m41, rfl, rfl, h⟩ := h43
        show WP G _ _ _ 0 0 67 [(3, .int r36), (0, .ref b), (1, .int x1), (2, .int x2)] [] (sh, ta, m41)
        refine WP.aload_n 1 dX1_readProduct_67 rfl rfl ?_
        obtain ⟨i44, h45, h⟩ := h
        refine WP.getR 1 2 wf_X1_29 (by decide) (by decide) rfl h6 h45 dX1_readProduct_68 ?_
        refine WP.iload_n 0 dX1_readProduct_71 rfl rfl ?_
        obtain ⟨h50, h⟩ := h
        refine WP.callV (y := mX3_addSign) (As := [.int r36]) (st := []) dX1_readProduct_72 wm_X1_60 mw_X3_addSign rfl (Nat.le_of_ble_eq_true rfl) (rmok d) h50 (by decide) rfl h (fun v46 Sm47 h49 => ?_)
        obtain ⟨m47, rfl, rfl, h⟩ := h49
        show WP G _ _ _ 0 0 75 [(3, .int r36), (0, .ref b), (1, .int x1), (2, .int x2)] [] (sh, ta, m47)
        refine WP.iinc (lv2 := [(2, .int (x2 + 1)), (3, .int r36), (0, .ref b), (1, .int x1)]) 3 1 dX1_readProduct_75 rfl rfl (by decide) rfl ?_
        refine WP.goto (tgt := 7) dX1_readProduct_78 (by decide) ?_
        exact WP.pick [2, 3, 0] rfl h
      · have h := h.2 c31
        refine WP.aload_n 0 dX1_readProduct_31 rfl rfl ?_
        refine WP.bipush (v := 37) dX1_readProduct_32 rfl ?_
        refine WP.callV (y := mX1_isNext) (As := [.int 37]) (st := []) dX1_readProduct_34 wm_X1_56 mw_X1_isNext rfl (Nat.le_of_ble_eq_true rfl) (rmok d) h6 (by decide) rfl h (fun v51 Sm52 h54 => ?_)
        obtain ⟨m52, rfl, r53, rfl, h⟩ := h54
        show WP G _ _ _ 0 0 37 [(0, .ref b), (1, .int x1), (2, .int x2)] [.int r53] (sh, ta, m52)
        refine WP.if_eq (tgt := 81) dX1_readProduct_37 (by decide) (fun c55 => ?_) (fun c55 => ?_)
        · have h := h.1 c55
          exact WP.vret dX1_readProduct_81 rfl (Nat.le_refl _) (Nat.le_refl _) ⟨_, rfl, h⟩
        · have h := h.2 c55
          refine WP.aload_n 0 dX1_readProduct_40 rfl rfl ?_
          obtain ⟨i56, h57, h⟩ := h
          refine WP.getR 1 0 wf_X1_14 (by decide) (by decide) rfl h6 h57 dX1_readProduct_41 ?_
          refine WP.aload_n 0 dX1_readProduct_44 rfl rfl ?_
          refine WP.getI 1 3 wf_X1_36 (by decide) (by decide) rfl h6 dX1_readProduct_45 ?_
          obtain ⟨h62, h⟩ := h
          refine WP.callV (y := mX2_at) (As := [.int (m52 b 3)]) (st := []) dX1_readProduct_48 wm_X1_50 mw_X2_at rfl (Nat.le_of_ble_eq_true rfl) (rmok d) h62 (by decide) rfl h (fun v58 Sm59 h61 => ?_)
          obtain ⟨m59, rfl, r60, rfl, h⟩ := h61
          show WP G _ _ _ 0 0 51 [(0, .ref b), (1, .int x1), (2, .int x2)] [.int r60] (sh, ta, m59)
          refine WP.istore_n (lv2 := [(3, .int r60), (0, .ref b), (1, .int x1), (2, .int x2)]) dX1_readProduct_51 rfl (by decide) rfl ?_
          refine WP.aload_n 1 dX1_readProduct_52 rfl rfl ?_
          refine WP.dup dX1_readProduct_53 rfl ?_
          refine WP.getI 1 3 wf_X1_36 (by decide) (by decide) rfl h6 dX1_readProduct_54 ?_
          refine WP.iconst (v := 1) dX1_readProduct_57 rfl ?_
          refine WP.iadd dX1_readProduct_58 ?_
          have h := h _ rfl
          refine WP.putI 1 3 wf_X1_36 (by decide) (by decide) rfl h6 rfl rfl rfl dX1_readProduct_59 ?_
          generalize up2 m59 b 3 ((m59 b 3) + 1) = m63 at h ⊢
          refine WP.aload_n 1 dX1_readProduct_62 rfl rfl ?_
          refine WP.iload_n 2 dX1_readProduct_63 rfl rfl ?_
          refine WP.callV (y := mX1_readPart) (As := [.int x1]) (st := []) dX1_readProduct_64 wm_X1_72 mw_X1_readPart rfl (Nat.le_of_ble_eq_true rfl) (rmok d) h6 (by decide) rfl h (fun v64 Sm65 h67 => ?_)
          obtain ⟨m65, rfl, rfl, h⟩ := h67
          show WP G _ _ _ 0 0 67 [(3, .int r60), (0, .ref b), (1, .int x1), (2, .int x2)] [] (sh, ta, m65)
          refine WP.aload_n 1 dX1_readProduct_67 rfl rfl ?_
          obtain ⟨i68, h69, h⟩ := h
          refine WP.getR 1 2 wf_X1_29 (by decide) (by decide) rfl h6 h69 dX1_readProduct_68 ?_
          refine WP.iload_n 0 dX1_readProduct_71 rfl rfl ?_
          obtain ⟨h74, h⟩ := h
          refine WP.callV (y := mX3_addSign) (As := [.int r60]) (st := []) dX1_readProduct_72 wm_X1_60 mw_X3_addSign rfl (Nat.le_of_ble_eq_true rfl) (rmok d) h74 (by decide) rfl h (fun v70 Sm71 h73 => ?_)
          obtain ⟨m71, rfl, rfl, h⟩ := h73
          show WP G _ _ _ 0 0 75 [(3, .int r60), (0, .ref b), (1, .int x1), (2, .int x2)] [] (sh, ta, m71)
          refine WP.iinc (lv2 := [(2, .int (x2 + 1)), (3, .int r60), (0, .ref b), (1, .int x1)]) 3 1 dX1_readProduct_75 rfl rfl (by decide) rfl ?_
          refine WP.goto (tgt := 7) dX1_readProduct_78 (by decide) ?_
          exact WP.pick [2, 3, 0] rfl h
set_option maxHeartbeats 4000000 in
set_option maxRecDepth 20000 in
theorem rg_X1_readPart_0 (hG : fl G = false) (b : Nat) (x1 : Int32) (h : sh[b]? = some (.inl 1) ∧ Cal G mX1_isDigit d [.ref b] sh ta m (fun v1 m2 => ∃ r3, v1 = some (.int r3) ∧ ((r3 = 0 → Cal G mX1_isName d [.ref b] sh ta m2 (fun v7 m8 => ∃ r9, v7 = some (.int r9) ∧ ((r9 = 0 → (((5 : Int32) ≤ x1 → (((5 : Int32) ≤ x1 → ∀ m14, m14 = up2 m8 b 4 1 → K none m14) ∧ (¬ (5 : Int32) ≤ x1 → Cal G mX1_isNext d [.ref b, .int 40] sh ta m8 (fun v15 m16 => ∃ r17, v15 = some (.int r17) ∧ ((r17 = 0 → ∀ m20, m20 = up2 m16 b 4 1 → K none m20) ∧ (¬ r17 = 0 → ∀ m21, m21 = up2 m16 b 3 ((m16 b 3) + 1) → Cal G mX1_readAny d [.ref b, .int (x1 + 1)] sh ta m21 (fun v22 m23 => v22 = none ∧ Cal G mX1_readClosing d [.ref b] sh ta m23 (fun v26 m27 => v26 = none ∧ K none m27)))))))) ∧ (¬ (5 : Int32) ≤ x1 → Cal G mX1_isNext d [.ref b, .int 33] sh ta m8 (fun v30 m31 => ∃ r32, v30 = some (.int r32) ∧ ((r32 = 0 → (((5 : Int32) ≤ x1 → ∀ m36, m36 = up2 m31 b 4 1 → K none m36) ∧ (¬ (5 : Int32) ≤ x1 → Cal G mX1_isNext d [.ref b, .int 40] sh ta m31 (fun v37 m38 => ∃ r39, v37 = some (.int r39) ∧ ((r39 = 0 → ∀ m42, m42 = up2 m38 b 4 1 → K none m42) ∧ (¬ r39 = 0 → ∀ m43, m43 = up2 m38 b 3 ((m38 b 3) + 1) → Cal G mX1_readAny d [.ref b, .int (x1 + 1)] sh ta m43 (fun v44 m45 => v44 = none ∧ Cal G mX1_readClosing d [.ref b] sh ta m45 (fun v48 m49 => v48 = none ∧ K none m49)))))))) ∧ (¬ r32 = 0 → ∀ m52, m52 = up2 m31 b 3 ((m31 b 3) + 1) → Cal G mX1_readPart d [.ref b, .int (x1 + 1)] sh ta m52 (fun v53 m54 => v53 = none ∧ ∃ i57, ta b 2 = some i57 ∧ sh[i57]? = some (.inl 3) ∧ Cal G mX3_addSign d [.ref i57, .int 33] sh ta m54 (fun v59 m60 => v59 = none ∧ K none m60)))))))) ∧ (¬ r9 = 0 → ∃ i64, ta b 2 = some i64 ∧ ∃ i66, ta b 1 = some i66 ∧ ∃ i68, ta b 0 = some i68 ∧ sh[i68]? = some (.inl 2) ∧ Cal G mX2_at d [.ref i68, .int (m8 b 3)] sh ta m8 (fun v70 m71 => ∃ r72, v70 = some (.int r72) ∧ isTx i66 ∧ Cal G mS_indexOf d [.ref i66, .int (((r72 : Int32).toUInt32 % 65536).toInt32)] sh ta m71 (fun v75 m76 => ∃ r77, v75 = some (.int r77) ∧ sh[i64]? = some (.inl 3) ∧ Cal G mX3_addName d [.ref i64, .int r77] sh ta m76 (fun v80 m81 => v80 = none ∧ ∀ m85, m85 = up2 m81 b 3 ((m81 b 3) + 1) → K none m85))))))) ∧ (¬ r3 = 0 → Cal G mX1_readNumber d [.ref b] sh ta m2 (fun v86 m87 => v86 = none ∧ K none m87))))) : WP G (rmD (d + 1) 0 0) mX1_readPart (QC G sh ta K) 0 0 0 [(0, .ref b), (1, .int x1)] [] (sh, ta, m) := by
  refine WP.aload_n 0 dX1_readPart_0 rfl rfl ?_
  obtain ⟨h5, h⟩ := h
  refine WP.callV (y := mX1_isDigit) (As := []) (st := []) dX1_readPart_1 wm_X1_75 mw_X1_isDigit rfl (Nat.le_of_ble_eq_true rfl) (rmok d) h5 (by decide) rfl h (fun v1 Sm2 h4 => ?_)
  obtain ⟨m2, rfl, r3, rfl, h⟩ := h4
  show WP G _ _ _ 0 0 4 [(0, .ref b), (1, .int x1)] [.int r3] (sh, ta, m2)
  refine WP.if_eq (tgt := 14) dX1_readPart_4 (by decide) (fun c6 => ?_) (fun c6 => ?_)
  · have h := h.1 c6
    refine WP.aload_n 0 dX1_readPart_14 rfl rfl ?_
    refine WP.callV (y := mX1_isName) (As := []) (st := []) dX1_readPart_15 wm_X1_82 mw_X1_isName rfl (Nat.le_of_ble_eq_true rfl) (rmok d) h5 (by decide) rfl h (fun v7 Sm8 h10 => ?_)
    obtain ⟨m8, rfl, r9, rfl, h⟩ := h10
    show WP G _ _ _ 0 0 18 [(0, .ref b), (1, .int x1)] [.int r9] (sh, ta, m8)
    refine WP.if_eq (tgt := 60) dX1_readPart_18 (by decide) (fun c11 => ?_) (fun c11 => ?_)
    · have h := h.1 c11
      refine WP.iload_n 1 dX1_readPart_60 rfl rfl ?_
      refine WP.iconst (v := 5) dX1_readPart_61 rfl ?_
      refine WP.icmp_ge (tgt := 103) dX1_readPart_62 (by decide) (fun c12 => ?_) (fun c12 => ?_)
      · have h := h.1 c12
        refine WP.iload_n 1 dX1_readPart_103 rfl rfl ?_
        refine WP.iconst (v := 5) dX1_readPart_104 rfl ?_
        refine WP.icmp_ge (tgt := 141) dX1_readPart_105 (by decide) (fun c13 => ?_) (fun c13 => ?_)
        · have h := h.1 c13
          refine WP.aload_n 0 dX1_readPart_141 rfl rfl ?_
          refine WP.iconst (v := 1) dX1_readPart_142 rfl ?_
          have h := h _ rfl
          refine WP.putI 1 4 wf_X1_40 (by decide) (by decide) rfl h5 rfl rfl rfl dX1_readPart_143 ?_
          generalize up2 m8 b 4 1 = m14 at h ⊢
          exact WP.vret dX1_readPart_146 rfl (Nat.le_refl _) (Nat.le_refl _) ⟨_, rfl, h⟩
        · have h := h.2 c13
          refine WP.aload_n 0 dX1_readPart_108 rfl rfl ?_
          refine WP.bipush (v := 40) dX1_readPart_109 rfl ?_
          refine WP.callV (y := mX1_isNext) (As := [.int 40]) (st := []) dX1_readPart_111 wm_X1_56 mw_X1_isNext rfl (Nat.le_of_ble_eq_true rfl) (rmok d) h5 (by decide) rfl h (fun v15 Sm16 h18 => ?_)
          obtain ⟨m16, rfl, r17, rfl, h⟩ := h18
          show WP G _ _ _ 0 0 114 [(0, .ref b), (1, .int x1)] [.int r17] (sh, ta, m16)
          refine WP.if_eq (tgt := 141) dX1_readPart_114 (by decide) (fun c19 => ?_) (fun c19 => ?_)
          · have h := h.1 c19
            refine WP.aload_n 0 dX1_readPart_141 rfl rfl ?_
            refine WP.iconst (v := 1) dX1_readPart_142 rfl ?_
            have h := h _ rfl
            refine WP.putI 1 4 wf_X1_40 (by decide) (by decide) rfl h5 rfl rfl rfl dX1_readPart_143 ?_
            generalize up2 m16 b 4 1 = m20 at h ⊢
            exact WP.vret dX1_readPart_146 rfl (Nat.le_refl _) (Nat.le_refl _) ⟨_, rfl, h⟩
          · have h := h.2 c19
            refine WP.aload_n 0 dX1_readPart_117 rfl rfl ?_
            refine WP.dup dX1_readPart_118 rfl ?_
            refine WP.getI 1 3 wf_X1_36 (by decide) (by decide) rfl h5 dX1_readPart_119 ?_
            refine WP.iconst (v := 1) dX1_readPart_122 rfl ?_
            refine WP.iadd dX1_readPart_123 ?_
            have h := h _ rfl
            refine WP.putI 1 3 wf_X1_36 (by decide) (by decide) rfl h5 rfl rfl rfl dX1_readPart_124 ?_
            generalize up2 m16 b 3 ((m16 b 3) + 1) = m21 at h ⊢
            refine WP.aload_n 0 dX1_readPart_127 rfl rfl ?_
            refine WP.iload_n 1 dX1_readPart_128 rfl rfl ?_
            refine WP.iconst (v := 1) dX1_readPart_129 rfl ?_
            refine WP.iadd dX1_readPart_130 ?_
            refine WP.callV (y := mX1_readAny) (As := [.int (x1 + 1)]) (st := []) dX1_readPart_131 wm_X1_44 mw_X1_readAny rfl (Nat.le_of_ble_eq_true rfl) (rmok d) h5 (by decide) rfl h (fun v22 Sm23 h25 => ?_)
            obtain ⟨m23, rfl, rfl, h⟩ := h25
            show WP G _ _ _ 0 0 134 [(0, .ref b), (1, .int x1)] [] (sh, ta, m23)
            refine WP.aload_n 0 dX1_readPart_134 rfl rfl ?_
            refine WP.callV (y := mX1_readClosing) (As := []) (st := []) dX1_readPart_135 wm_X1_93 mw_X1_readClosing rfl (Nat.le_of_ble_eq_true rfl) (rmok d) h5 (by decide) rfl h (fun v26 Sm27 h29 => ?_)
            obtain ⟨m27, rfl, rfl, h⟩ := h29
            show WP G _ _ _ 0 0 138 [(0, .ref b), (1, .int x1)] [] (sh, ta, m27)
            refine WP.goto (tgt := 146) dX1_readPart_138 (by decide) ?_
            exact WP.vret dX1_readPart_146 rfl (Nat.le_refl _) (Nat.le_refl _) ⟨_, rfl, h⟩
      · have h := h.2 c12
        refine WP.aload_n 0 dX1_readPart_65 rfl rfl ?_
        refine WP.bipush (v := 33) dX1_readPart_66 rfl ?_
        refine WP.callV (y := mX1_isNext) (As := [.int 33]) (st := []) dX1_readPart_68 wm_X1_56 mw_X1_isNext rfl (Nat.le_of_ble_eq_true rfl) (rmok d) h5 (by decide) rfl h (fun v30 Sm31 h33 => ?_)
        obtain ⟨m31, rfl, r32, rfl, h⟩ := h33
        show WP G _ _ _ 0 0 71 [(0, .ref b), (1, .int x1)] [.int r32] (sh, ta, m31)
        refine WP.if_eq (tgt := 103) dX1_readPart_71 (by decide) (fun c34 => ?_) (fun c34 => ?_)
        · have h := h.1 c34
          refine WP.iload_n 1 dX1_readPart_103 rfl rfl ?_
          refine WP.iconst (v := 5) dX1_readPart_104 rfl ?_
          refine WP.icmp_ge (tgt := 141) dX1_readPart_105 (by decide) (fun c35 => ?_) (fun c35 => ?_)
          · have h := h.1 c35
            refine WP.aload_n 0 dX1_readPart_141 rfl rfl ?_
            refine WP.iconst (v := 1) dX1_readPart_142 rfl ?_
            have h := h _ rfl
            refine WP.putI 1 4 wf_X1_40 (by decide) (by decide) rfl h5 rfl rfl rfl dX1_readPart_143 ?_
            generalize up2 m31 b 4 1 = m36 at h ⊢
            exact WP.vret dX1_readPart_146 rfl (Nat.le_refl _) (Nat.le_refl _) ⟨_, rfl, h⟩
          · have h := h.2 c35
            refine WP.aload_n 0 dX1_readPart_108 rfl rfl ?_
            refine WP.bipush (v := 40) dX1_readPart_109 rfl ?_
            refine WP.callV (y := mX1_isNext) (As := [.int 40]) (st := []) dX1_readPart_111 wm_X1_56 mw_X1_isNext rfl (Nat.le_of_ble_eq_true rfl) (rmok d) h5 (by decide) rfl h (fun v37 Sm38 h40 => ?_)
            obtain ⟨m38, rfl, r39, rfl, h⟩ := h40
            show WP G _ _ _ 0 0 114 [(0, .ref b), (1, .int x1)] [.int r39] (sh, ta, m38)
            refine WP.if_eq (tgt := 141) dX1_readPart_114 (by decide) (fun c41 => ?_) (fun c41 => ?_)
            · have h := h.1 c41
              refine WP.aload_n 0 dX1_readPart_141 rfl rfl ?_
              refine WP.iconst (v := 1) dX1_readPart_142 rfl ?_
              have h := h _ rfl
              refine WP.putI 1 4 wf_X1_40 (by decide) (by decide) rfl h5 rfl rfl rfl dX1_readPart_143 ?_
              generalize up2 m38 b 4 1 = m42 at h ⊢
              exact WP.vret dX1_readPart_146 rfl (Nat.le_refl _) (Nat.le_refl _) ⟨_, rfl, h⟩
            · have h := h.2 c41
              refine WP.aload_n 0 dX1_readPart_117 rfl rfl ?_
              refine WP.dup dX1_readPart_118 rfl ?_
              refine WP.getI 1 3 wf_X1_36 (by decide) (by decide) rfl h5 dX1_readPart_119 ?_
              refine WP.iconst (v := 1) dX1_readPart_122 rfl ?_
              refine WP.iadd dX1_readPart_123 ?_
              have h := h _ rfl
              refine WP.putI 1 3 wf_X1_36 (by decide) (by decide) rfl h5 rfl rfl rfl dX1_readPart_124 ?_
              generalize up2 m38 b 3 ((m38 b 3) + 1) = m43 at h ⊢
              refine WP.aload_n 0 dX1_readPart_127 rfl rfl ?_
              refine WP.iload_n 1 dX1_readPart_128 rfl rfl ?_
              refine WP.iconst (v := 1) dX1_readPart_129 rfl ?_
              refine WP.iadd dX1_readPart_130 ?_
              refine WP.callV (y := mX1_readAny) (As := [.int (x1 + 1)]) (st := []) dX1_readPart_131 wm_X1_44 mw_X1_readAny rfl (Nat.le_of_ble_eq_true rfl) (rmok d) h5 (by decide) rfl h (fun v44 Sm45 h47 => ?_)
              obtain ⟨m45, rfl, rfl, h⟩ := h47
              show WP G _ _ _ 0 0 134 [(0, .ref b), (1, .int x1)] [] (sh, ta, m45)
              refine WP.aload_n 0 dX1_readPart_134 rfl rfl ?_
              refine WP.callV (y := mX1_readClosing) (As := []) (st := []) dX1_readPart_135 wm_X1_93 mw_X1_readClosing rfl (Nat.le_of_ble_eq_true rfl) (rmok d) h5 (by decide) rfl h (fun v48 Sm49 h51 => ?_)
              obtain ⟨m49, rfl, rfl, h⟩ := h51
              show WP G _ _ _ 0 0 138 [(0, .ref b), (1, .int x1)] [] (sh, ta, m49)
              refine WP.goto (tgt := 146) dX1_readPart_138 (by decide) ?_
              exact WP.vret dX1_readPart_146 rfl (Nat.le_refl _) (Nat.le_refl _) ⟨_, rfl, h⟩
        · have h := h.2 c34
          refine WP.aload_n 0 dX1_readPart_74 rfl rfl ?_
          refine WP.dup dX1_readPart_75 rfl ?_
          refine WP.getI 1 3 wf_X1_36 (by decide) (by decide) rfl h5 dX1_readPart_76 ?_
          refine WP.iconst (v := 1) dX1_readPart_79 rfl ?_
          refine WP.iadd dX1_readPart_80 ?_
          have h := h _ rfl
          refine WP.putI 1 3 wf_X1_36 (by decide) (by decide) rfl h5 rfl rfl rfl dX1_readPart_81 ?_
          generalize up2 m31 b 3 ((m31 b 3) + 1) = m52 at h ⊢
          refine WP.aload_n 0 dX1_readPart_84 rfl rfl ?_
          refine WP.iload_n 1 dX1_readPart_85 rfl rfl ?_
          refine WP.iconst (v := 1) dX1_readPart_86 rfl ?_
          refine WP.iadd dX1_readPart_87 ?_
          refine WP.callV (y := mX1_readPart) (As := [.int (x1 + 1)]) (st := []) dX1_readPart_88 wm_X1_72 mw_X1_readPart rfl (Nat.le_of_ble_eq_true rfl) (rmok d) h5 (by decide) rfl h (fun v53 Sm54 h56 => ?_)
          obtain ⟨m54, rfl, rfl, h⟩ := h56
          show WP G _ _ _ 0 0 91 [(0, .ref b), (1, .int x1)] [] (sh, ta, m54)
          refine WP.aload_n 0 dX1_readPart_91 rfl rfl ?_
          obtain ⟨i57, h58, h⟩ := h
          refine WP.getR 1 2 wf_X1_29 (by decide) (by decide) rfl h5 h58 dX1_readPart_92 ?_
          refine WP.bipush (v := 33) dX1_readPart_95 rfl ?_
          obtain ⟨h63, h⟩ := h
          refine WP.callV (y := mX3_addSign) (As := [.int 33]) (st := []) dX1_readPart_97 wm_X1_60 mw_X3_addSign rfl (Nat.le_of_ble_eq_true rfl) (rmok d) h63 (by decide) rfl h (fun v59 Sm60 h62 => ?_)
          obtain ⟨m60, rfl, rfl, h⟩ := h62
          show WP G _ _ _ 0 0 100 [(0, .ref b), (1, .int x1)] [] (sh, ta, m60)
          refine WP.goto (tgt := 146) dX1_readPart_100 (by decide) ?_
          exact WP.vret dX1_readPart_146 rfl (Nat.le_refl _) (Nat.le_refl _) ⟨_, rfl, h⟩
    · have h := h.2 c11
      refine WP.aload_n 0 dX1_readPart_21 rfl rfl ?_
      obtain ⟨i64, h65, h⟩ := h
      refine WP.getR 1 2 wf_X1_29 (by decide) (by decide) rfl h5 h65 dX1_readPart_22 ?_
      refine WP.aload_n 0 dX1_readPart_25 rfl rfl ?_
      obtain ⟨i66, h67, h⟩ := h
      refine WP.getR 1 1 wf_X1_22 (by decide) (by decide) rfl h5 h67 dX1_readPart_26 ?_
      refine WP.aload_n 0 dX1_readPart_29 rfl rfl ?_
      obtain ⟨i68, h69, h⟩ := h
      refine WP.getR 1 0 wf_X1_14 (by decide) (by decide) rfl h5 h69 dX1_readPart_30 ?_
      refine WP.aload_n 0 dX1_readPart_33 rfl rfl ?_
      refine WP.getI 1 3 wf_X1_36 (by decide) (by decide) rfl h5 dX1_readPart_34 ?_
      obtain ⟨h74, h⟩ := h
      refine WP.callV (y := mX2_at) (As := [.int (m8 b 3)]) (st := [.ref i66, .ref i64]) dX1_readPart_37 wm_X1_50 mw_X2_at rfl (Nat.le_of_ble_eq_true rfl) (rmok d) h74 (by decide) rfl h (fun v70 Sm71 h73 => ?_)
      obtain ⟨m71, rfl, r72, rfl, h⟩ := h73
      show WP G _ _ _ 0 0 40 [(0, .ref b), (1, .int x1)] [.int r72, .ref i66, .ref i64] (sh, ta, m71)
      refine WP.i2c dX1_readPart_40 ?_
      obtain ⟨h79, h⟩ := h
      refine WP.callStr (y := mS_indexOf) (As := [.int (((r72 : Int32).toUInt32 % 65536).toInt32)]) (st := [.ref i64]) (x := i66) dX1_readPart_41 wm_X1_85 mw_S_indexOf rfl (Nat.le_of_ble_eq_true rfl) (rmok d) h79 rfl h (fun v75 Sm76 h78 => ?_)
      obtain ⟨m76, rfl, r77, rfl, h⟩ := h78
      show WP G _ _ _ 0 0 44 [(0, .ref b), (1, .int x1)] [.int r77, .ref i64] (sh, ta, m76)
      obtain ⟨h84, h⟩ := h
      refine WP.callV (y := mX3_addName) (As := [.int r77]) (st := []) dX1_readPart_44 wm_X1_90 mw_X3_addName rfl (Nat.le_of_ble_eq_true rfl) (rmok d) h84 (by decide) rfl h (fun v80 Sm81 h83 => ?_)
      obtain ⟨m81, rfl, rfl, h⟩ := h83
      show WP G _ _ _ 0 0 47 [(0, .ref b), (1, .int x1)] [] (sh, ta, m81)
      refine WP.aload_n 0 dX1_readPart_47 rfl rfl ?_
      refine WP.dup dX1_readPart_48 rfl ?_
      refine WP.getI 1 3 wf_X1_36 (by decide) (by decide) rfl h5 dX1_readPart_49 ?_
      refine WP.iconst (v := 1) dX1_readPart_52 rfl ?_
      refine WP.iadd dX1_readPart_53 ?_
      have h := h _ rfl
      refine WP.putI 1 3 wf_X1_36 (by decide) (by decide) rfl h5 rfl rfl rfl dX1_readPart_54 ?_
      generalize up2 m81 b 3 ((m81 b 3) + 1) = m85 at h ⊢
      refine WP.goto (tgt := 146) dX1_readPart_57 (by decide) ?_
      exact WP.vret dX1_readPart_146 rfl (Nat.le_refl _) (Nat.le_refl _) ⟨_, rfl, h⟩
  · have h := h.2 c6
    refine WP.aload_n 0 dX1_readPart_7 rfl rfl ?_
    refine WP.callV (y := mX1_readNumber) (As := []) (st := []) dX1_readPart_8 wm_X1_79 mw_X1_readNumber rfl (Nat.le_of_ble_eq_true rfl) (rmok d) h5 (by decide) rfl h (fun v86 Sm87 h89 => ?_)
    obtain ⟨m87, rfl, rfl, h⟩ := h89
    show WP G _ _ _ 0 0 11 [(0, .ref b), (1, .int x1)] [] (sh, ta, m87)
    refine WP.goto (tgt := 146) dX1_readPart_11 (by decide) ?_
    exact WP.vret dX1_readPart_146 rfl (Nat.le_refl _) (Nat.le_refl _) ⟨_, rfl, h⟩
set_option maxHeartbeats 4000000 in
set_option maxRecDepth 20000 in
theorem rg_X1_isDigit_0 (hG : fl G = false) (b : Nat) (h : sh[b]? = some (.inl 1) ∧ ((¬ (m b 4) = 0 → K (some (.int 0)) m) ∧ ((m b 4) = 0 → ∃ i3, ta b 0 = some i3 ∧ sh[i3]? = some (.inl 2) ∧ (((m i3 1) ≤ (m b 3) → K (some (.int 0)) m) ∧ (¬ (m i3 1) ≤ (m b 3) → Cal G mX2_at d [.ref i3, .int (m b 3)] sh ta m (fun v7 m8 => ∃ r9, v7 = some (.int r9) ∧ ((r9 < (48 : Int32) → K (some (.int 0)) m8) ∧ (¬ r9 < (48 : Int32) → Cal G mX2_at d [.ref i3, .int (m8 b 3)] sh ta m8 (fun v12 m13 => ∃ r14, v12 = some (.int r14) ∧ (((57 : Int32) < r14 → K (some (.int 0)) m13) ∧ (¬ (57 : Int32) < r14 → K (some (.int 1)) m13))))))))))) : WP G (rmD (d + 1) 0 0) mX1_isDigit (QC G sh ta K) 0 0 0 [(0, .ref b)] [] (sh, ta, m) := by
  refine WP.aload_n 0 dX1_isDigit_0 rfl rfl ?_
  obtain ⟨h1, h⟩ := h
  refine WP.getI 1 4 wf_X1_40 (by decide) (by decide) rfl h1 dX1_isDigit_1 ?_
  refine WP.if_ne (tgt := 57) dX1_isDigit_4 (by decide) (fun c2 => ?_) (fun c2 => ?_)
  · have h := h.1 c2
    refine WP.iconst (v := 0) dX1_isDigit_57 rfl ?_
    exact WP.zret dX1_isDigit_58 rfl (Nat.le_refl _) (Nat.le_refl _) rfl ⟨_, rfl, h⟩
  · have h := h.2 c2
    refine WP.aload_n 0 dX1_isDigit_7 rfl rfl ?_
    refine WP.getI 1 3 wf_X1_36 (by decide) (by decide) rfl h1 dX1_isDigit_8 ?_
    refine WP.aload_n 0 dX1_isDigit_11 rfl rfl ?_
    obtain ⟨i3, h4, h⟩ := h
    refine WP.getR 1 0 wf_X1_14 (by decide) (by decide) rfl h1 h4 dX1_isDigit_12 ?_
    obtain ⟨h5, h⟩ := h
    refine WP.getIN 2 1 wf_X1_47 (by decide) (by decide) rfl h5 dX1_isDigit_15 ?_
    refine WP.icmp_ge (tgt := 57) dX1_isDigit_18 (by decide) (fun c6 => ?_) (fun c6 => ?_)
    · have h := h.1 c6
      refine WP.iconst (v := 0) dX1_isDigit_57 rfl ?_
      exact WP.zret dX1_isDigit_58 rfl (Nat.le_refl _) (Nat.le_refl _) rfl ⟨_, rfl, h⟩
    · have h := h.2 c6
      refine WP.aload_n 0 dX1_isDigit_21 rfl rfl ?_
      refine WP.getR 1 0 wf_X1_14 (by decide) (by decide) rfl h1 h4 dX1_isDigit_22 ?_
      refine WP.aload_n 0 dX1_isDigit_25 rfl rfl ?_
      refine WP.getI 1 3 wf_X1_36 (by decide) (by decide) rfl h1 dX1_isDigit_26 ?_
      refine WP.callV (y := mX2_at) (As := [.int (m b 3)]) (st := []) dX1_isDigit_29 wm_X1_50 mw_X2_at rfl (Nat.le_of_ble_eq_true rfl) (rmok d) h5 (by decide) rfl h (fun v7 Sm8 h10 => ?_)
      obtain ⟨m8, rfl, r9, rfl, h⟩ := h10
      show WP G _ _ _ 0 0 32 [(0, .ref b)] [.int r9] (sh, ta, m8)
      refine WP.bipush (v := 48) dX1_isDigit_32 rfl ?_
      refine WP.icmp_lt (tgt := 57) dX1_isDigit_34 (by decide) (fun c11 => ?_) (fun c11 => ?_)
      · have h := h.1 c11
        refine WP.iconst (v := 0) dX1_isDigit_57 rfl ?_
        exact WP.zret dX1_isDigit_58 rfl (Nat.le_refl _) (Nat.le_refl _) rfl ⟨_, rfl, h⟩
      · have h := h.2 c11
        refine WP.aload_n 0 dX1_isDigit_37 rfl rfl ?_
        refine WP.getR 1 0 wf_X1_14 (by decide) (by decide) rfl h1 h4 dX1_isDigit_38 ?_
        refine WP.aload_n 0 dX1_isDigit_41 rfl rfl ?_
        refine WP.getI 1 3 wf_X1_36 (by decide) (by decide) rfl h1 dX1_isDigit_42 ?_
        refine WP.callV (y := mX2_at) (As := [.int (m8 b 3)]) (st := []) dX1_isDigit_45 wm_X1_50 mw_X2_at rfl (Nat.le_of_ble_eq_true rfl) (rmok d) h5 (by decide) rfl h (fun v12 Sm13 h15 => ?_)
        obtain ⟨m13, rfl, r14, rfl, h⟩ := h15
        show WP G _ _ _ 0 0 48 [(0, .ref b)] [.int r14] (sh, ta, m13)
        refine WP.bipush (v := 57) dX1_isDigit_48 rfl ?_
        refine WP.icmp_gt (tgt := 57) dX1_isDigit_50 (by decide) (fun c16 => ?_) (fun c16 => ?_)
        · have h := h.1 c16
          refine WP.iconst (v := 0) dX1_isDigit_57 rfl ?_
          exact WP.zret dX1_isDigit_58 rfl (Nat.le_refl _) (Nat.le_refl _) rfl ⟨_, rfl, h⟩
        · have h := h.2 c16
          refine WP.iconst (v := 1) dX1_isDigit_53 rfl ?_
          refine WP.goto (tgt := 58) dX1_isDigit_54 (by decide) ?_
          exact WP.zret dX1_isDigit_58 rfl (Nat.le_refl _) (Nat.le_refl _) rfl ⟨_, rfl, h⟩
set_option maxHeartbeats 4000000 in
set_option maxRecDepth 20000 in
theorem rg_X1_isName_0 (hG : fl G = false) (b : Nat) (h : sh[b]? = some (.inl 1) ∧ ((¬ (m b 4) = 0 → K (some (.int 0)) m) ∧ ((m b 4) = 0 → ∃ i3, ta b 0 = some i3 ∧ sh[i3]? = some (.inl 2) ∧ (((m i3 1) ≤ (m b 3) → K (some (.int 0)) m) ∧ (¬ (m i3 1) ≤ (m b 3) → ∃ i7, ta b 1 = some i7 ∧ Cal G mX2_at d [.ref i3, .int (m b 3)] sh ta m (fun v9 m10 => ∃ r11, v9 = some (.int r11) ∧ isTx i7 ∧ Cal G mS_indexOf d [.ref i7, .int (((r11 : Int32).toUInt32 % 65536).toInt32)] sh ta m10 (fun v13 m14 => ∃ r15, v13 = some (.int r15) ∧ ((r15 < 0 → K (some (.int 0)) m14) ∧ (¬ r15 < 0 → K (some (.int 1)) m14))))))))) : WP G (rmD (d + 1) 0 0) mX1_isName (QC G sh ta K) 0 0 0 [(0, .ref b)] [] (sh, ta, m) := by
  refine WP.aload_n 0 dX1_isName_0 rfl rfl ?_
  obtain ⟨h1, h⟩ := h
  refine WP.getI 1 4 wf_X1_40 (by decide) (by decide) rfl h1 dX1_isName_1 ?_
  refine WP.if_ne (tgt := 47) dX1_isName_4 (by decide) (fun c2 => ?_) (fun c2 => ?_)
  · have h := h.1 c2
    refine WP.iconst (v := 0) dX1_isName_47 rfl ?_
    exact WP.zret dX1_isName_48 rfl (Nat.le_refl _) (Nat.le_refl _) rfl ⟨_, rfl, h⟩
  · have h := h.2 c2
    refine WP.aload_n 0 dX1_isName_7 rfl rfl ?_
    refine WP.getI 1 3 wf_X1_36 (by decide) (by decide) rfl h1 dX1_isName_8 ?_
    refine WP.aload_n 0 dX1_isName_11 rfl rfl ?_
    obtain ⟨i3, h4, h⟩ := h
    refine WP.getR 1 0 wf_X1_14 (by decide) (by decide) rfl h1 h4 dX1_isName_12 ?_
    obtain ⟨h5, h⟩ := h
    refine WP.getIN 2 1 wf_X1_47 (by decide) (by decide) rfl h5 dX1_isName_15 ?_
    refine WP.icmp_ge (tgt := 47) dX1_isName_18 (by decide) (fun c6 => ?_) (fun c6 => ?_)
    · have h := h.1 c6
      refine WP.iconst (v := 0) dX1_isName_47 rfl ?_
      exact WP.zret dX1_isName_48 rfl (Nat.le_refl _) (Nat.le_refl _) rfl ⟨_, rfl, h⟩
    · have h := h.2 c6
      refine WP.aload_n 0 dX1_isName_21 rfl rfl ?_
      obtain ⟨i7, h8, h⟩ := h
      refine WP.getR 1 1 wf_X1_22 (by decide) (by decide) rfl h1 h8 dX1_isName_22 ?_
      refine WP.aload_n 0 dX1_isName_25 rfl rfl ?_
      refine WP.getR 1 0 wf_X1_14 (by decide) (by decide) rfl h1 h4 dX1_isName_26 ?_
      refine WP.aload_n 0 dX1_isName_29 rfl rfl ?_
      refine WP.getI 1 3 wf_X1_36 (by decide) (by decide) rfl h1 dX1_isName_30 ?_
      refine WP.callV (y := mX2_at) (As := [.int (m b 3)]) (st := [.ref i7]) dX1_isName_33 wm_X1_50 mw_X2_at rfl (Nat.le_of_ble_eq_true rfl) (rmok d) h5 (by decide) rfl h (fun v9 Sm10 h12 => ?_)
      obtain ⟨m10, rfl, r11, rfl, h⟩ := h12
      show WP G _ _ _ 0 0 36 [(0, .ref b)] [.int r11, .ref i7] (sh, ta, m10)
      refine WP.i2c dX1_isName_36 ?_
      obtain ⟨h17, h⟩ := h
      refine WP.callStr (y := mS_indexOf) (As := [.int (((r11 : Int32).toUInt32 % 65536).toInt32)]) (st := []) (x := i7) dX1_isName_37 wm_X1_85 mw_S_indexOf rfl (Nat.le_of_ble_eq_true rfl) (rmok d) h17 rfl h (fun v13 Sm14 h16 => ?_)
      obtain ⟨m14, rfl, r15, rfl, h⟩ := h16
      show WP G _ _ _ 0 0 40 [(0, .ref b)] [.int r15] (sh, ta, m14)
      refine WP.if_lt (tgt := 47) dX1_isName_40 (by decide) (fun c18 => ?_) (fun c18 => ?_)
      · have h := h.1 c18
        refine WP.iconst (v := 0) dX1_isName_47 rfl ?_
        exact WP.zret dX1_isName_48 rfl (Nat.le_refl _) (Nat.le_refl _) rfl ⟨_, rfl, h⟩
      · have h := h.2 c18
        refine WP.iconst (v := 1) dX1_isName_43 rfl ?_
        refine WP.goto (tgt := 48) dX1_isName_44 (by decide) ?_
        exact WP.zret dX1_isName_48 rfl (Nat.le_refl _) (Nat.le_refl _) rfl ⟨_, rfl, h⟩
set_option maxHeartbeats 4000000 in
set_option maxRecDepth 20000 in
theorem rg_X1_readNumber_0 (hG : fl G = false) (b : Nat) (h : WP G (rmD (d + 1) 0 0) mX1_readNumber (QC G sh ta K) 0 0 4 [(0, .ref b), (1, .int 0), (2, .int 0)] [] (sh, ta, m)) : WP G (rmD (d + 1) 0 0) mX1_readNumber (QC G sh ta K) 0 0 0 [(0, .ref b)] [] (sh, ta, m) := by
  refine WP.iconst (v := 0) dX1_readNumber_0 rfl ?_
  refine WP.istore_n (lv2 := [(1, .int 0), (0, .ref b)]) dX1_readNumber_1 rfl (by decide) rfl ?_
  refine WP.iconst (v := 0) dX1_readNumber_2 rfl ?_
  refine WP.istore_n (lv2 := [(2, .int 0), (1, .int 0), (0, .ref b)]) dX1_readNumber_3 rfl (by decide) rfl ?_
  exact WP.pick [2, 1, 0] rfl h
set_option maxHeartbeats 4000000 in
set_option maxRecDepth 20000 in
theorem rg_X1_readNumber_4 (hG : fl G = false) (b : Nat) (x1 : Int32) (x2 : Int32) (h : (((4 : Int32) ≤ x2 → sh[b]? = some (.inl 1) ∧ ∃ i3, ta b 2 = some i3 ∧ sh[i3]? = some (.inl 3) ∧ Cal G mX3_addNumber d [.ref i3, .int x1] sh ta m (fun v5 m6 => v5 = none ∧ K none m6)) ∧ (¬ (4 : Int32) ≤ x2 → sh[b]? = some (.inl 1) ∧ Cal G mX1_isDigit d [.ref b] sh ta m (fun v10 m11 => ∃ r12, v10 = some (.int r12) ∧ ((r12 = 0 → ∃ i16, ta b 2 = some i16 ∧ sh[i16]? = some (.inl 3) ∧ Cal G mX3_addNumber d [.ref i16, .int x1] sh ta m11 (fun v18 m19 => v18 = none ∧ K none m19)) ∧ (¬ r12 = 0 → ∃ i23, ta b 0 = some i23 ∧ sh[i23]? = some (.inl 2) ∧ Cal G mX2_at d [.ref i23, .int (m11 b 3)] sh ta m11 (fun v25 m26 => ∃ r27, v25 = some (.int r27) ∧ ∀ m30, m30 = up2 m26 b 3 ((m26 b 3) + 1) → WP G (rmD (d + 1) 0 0) mX1_readNumber (QC G sh ta K) 0 0 4 [(0, .ref b), (1, .int (((10 * x1) + r27) - 48)), (2, .int (x2 + 1))] [] (sh, ta, m30)))))))) : WP G (rmD (d + 1) 0 0) mX1_readNumber (QC G sh ta K) 0 0 4 [(0, .ref b), (1, .int x1), (2, .int x2)] [] (sh, ta, m) := by
  refine WP.iload_n 2 dX1_readNumber_4 rfl rfl ?_
  refine WP.iconst (v := 4) dX1_readNumber_5 rfl ?_
  refine WP.icmp_ge (tgt := 52) dX1_readNumber_6 (by decide) (fun c1 => ?_) (fun c1 => ?_)
  · have h := h.1 c1
    refine WP.aload_n 0 dX1_readNumber_52 rfl rfl ?_
    obtain ⟨h2, h⟩ := h
    obtain ⟨i3, h4, h⟩ := h
    refine WP.getR 1 2 wf_X1_29 (by decide) (by decide) rfl h2 h4 dX1_readNumber_53 ?_
    refine WP.iload_n 1 dX1_readNumber_56 rfl rfl ?_
    obtain ⟨h9, h⟩ := h
    refine WP.callV (y := mX3_addNumber) (As := [.int x1]) (st := []) dX1_readNumber_57 wm_X1_96 mw_X3_addNumber rfl (Nat.le_of_ble_eq_true rfl) (rmok d) h9 (by decide) rfl h (fun v5 Sm6 h8 => ?_)
    obtain ⟨m6, rfl, rfl, h⟩ := h8
    show WP G _ _ _ 0 0 60 [(0, .ref b), (1, .int x1), (2, .int x2)] [] (sh, ta, m6)
    exact WP.vret dX1_readNumber_60 rfl (Nat.le_refl _) (Nat.le_refl _) ⟨_, rfl, h⟩
  · have h := h.2 c1
    refine WP.aload_n 0 dX1_readNumber_9 rfl rfl ?_
    obtain ⟨h14, h⟩ := h
    refine WP.callV (y := mX1_isDigit) (As := []) (st := []) dX1_readNumber_10 wm_X1_75 mw_X1_isDigit rfl (Nat.le_of_ble_eq_true rfl) (rmok d) h14 (by decide) rfl h (fun v10 Sm11 h13 => ?_)
    obtain ⟨m11, rfl, r12, rfl, h⟩ := h13
    show WP G _ _ _ 0 0 13 [(0, .ref b), (1, .int x1), (2, .int x2)] [.int r12] (sh, ta, m11)
    refine WP.if_eq (tgt := 52) dX1_readNumber_13 (by decide) (fun c15 => ?_) (fun c15 => ?_)
    · have h := h.1 c15
      refine WP.aload_n 0 dX1_readNumber_52 rfl rfl ?_
      obtain ⟨i16, h17, h⟩ := h
      refine WP.getR 1 2 wf_X1_29 (by decide) (by decide) rfl h14 h17 dX1_readNumber_53 ?_
      refine WP.iload_n 1 dX1_readNumber_56 rfl rfl ?_
      obtain ⟨h22, h⟩ := h
      refine WP.callV (y := mX3_addNumber) (As := [.int x1]) (st := []) dX1_readNumber_57 wm_X1_96 mw_X3_addNumber rfl (Nat.le_of_ble_eq_true rfl) (rmok d) h22 (by decide) rfl h (fun v18 Sm19 h21 => ?_)
      obtain ⟨m19, rfl, rfl, h⟩ := h21
      show WP G _ _ _ 0 0 60 [(0, .ref b), (1, .int x1), (2, .int x2)] [] (sh, ta, m19)
      exact WP.vret dX1_readNumber_60 rfl (Nat.le_refl _) (Nat.le_refl _) ⟨_, rfl, h⟩
    · have h := h.2 c15
      refine WP.bipush (v := 10) dX1_readNumber_16 rfl ?_
      refine WP.iload_n 1 dX1_readNumber_18 rfl rfl ?_
      refine WP.imul dX1_readNumber_19 ?_
      refine WP.aload_n 0 dX1_readNumber_20 rfl rfl ?_
      obtain ⟨i23, h24, h⟩ := h
      refine WP.getR 1 0 wf_X1_14 (by decide) (by decide) rfl h14 h24 dX1_readNumber_21 ?_
      refine WP.aload_n 0 dX1_readNumber_24 rfl rfl ?_
      refine WP.getI 1 3 wf_X1_36 (by decide) (by decide) rfl h14 dX1_readNumber_25 ?_
      obtain ⟨h29, h⟩ := h
      refine WP.callV (y := mX2_at) (As := [.int (m11 b 3)]) (st := [.int (10 * x1)]) dX1_readNumber_28 wm_X1_50 mw_X2_at rfl (Nat.le_of_ble_eq_true rfl) (rmok d) h29 (by decide) rfl h (fun v25 Sm26 h28 => ?_)
      obtain ⟨m26, rfl, r27, rfl, h⟩ := h28
      show WP G _ _ _ 0 0 31 [(0, .ref b), (1, .int x1), (2, .int x2)] [.int r27, .int (10 * x1)] (sh, ta, m26)
      refine WP.iadd dX1_readNumber_31 ?_
      refine WP.bipush (v := 48) dX1_readNumber_32 rfl ?_
      refine WP.isub dX1_readNumber_34 ?_
      refine WP.istore_n (lv2 := [(1, .int (((10 * x1) + r27) - 48)), (0, .ref b), (2, .int x2)]) dX1_readNumber_35 rfl (by decide) rfl ?_
      refine WP.aload_n 1 dX1_readNumber_36 rfl rfl ?_
      refine WP.dup dX1_readNumber_37 rfl ?_
      refine WP.getI 1 3 wf_X1_36 (by decide) (by decide) rfl h14 dX1_readNumber_38 ?_
      refine WP.iconst (v := 1) dX1_readNumber_41 rfl ?_
      refine WP.iadd dX1_readNumber_42 ?_
      have h := h _ rfl
      refine WP.putI 1 3 wf_X1_36 (by decide) (by decide) rfl h14 rfl rfl rfl dX1_readNumber_43 ?_
      generalize up2 m26 b 3 ((m26 b 3) + 1) = m30 at h ⊢
      refine WP.iinc (lv2 := [(2, .int (x2 + 1)), (1, .int (((10 * x1) + r27) - 48)), (0, .ref b)]) 2 1 dX1_readNumber_46 rfl rfl (by decide) rfl ?_
      refine WP.goto (tgt := 4) dX1_readNumber_49 (by decide) ?_
      exact WP.pick [2, 1, 0] rfl h
set_option maxHeartbeats 4000000 in
set_option maxRecDepth 20000 in
theorem rg_X1_readClosing_0 (hG : fl G = false) (b : Nat) (h : sh[b]? = some (.inl 1) ∧ Cal G mX1_isNext d [.ref b, .int 41] sh ta m (fun v1 m2 => ∃ r3, v1 = some (.int r3) ∧ ((r3 = 0 → ∀ m7, m7 = up2 m2 b 4 1 → K none m7) ∧ (¬ r3 = 0 → ∀ m8, m8 = up2 m2 b 3 ((m2 b 3) + 1) → K none m8)))) : WP G (rmD (d + 1) 0 0) mX1_readClosing (QC G sh ta K) 0 0 0 [(0, .ref b)] [] (sh, ta, m) := by
  refine WP.aload_n 0 dX1_readClosing_0 rfl rfl ?_
  refine WP.bipush (v := 41) dX1_readClosing_1 rfl ?_
  obtain ⟨h5, h⟩ := h
  refine WP.callV (y := mX1_isNext) (As := [.int 41]) (st := []) dX1_readClosing_3 wm_X1_56 mw_X1_isNext rfl (Nat.le_of_ble_eq_true rfl) (rmok d) h5 (by decide) rfl h (fun v1 Sm2 h4 => ?_)
  obtain ⟨m2, rfl, r3, rfl, h⟩ := h4
  show WP G _ _ _ 0 0 6 [(0, .ref b)] [.int r3] (sh, ta, m2)
  refine WP.if_eq (tgt := 22) dX1_readClosing_6 (by decide) (fun c6 => ?_) (fun c6 => ?_)
  · have h := h.1 c6
    refine WP.aload_n 0 dX1_readClosing_22 rfl rfl ?_
    refine WP.iconst (v := 1) dX1_readClosing_23 rfl ?_
    have h := h _ rfl
    refine WP.putI 1 4 wf_X1_40 (by decide) (by decide) rfl h5 rfl rfl rfl dX1_readClosing_24 ?_
    generalize up2 m2 b 4 1 = m7 at h ⊢
    exact WP.vret dX1_readClosing_27 rfl (Nat.le_refl _) (Nat.le_refl _) ⟨_, rfl, h⟩
  · have h := h.2 c6
    refine WP.aload_n 0 dX1_readClosing_9 rfl rfl ?_
    refine WP.dup dX1_readClosing_10 rfl ?_
    refine WP.getI 1 3 wf_X1_36 (by decide) (by decide) rfl h5 dX1_readClosing_11 ?_
    refine WP.iconst (v := 1) dX1_readClosing_14 rfl ?_
    refine WP.iadd dX1_readClosing_15 ?_
    have h := h _ rfl
    refine WP.putI 1 3 wf_X1_36 (by decide) (by decide) rfl h5 rfl rfl rfl dX1_readClosing_16 ?_
    generalize up2 m2 b 3 ((m2 b 3) + 1) = m8 at h ⊢
    refine WP.goto (tgt := 27) dX1_readClosing_19 (by decide) ?_
    exact WP.vret dX1_readClosing_27 rfl (Nat.le_refl _) (Nat.le_refl _) ⟨_, rfl, h⟩
end
