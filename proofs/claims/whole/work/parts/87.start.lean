-- 87.start
/-! the start -/
def R_law : String := "ClawBoxLaw"
def lw_P (b : Addr) (xs : List Int32) (args : Array Value) (s : State) : Prop := args = #[.ref b] ∧ s.IntsAt b xs ∧ xs.length ≤ 3072 ∧ (Jvm.Cond.and given_1 narrow_1).before args s = true
def lw_At (p : Program) (s : State) (m : MethodId) (meth : Method) (c : Code) (b L : Nat) (xs : Nat → Int32) : Prop :=
  p.tables.exec = Jvm.exec ∧ c.code = code ∧ meth.sig.returnType = ret ∧ c.maxLocals = 4 ∧ s.vm.findClass R_law = some m.cls ∧ (∀ w ∈ lw_tbl, w.before #[Value.ref b] s = true) ∧ va_X b L xs s s.heap ∧ b < s.heap.size ∧ meth.locks = false ∧ (Jvm.Cond.and given_1 narrow_1).before #[Value.ref b] s = true

def U5 : List (Nat × Nat × Nat) := [(0, 2, 67), (67, 1, 40), (67, 0, 36), (67, 8, 74), (67, 7, 73), (67, 6, 72), (67, 5, 71), (67, 4, 70), (67, 3, 69), (67, 2, 68), (0, 1, 51), (51, 1, 56), (51, 0, 52), (51, 8, 66), (51, 7, 65), (51, 6, 64), (51, 5, 63), (51, 4, 62), (51, 3, 61), (51, 2, 60), (56, 1, 59), (56, 0, 57), (57, 0, 58), (52, 1, 55), (52, 0, 53), (53, 0, 54), (0, 0, 35), (35, 1, 40), (35, 0, 36), (35, 8, 50), (35, 7, 49), (35, 6, 48), (35, 5, 47), (35, 4, 46), (35, 3, 45), (35, 2, 44), (40, 1, 43), (40, 0, 41), (41, 0, 42), (36, 1, 39), (36, 0, 37), (37, 0, 38), (0, 13, 34), (0, 12, 33), (0, 11, 32), (0, 10, 23), (23, 3, 30), (30, 0, 31), (23, 2, 28), (28, 0, 29), (23, 1, 26), (26, 0, 27), (23, 0, 24), (24, 0, 25), (0, 9, 20), (20, 0, 21), (21, 0, 22), (0, 8, 16), (16, 1, 19), (16, 0, 17), (17, 0, 18), (0, 7, 9), (9, 2, 12), (12, 1, 15), (12, 0, 13), (13, 0, 14), (9, 1, 1005), (9, 0, 10), (10, 0, 11), (0, 6, 7), (7, 0, 8), (0, 5, 5), (5, 0, 6), (0, 4, 3), (3, 0, 4), (0, 3, 1), (1, 0, 2)]
def V5 : List (Nat × Nat × Int32) := [(67, 15, -1), (67, 14, 1), (67, 11, 1), (67, 10, 60), (51, 15, -1), (51, 14, 1), (51, 11, 1), (51, 10, 60), (35, 15, -1), (35, 14, 1), (35, 11, 1), (35, 10, 60)]
section
variable {G : Gm} {nm : String}
set_option maxHeartbeats 4000000 in
theorem law_start (hG : fl G = true) (k : WP G room_1 (mL nm) (QL G) 89 3866 16 [(2, .ref 75), (1, .ref 0), (0, .ref 1002)] [] (SH, TA 10 1005 12, mU V0)) : WP G room_1 (mL nm) (QL G) 0 0 0 [(0, .ref 1002)] [] (SH.take 0, tU [], mU []) := by
  refine WP.newOC 5 (by decide) wl_L_7 wk_X5 wz_X5 hG (by decide) (by decide +kernel) ⟨by decide, by decide⟩ ⟨Nat.le_of_ble_eq_true rfl, Nat.le_of_ble_eq_true rfl⟩ dL_law_0 ?_
  refine WP.dup dL_law_3 rfl ?_
  refine WP.callI (y := mX5_init) (d := 9) (mc := 74) (ms := 1669) (As := []) (st := [.ref 0]) (K' := fun v S' => v = none ∧ S' = (SH.take 75, tU U5, mU V5)) dL_law_4 wm_L_9 mw_X5_init rfl (Nat.le_of_ble_eq_true rfl) ⟨Nat.le_of_ble_eq_true rfl, Nat.le_of_ble_eq_true rfl, Nat.le_of_ble_eq_true rfl, Nat.le_of_ble_eq_true rfl⟩ (k_ClawBox hG (by decide) ⟨by decide, by decide⟩ ⟨rfl, rfl⟩) (fun v S' h => ?_)
  obtain ⟨rfl, rfl⟩ := h
  show WP G _ _ _ _ _ _ _ [.ref 0] (SH.take 75, tU U5, mU V5)
  refine WP.astore_n (lv2 := [(1, .ref 0), (0, .ref 1002)]) dL_law_7 rfl (show 1 < 4 by decide) rfl ?_
  refine WP.newOC 6 (by decide) wl_L_10 wk_X6 wz_X6 hG (by decide) (by decide +kernel) ⟨by decide, by decide⟩ ⟨Nat.le_of_ble_eq_true rfl, Nat.le_of_ble_eq_true rfl⟩ dL_law_8 ?_
  refine WP.dup dL_law_11 rfl ?_
  refine WP.callI (y := mX6_init) (d := 9) (mc := 13) (ms := 2160) (As := []) (st := [.ref 75]) (K' := fun v S' => v = none ∧ S' = (SH.take 89, tU U0, mU V0)) dL_law_12 wm_L_12 mw_X6_init rfl (Nat.le_of_ble_eq_true rfl) ⟨Nat.le_of_ble_eq_true rfl, Nat.le_of_ble_eq_true rfl, Nat.le_of_ble_eq_true rfl, Nat.le_of_ble_eq_true rfl⟩ (k_Model hG (by decide) (show Fn 76 U5 V5 from ⟨by decide, by decide⟩) ⟨rfl, rfl⟩) (fun v S' h => ?_)
  obtain ⟨rfl, rfl⟩ := h
  show WP G _ _ _ _ _ _ _ [.ref 75] (SH.take 89, tU U0, mU V0)
  rw [tk_all, tU_U0]
  refine WP.astore_n (lv2 := [(2, .ref 75), (1, .ref 0), (0, .ref 1002)]) dL_law_15 rfl (show 2 < 4 by decide) rfl ?_
  exact k
end
set_option maxHeartbeats 4000000 in
theorem WP.dn {l : Launch} {z : Nat} {D : va_G} {cc : ClassId × ClassId} {X : Nat → Nat} {L : Nat} {xs : Nat → Int32} {R : Room} {mi : Mi} {Qf : Qfun} {kc ks pc : Nat} {lv : List (Nat × Value)} {st : List Value} {S : St} (h : WP (l, z, D, cc, X, L, xs, false) R mi Qf kc ks pc lv st S) : WP (l, z, D, cc, X, L, xs, true) R mi Qf kc ks pc lv st S :=
  fun p e s m args below meth c E H locs ls hW hS hl => h p e s m args below meth c E H locs ls ⟨hW.1, ⟨hW.2.1.1, fun q => by cases q⟩, hW.2.2⟩ hS hl
/-! what the Statement gives of the start -/
set_option maxHeartbeats 4000000 in
theorem mm_A : ∀ j : Fin 7, Cond.eq (.elem (.static "ClawBox" "ABOVE" "[I") (.int (Int32.ofNat j.1))) (.int (aboveT j.1)) ∈ flatC (Jvm.Cond.and given_1 narrow_1) := by decide +kernel
set_option maxHeartbeats 4000000 in
theorem mm_B : ∀ j : Fin 28, Cond.eq (.elem (.static "ClawBox$Voices" "BODIES" "[I") (.int (Int32.ofNat j.1))) (.int (bodiesT j.1)) ∈ flatC (Jvm.Cond.and given_1 narrow_1) := by decide +kernel
def tmS (i : Nat) : Term := match i with
  | 0 => .string "ClawBox" 173
  | 1 => .string "ClawBox" 175
  | _ => .string "ClawBox$Reader" 20
set_option maxHeartbeats 4000000 in
theorem mm_1 : ∀ i : Fin 3, Cond.exactly (tmS i.1) "java/lang/String" ∈ flatC (Jvm.Cond.and given_1 narrow_1) := by decide +kernel
set_option maxHeartbeats 4000000 in
theorem mm_2 : ∀ i : Fin 3, Cond.eq (.field (tmS i.1) "java/lang/String" "coder" "B") (.int 0) ∈ flatC (Jvm.Cond.and given_1 narrow_1) := by decide +kernel
set_option maxHeartbeats 4000000 in
theorem mm_3 : ∀ i : Fin 3, Cond.arrayOf (.field (tmS i.1) "java/lang/String" "value" "[B") .byte ∈ flatC (Jvm.Cond.and given_1 narrow_1) := by decide +kernel
set_option maxHeartbeats 4000000 in
theorem mm_4 : ∀ i : Fin 3, Cond.eq (.length (.field (tmS i.1) "java/lang/String" "value" "[B")) (.int (Int32.ofNat (txLen.getD i.1 0))) ∈ flatC (Jvm.Cond.and given_1 narrow_1) := by decide +kernel
set_option maxHeartbeats 4000000 in
theorem mm_5 : ∀ i : Fin 3, ∀ j : Fin 4, j.1 < txLen.getD i.1 0 → Cond.eq (.elem (.field (tmS i.1) "java/lang/String" "value" "[B") (.int (Int32.ofNat j.1))) (.int ((txByt.getD i.1 []).getD j.1 0)) ∈ flatC (Jvm.Cond.and given_1 narrow_1) := by decide +kernel
set_option maxHeartbeats 4000000 in
theorem mm_6 : ∀ i j : Fin 3, i.1 ≠ j.1 → Cond.not (Cond.eq (tmS i.1) (tmS j.1)) ∈ flatC (Jvm.Cond.and given_1 narrow_1) ∨ Cond.not (Cond.eq (tmS j.1) (tmS i.1)) ∈ flatC (Jvm.Cond.and given_1 narrow_1) := by decide +kernel
set_option maxHeartbeats 4000000 in
theorem mm_7 : ∀ i : Fin 3, txLen.getD i.1 0 ≤ 4 := by decide
set_option maxHeartbeats 4000000 in
theorem wk_c {c : Nat} (h : c < 7) : Cond.instantiable (cN c) (nF c) ∈ WS := by
  rcases (show c = 0 ∨ c = 1 ∨ c = 2 ∨ c = 3 ∨ c = 4 ∨ c = 5 ∨ c = 6 by omega) with rfl | rfl | rfl | rfl | rfl | rfl | rfl
  · exact wk_X0
  · exact wk_X1
  · exact wk_X2
  · exact wk_X3
  · exact wk_X4
  · exact wk_X5
  · exact wk_X6
set_option maxHeartbeats 4000000 in
theorem whole_start {p : Program} {e : Env} {s : State} {m : MethodId} {below : List Frame} {meth : Method} {c : Code} (l : Launch) (hflags : l.flags = flags0) {b L : Nat} {xs : Nat → Int32} (hL : L ≤ 3072) (C0 : lw_At p s m meth c b L xs) : W p l e room_1 s m #[Value.ref b] below meth c s.heap [] 0 0 (lw_Z below #[Value.ref b] s) (entryFrame m ([Value.ref b] : List Value).toArray 4) := by
  obtain ⟨hx, hb, hr, hml, hown, hts, hX, hbl, hlocks, hgv⟩ := id C0
  have hs := flat_of_before _ hgv
  have hA : ∀ a : Nat, a < s.heap.size → ¬ (fun q : Nat => s.heap.size ≤ q) a := fun a h => Nat.not_le.mpr h
  have hW : ∀ w ∈ WS, w.before #[Value.ref b] s = true := fun w hw => hts w (WS_sub w hw)
  obtain ⟨a0, ha0, hT0⟩ := va_Tof (tm := .static "ClawBox" "ABOVE" "[I") (ty := .int) (N := 7) (f := fun j => .int (aboveT j)) (A := fun q : Nat => s.heap.size ≤ q) (by decide) (hs _ (by decide +kernel)) (va_eqt (hs (Cond.eq (.length (.static "ClawBox" "ABOVE" "[I")) (.int (Int32.ofNat 7))) (by decide +kernel))) (fun j hj => va_eqt (hs _ (mm_A ⟨j, hj⟩))) hA
  obtain ⟨a1, ha1, hT1⟩ := va_Tof (tm := .static "ClawBox$Voices" "BODIES" "[I") (ty := .int) (N := 28) (f := fun j => .int (bodiesT j)) (A := fun q : Nat => s.heap.size ≤ q) (by decide) (hs _ (by decide +kernel)) (va_eqt (hs (Cond.eq (.length (.static "ClawBox$Voices" "BODIES" "[I")) (.int (Int32.ofNat 28))) (by decide +kernel))) (fun j hj => va_eqt (hs _ (mm_B ⟨j, hj⟩))) hA
  have hZ0 := va_Zof (A := fun q : Nat => s.heap.size ≤ q) (hts (.laysStatic "ClawBox" "ABOVE" "[I") (by decide +kernel)) (hts (.initialized "ClawBox") (by decide +kernel)) ha0 hA
  have hZ1 := va_Zof (A := fun q : Nat => s.heap.size ≤ q) (hts (.laysStatic "ClawBox$Voices" "BODIES" "[I") (by decide +kernel)) (hts (.initialized "ClawBox$Voices") (by decide +kernel)) ha1 hA
  have hZ2 := va_Zof (A := fun q : Nat => s.heap.size ≤ q) (hts (.laysStatic "java/lang/String" "COMPACT_STRINGS" "Z") (by decide +kernel)) (hts (.initialized "java/lang/String") (by decide +kernel)) (va_eqi (z := 1) (hs _ (by decide +kernel))) hA
  obtain ⟨adK, adV, hS3, hev⟩ := vk_Sof (N := 3) (tm := tmS) (len := txLen) (byt := txByt) (A := fun q : Nat => s.heap.size ≤ q) (args := #[Value.ref b]) (s := s) (fun i hi => Nat.lt_of_le_of_lt (mm_7 ⟨i, hi⟩) (by decide)) (fun i hi => hs _ (mm_1 ⟨i, hi⟩)) (fun i hi => hs _ (mm_2 ⟨i, hi⟩)) (fun i hi => hs _ (mm_3 ⟨i, hi⟩)) (fun i hi => hs _ (mm_4 ⟨i, hi⟩)) (fun i hi j hj => hs _ (mm_5 ⟨i, hi⟩ ⟨j, Nat.lt_of_lt_of_le hj (mm_7 ⟨i, hi⟩)⟩ hj)) (fun i j hi hj hne => (mm_6 ⟨i, hi⟩ ⟨j, hj⟩ hne).elim (fun h => Or.inl (hs _ h)) (fun h => Or.inr (hs _ h))) hA
  have hK0 : ∀ c : Nat, ∃ q : ClassId × (Nat → Nat), c < 7 → u_Kn s (cN c) (cT c) (nF c) q.1 q.2 := by
    intro c
    by_cases hc : c < 7
    · obtain ⟨cC, iS, h⟩ := u_known (C := cN c) (T := cT c) (N := nF c) (n := nF c) hW (cf_in hc) (hW _ (wk_c hc))
      exact ⟨(cC, iS), fun _ => h⟩
    · exact ⟨(0, fun _ => 0), fun h => absurd h hc⟩
  obtain ⟨D, hD⟩ := Classical.axiomOfChoice hK0
  obtain ⟨cI, kI, compI, f1, f2, f3⟩ := Cond.arrayClass_spec (args := #[Value.ref b]) (first := s) (o := none) (s := s) (idx := []) (type := .int) (hW _ wa_int)
  have hAO : (Cond.arrayOver (.object RX2)).before #[Value.ref b] s = true := hts _ (by decide +kernel)
  obtain ⟨compR, cR, kR, g1, g2, g3, g4, g5⟩ := Cond.arrayOver_spec (args := #[Value.ref b]) (first := s) (o := none) (s := s) (idx := []) (n := RX2) hAO
  have hK : va_K (fun c => (D c).1, fun c => (D c).2) vwCl [(cI, .int), (cR, .object RX2)] s := by
    refine ⟨fun c q hq => ?_, fun k q hq => ?_⟩
    · have hc : c < 7 := (List.getElem?_eq_some_iff.mp hq).1
      rw [cf_cl hc] at hq
      cases hq
      exact hD c hc
    · match k, hq with
      | 0, hq => cases hq; exact ⟨fun n z => ⟨fun k h => (by cases h), kI, f2, compI, f3⟩, f1⟩
      | 1, hq => cases hq; exact ⟨fun n z => ⟨fun k h => (by cases h), kR, g3, compR, g4⟩, kR, compR, g3, g4, g1, g5⟩
      | k + 2, hq => simp at hq
  obtain ⟨X, x0, x1, x2, x3, x4⟩ : ∃ X : Nat → Nat, X 0 = a0 ∧ X 1 = a1 ∧ X 2 = b ∧ (∀ i, i < 3 → X (3 + i) = adK i) ∧ ∀ i, i < 3 → X (13 + i) = adV i :=
    ⟨fun i => if i = 0 then a0 else if i = 1 then a1 else if i = 2 then b else if i < 13 then adK (i - 3) else adV (i - 13), rfl, rfl, rfl, fun i hi => by
      show (if 3 + i = 0 then a0 else if 3 + i = 1 then a1 else if 3 + i = 2 then b else if 3 + i < 13 then adK (3 + i - 3) else adV (3 + i - 13)) = _
      rw [if_neg (by omega), if_neg (by omega), if_neg (by omega), if_pos (by omega), show 3 + i - 3 = i by omega], fun i hi => by
      show (if 13 + i = 0 then a0 else if 13 + i = 1 then a1 else if 13 + i = 2 then b else if 13 + i < 13 then adK (13 + i - 3) else adV (13 + i - 13)) = _
      rw [if_neg (by omega), if_neg (by omega), if_neg (by omega), if_neg (by omega), show 13 + i - 13 = i by omega]⟩
  have hS4 : vk_S 3 txLen txByt (fun i => X (3 + i)) (fun i => X (13 + i)) (fun q : Nat => s.heap.size ≤ q) s s.heap := by
    refine ⟨fun i hi => ?_, fun i j hi hj e => ?_⟩
    · show va_O _ (X (3 + i)) _ _ _ ∧ va_OF _ _ _ _ (X (3 + i)) _ _ _ ∧ va_OF _ _ _ (.ref (X (13 + i))) (X (3 + i)) _ _ _ ∧ va_T _ (X (13 + i)) _ _ _ _ _
      rw [x3 i hi, x4 i hi]
      exact hS3.1 i hi
    · have e : X (3 + i) = X (3 + j) := e
      rw [x3 i hi, x3 j hj] at e
      exact hS3.2 i j hi hj e
  have hEx : Ex (l, s.heap.size, (fun c => (D c).1, fun c => (D c).2), (cI, cR), X, L, xs, true) s s.heap := by
    refine ⟨?_, ?_, ?_, ?_, hZ2, hS4, ?_, ?_, ?_, ⟨?_, ?_, ?_⟩, va_AO.of hAO, fun w hw => ?_⟩
    · show va_Z _ _ _ (.ref (X 0)) _ _ _
      rw [x0]; exact hZ0
    · show va_T _ (X 0) _ _ _ _ _
      rw [x0]; exact hT0
    · show va_Z _ _ _ (.ref (X 1)) _ _ _
      rw [x1]; exact hZ1
    · show va_T _ (X 1) _ _ _ _ _
      rw [x1]; exact hT1
    · show vk_R _ _ _ (X (3 + 0)) _
      rw [x3 0 (by decide)]; exact vk_R.of (hts (.stringRef "ClawBox" 173 "mouc") (by decide +kernel)) (hev 0 (by decide))
    · show vk_R _ _ _ (X (3 + 1)) _
      rw [x3 1 (by decide)]; exact vk_R.of (hts (.stringRef "ClawBox" 175 "wkm") (by decide +kernel)) (hev 1 (by decide))
    · show vk_R _ _ _ (X (3 + 2)) _
      rw [x3 2 (by decide)]; exact vk_R.of (hts (.stringRef "ClawBox$Reader" 20 "") (by decide +kernel)) (hev 2 (by decide))
    · show va_X (X 2) _ _ _ _
      rw [x2]; exact hX
    · show X 2 < s.heap.size
      rw [x2]; exact hbl
    · show X 2 < s.heap.size
      rw [x2]; exact hbl
    · obtain ⟨h1, h2⟩ := List.mem_filter.mp hw
      refine va_Nw.of ?_ (hts w (List.mem_append_right _ h1))
      revert h2
      cases w <;> intro h2 <;> first | rfl | exact absurd h2 (by simp [isN])
  have key := law_start (G := (l, s.heap.size, (fun c => (D c).1, fun c => (D c).2), (cI, cR), X, L, xs, true)) (nm := meth.name) rfl (WP.dn (WP.iconst (v := 0) dL_law_16 rfl (WP.istore_n (lv2 := lvL 0) dL_law_17 rfl (show 3 < 4 by decide) rfl (law_loop (G := (l, s.heap.size, (fun c => (D c).1, fun c => (D c).2), (cI, cR), X, L, xs, false)) rfl hL L 0 (Nat.sub_le _ _) (by decide) 10 1005 12 _ jV0))))
  have hl := lv_entry ([.ref b]) (n := 4) (Nat.le_of_ble_eq_true rfl)
  rw [lg_entry_eq]
  generalize (lg_sl ([.ref b]) ++ List.replicate (4 - (lg_sl ([.ref b])).length) Slot.unset).toArray = ls at hl ⊢
  have hl2 : lv_has ls 4 (lvm (l, s.heap.size, (fun c => (D c).1, fun c => (D c).2), (cI, cR), X, L, xs, true) [(0, .ref 1002)]) := by
    show lv_has ls 4 [(0, .ref (X 2))]
    rw [x2]
    exact hl
  have fin := key p e s m #[Value.ref b] below meth c ⟨hx, hb, hr, hml, hown, hW, hlocks, rfl, hK, hEx, Nat.le_refl _⟩ s.heap [] ls ⟨fun k q h => by simp [cells] at h, ⟨Nat.le_refl _, fun _ => rfl⟩, by decide⟩ va_S.rf hl2
  intro T hT Y
  obtain ⟨t, c1, c2⟩ := fin T hT Y
  exact ⟨t, c1, c2 rfl⟩

