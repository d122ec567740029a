-- 76.jdk
set_option maxHeartbeats 4000000 in
theorem dS79_0 : decode prog_11_method_79_code 0 = .ok (.aload_n 0, 1) := by decide +kernel
set_option maxHeartbeats 4000000 in
theorem dS79_1 : decode prog_11_method_79_code 1 = .ok (.iload_n 1, 1) := by decide +kernel
set_option maxHeartbeats 4000000 in
theorem dS79_2 : decode prog_11_method_79_code 2 = .ok (.iconst 0, 1) := by decide +kernel
set_option maxHeartbeats 4000000 in
theorem dS79_3 : decode prog_11_method_79_code 3 = .ok (.invokevirtual 633, 3) := by decide +kernel
set_option maxHeartbeats 4000000 in
theorem dS79_6 : decode prog_11_method_79_code 6 = .ok (.ireturn, 1) := by decide +kernel
set_option maxHeartbeats 4000000 in
theorem dS80_0 : decode prog_11_method_80_code 0 = .ok (.aload_n 0, 1) := by decide +kernel
set_option maxHeartbeats 4000000 in
theorem dS80_1 : decode prog_11_method_80_code 1 = .ok (.invokevirtual 492, 3) := by decide +kernel
set_option maxHeartbeats 4000000 in
theorem dS80_4 : decode prog_11_method_80_code 4 = .ok (.ifCond .eq 19, 3) := by decide +kernel
set_option maxHeartbeats 4000000 in
theorem dS80_7 : decode prog_11_method_80_code 7 = .ok (.aload_n 0, 1) := by decide +kernel
set_option maxHeartbeats 4000000 in
theorem dS80_8 : decode prog_11_method_80_code 8 = .ok (.getfield 9, 3) := by decide +kernel
set_option maxHeartbeats 4000000 in
theorem dS80_11 : decode prog_11_method_80_code 11 = .ok (.iload_n 1, 1) := by decide +kernel
set_option maxHeartbeats 4000000 in
theorem dS80_12 : decode prog_11_method_80_code 12 = .ok (.iload_n 2, 1) := by decide +kernel
set_option maxHeartbeats 4000000 in
theorem dS80_13 : decode prog_11_method_80_code 13 = .ok (.aload_n 0, 1) := by decide +kernel
set_option maxHeartbeats 4000000 in
theorem dS80_14 : decode prog_11_method_80_code 14 = .ok (.invokevirtual 505, 3) := by decide +kernel
set_option maxHeartbeats 4000000 in
theorem dS80_17 : decode prog_11_method_80_code 17 = .ok (.invokestatic 637, 3) := by decide +kernel
set_option maxHeartbeats 4000000 in
theorem dS80_20 : decode prog_11_method_80_code 20 = .ok (.goto 16, 3) := by decide +kernel
set_option maxHeartbeats 4000000 in
theorem dS80_36 : decode prog_11_method_80_code 36 = .ok (.ireturn, 1) := by decide +kernel
set_option maxHeartbeats 4000000 in
theorem dS154_0 : decode prog_11_method_154_code 0 = .ok (.getstatic 38, 3) := by decide +kernel
set_option maxHeartbeats 4000000 in
theorem dS154_3 : decode prog_11_method_154_code 3 = .ok (.ifCond .eq 14, 3) := by decide +kernel
set_option maxHeartbeats 4000000 in
theorem dS154_6 : decode prog_11_method_154_code 6 = .ok (.aload_n 0, 1) := by decide +kernel
set_option maxHeartbeats 4000000 in
theorem dS154_7 : decode prog_11_method_154_code 7 = .ok (.getfield 15, 3) := by decide +kernel
set_option maxHeartbeats 4000000 in
theorem dS154_10 : decode prog_11_method_154_code 10 = .ok (.ifCond .ne 7, 3) := by decide +kernel
set_option maxHeartbeats 4000000 in
theorem dS154_13 : decode prog_11_method_154_code 13 = .ok (.iconst 1, 1) := by decide +kernel
set_option maxHeartbeats 4000000 in
theorem dS154_14 : decode prog_11_method_154_code 14 = .ok (.goto 4, 3) := by decide +kernel
set_option maxHeartbeats 4000000 in
theorem dS154_18 : decode prog_11_method_154_code 18 = .ok (.ireturn, 1) := by decide +kernel
set_option maxHeartbeats 4000000 in
theorem dS54_0 : decode prog_11_method_54_code 0 = .ok (.aload_n 0, 1) := by decide +kernel
set_option maxHeartbeats 4000000 in
theorem dS54_1 : decode prog_11_method_54_code 1 = .ok (.getfield 9, 3) := by decide +kernel
set_option maxHeartbeats 4000000 in
theorem dS54_4 : decode prog_11_method_54_code 4 = .ok (.arraylength, 1) := by decide +kernel
set_option maxHeartbeats 4000000 in
theorem dS54_5 : decode prog_11_method_54_code 5 = .ok (.aload_n 0, 1) := by decide +kernel
set_option maxHeartbeats 4000000 in
theorem dS54_6 : decode prog_11_method_54_code 6 = .ok (.invokevirtual 335, 3) := by decide +kernel
set_option maxHeartbeats 4000000 in
theorem dS54_9 : decode prog_11_method_54_code 9 = .ok (.ishr, 1) := by decide +kernel
set_option maxHeartbeats 4000000 in
theorem dS54_10 : decode prog_11_method_54_code 10 = .ok (.ireturn, 1) := by decide +kernel
set_option maxHeartbeats 4000000 in
theorem dS152_0 : decode prog_11_method_152_code 0 = .ok (.getstatic 38, 3) := by decide +kernel
set_option maxHeartbeats 4000000 in
theorem dS152_3 : decode prog_11_method_152_code 3 = .ok (.ifCond .eq 10, 3) := by decide +kernel
set_option maxHeartbeats 4000000 in
theorem dS152_6 : decode prog_11_method_152_code 6 = .ok (.aload_n 0, 1) := by decide +kernel
set_option maxHeartbeats 4000000 in
theorem dS152_7 : decode prog_11_method_152_code 7 = .ok (.getfield 15, 3) := by decide +kernel
set_option maxHeartbeats 4000000 in
theorem dS152_10 : decode prog_11_method_152_code 10 = .ok (.goto 4, 3) := by decide +kernel
set_option maxHeartbeats 4000000 in
theorem dS152_14 : decode prog_11_method_152_code 14 = .ok (.ireturn, 1) := by decide +kernel
set_option maxHeartbeats 4000000 in
theorem dL22_0 : decode prog_12_method_22_code 0 = .ok (.iload_n 1, 1) := by decide +kernel
set_option maxHeartbeats 4000000 in
theorem dL22_1 : decode prog_12_method_22_code 1 = .ok (.invokestatic 88, 3) := by decide +kernel
set_option maxHeartbeats 4000000 in
theorem dL22_4 : decode prog_12_method_22_code 4 = .ok (.ifCond .ne 5, 3) := by decide +kernel
set_option maxHeartbeats 4000000 in
theorem dL22_9 : decode prog_12_method_22_code 9 = .ok (.iload_n 2, 1) := by decide +kernel
set_option maxHeartbeats 4000000 in
theorem dL22_10 : decode prog_12_method_22_code 10 = .ok (.iconst 0, 1) := by decide +kernel
set_option maxHeartbeats 4000000 in
theorem dL22_11 : decode prog_12_method_22_code 11 = .ok (.invokestatic 92, 3) := by decide +kernel
set_option maxHeartbeats 4000000 in
theorem dL22_14 : decode prog_12_method_22_code 14 = .ok (.istore_n 2, 1) := by decide +kernel
set_option maxHeartbeats 4000000 in
theorem dL22_15 : decode prog_12_method_22_code 15 = .ok (.iload_n 3, 1) := by decide +kernel
set_option maxHeartbeats 4000000 in
theorem dL22_16 : decode prog_12_method_22_code 16 = .ok (.aload_n 0, 1) := by decide +kernel
set_option maxHeartbeats 4000000 in
theorem dL22_17 : decode prog_12_method_22_code 17 = .ok (.arraylength, 1) := by decide +kernel
set_option maxHeartbeats 4000000 in
theorem dL22_18 : decode prog_12_method_22_code 18 = .ok (.invokestatic 38, 3) := by decide +kernel
set_option maxHeartbeats 4000000 in
theorem dL22_21 : decode prog_12_method_22_code 21 = .ok (.istore_n 3, 1) := by decide +kernel
set_option maxHeartbeats 4000000 in
theorem dL22_22 : decode prog_12_method_22_code 22 = .ok (.iload_n 2, 1) := by decide +kernel
set_option maxHeartbeats 4000000 in
theorem dL22_23 : decode prog_12_method_22_code 23 = .ok (.iload_n 3, 1) := by decide +kernel
set_option maxHeartbeats 4000000 in
theorem dL22_24 : decode prog_12_method_22_code 24 = .ok (.if_icmp .lt 5, 3) := by decide +kernel
set_option maxHeartbeats 4000000 in
theorem dL22_27 : decode prog_12_method_22_code 27 = .ok (.iconst (-1), 1) := by decide +kernel
set_option maxHeartbeats 4000000 in
theorem dL22_28 : decode prog_12_method_22_code 28 = .ok (.ireturn, 1) := by decide +kernel
set_option maxHeartbeats 4000000 in
theorem dL22_29 : decode prog_12_method_22_code 29 = .ok (.aload_n 0, 1) := by decide +kernel
set_option maxHeartbeats 4000000 in
theorem dL22_30 : decode prog_12_method_22_code 30 = .ok (.iload_n 1, 1) := by decide +kernel
set_option maxHeartbeats 4000000 in
theorem dL22_31 : decode prog_12_method_22_code 31 = .ok (.iload_n 2, 1) := by decide +kernel
set_option maxHeartbeats 4000000 in
theorem dL22_32 : decode prog_12_method_22_code 32 = .ok (.iload_n 3, 1) := by decide +kernel
set_option maxHeartbeats 4000000 in
theorem dL22_33 : decode prog_12_method_22_code 33 = .ok (.invokestatic 95, 3) := by decide +kernel
set_option maxHeartbeats 4000000 in
theorem dL22_36 : decode prog_12_method_22_code 36 = .ok (.ireturn, 1) := by decide +kernel
set_option maxHeartbeats 4000000 in
theorem dL4_0 : decode prog_12_method_4_code 0 = .ok (.iload_n 0, 1) := by decide +kernel
set_option maxHeartbeats 4000000 in
theorem dL4_1 : decode prog_12_method_4_code 1 = .ok (.ifCond .lt 14, 3) := by decide +kernel
set_option maxHeartbeats 4000000 in
theorem dL4_4 : decode prog_12_method_4_code 4 = .ok (.iload_n 0, 1) := by decide +kernel
set_option maxHeartbeats 4000000 in
theorem dL4_5 : decode prog_12_method_4_code 5 = .ok (.sipush 255, 3) := by decide +kernel
set_option maxHeartbeats 4000000 in
theorem dL4_8 : decode prog_12_method_4_code 8 = .ok (.if_icmp .gt 7, 3) := by decide +kernel
set_option maxHeartbeats 4000000 in
theorem dL4_11 : decode prog_12_method_4_code 11 = .ok (.iconst 1, 1) := by decide +kernel
set_option maxHeartbeats 4000000 in
theorem dL4_12 : decode prog_12_method_4_code 12 = .ok (.goto 4, 3) := by decide +kernel
set_option maxHeartbeats 4000000 in
theorem dL4_16 : decode prog_12_method_4_code 16 = .ok (.ireturn, 1) := by decide +kernel
set_option maxHeartbeats 4000000 in
theorem dL23_0 : decode prog_12_method_23_code 0 = .ok (.iload_n 1, 1) := by decide +kernel
set_option maxHeartbeats 4000000 in
theorem dL23_1 : decode prog_12_method_23_code 1 = .ok (.i2b, 1) := by decide +kernel
set_option maxHeartbeats 4000000 in
theorem dL23_2 : decode prog_12_method_23_code 2 = .ok (.istore 4, 2) := by decide +kernel
set_option maxHeartbeats 4000000 in
theorem dL23_4 : decode prog_12_method_23_code 4 = .ok (.iload_n 2, 1) := by decide +kernel
set_option maxHeartbeats 4000000 in
theorem dL23_5 : decode prog_12_method_23_code 5 = .ok (.istore 5, 2) := by decide +kernel
set_option maxHeartbeats 4000000 in
theorem dL23_7 : decode prog_12_method_23_code 7 = .ok (.iload 5, 2) := by decide +kernel
set_option maxHeartbeats 4000000 in
theorem dL23_9 : decode prog_12_method_23_code 9 = .ok (.iload_n 3, 1) := by decide +kernel
set_option maxHeartbeats 4000000 in
theorem dL23_10 : decode prog_12_method_23_code 10 = .ok (.if_icmp .ge 21, 3) := by decide +kernel
set_option maxHeartbeats 4000000 in
theorem dL23_13 : decode prog_12_method_23_code 13 = .ok (.aload_n 0, 1) := by decide +kernel
set_option maxHeartbeats 4000000 in
theorem dL23_14 : decode prog_12_method_23_code 14 = .ok (.iload 5, 2) := by decide +kernel
set_option maxHeartbeats 4000000 in
theorem dL23_16 : decode prog_12_method_23_code 16 = .ok (.baload, 1) := by decide +kernel
set_option maxHeartbeats 4000000 in
theorem dL23_17 : decode prog_12_method_23_code 17 = .ok (.iload 4, 2) := by decide +kernel
set_option maxHeartbeats 4000000 in
theorem dL23_19 : decode prog_12_method_23_code 19 = .ok (.if_icmp .ne 6, 3) := by decide +kernel
set_option maxHeartbeats 4000000 in
theorem dL23_22 : decode prog_12_method_23_code 22 = .ok (.iload 5, 2) := by decide +kernel
set_option maxHeartbeats 4000000 in
theorem dL23_24 : decode prog_12_method_23_code 24 = .ok (.ireturn, 1) := by decide +kernel
set_option maxHeartbeats 4000000 in
theorem dL23_25 : decode prog_12_method_23_code 25 = .ok (.iinc 5 1, 3) := by decide +kernel
set_option maxHeartbeats 4000000 in
theorem dL23_28 : decode prog_12_method_23_code 28 = .ok (.goto (-21), 3) := by decide +kernel
set_option maxHeartbeats 4000000 in
theorem dL23_31 : decode prog_12_method_23_code 31 = .ok (.iconst (-1), 1) := by decide +kernel
set_option maxHeartbeats 4000000 in
theorem dL23_32 : decode prog_12_method_23_code 32 = .ok (.ireturn, 1) := by decide +kernel

def tb (i j : Nat) : Int32 := (txByt.getD i []).getD j 0
def tl (i : Nat) : Nat := txLen.getD i 0
-- the place of a byte in a text, from a place on
def srch (i : Nat) (z : Int32) : Nat → Nat → Int32
  | 0, _ => -1
  | k + 1, j => if tb i j = z then Int32.ofNat j else srch i z k (j + 1)
set_option maxHeartbeats 4000000 in
theorem gr_k {G : Gm} (i : Nat) : gr G (1003 + i) = gX G (3 + i) := by unfold gr; rw [if_neg (by omega), show 1003 + i - 1000 = 3 + i by omega]
set_option maxHeartbeats 4000000 in
theorem gr_v {G : Gm} (i : Nat) : gr G (1013 + i) = gX G (13 + i) := by unfold gr; rw [if_neg (by omega), show 1013 + i - 1000 = 13 + i by omega]
abbrev mS_indexOf2 : Mi := (⟨"java/lang/String", "indexOf", "(II)I"⟩, prog_11_method_80_code, 3, some .int, "java/lang/String")
abbrev mS_isLatin1 : Mi := (⟨"java/lang/String", "isLatin1", "()Z"⟩, prog_11_method_154_code, 1, some .boolean, "java/lang/String")
abbrev mS_length : Mi := (⟨"java/lang/String", "length", "()I"⟩, prog_11_method_54_code, 1, some .int, "java/lang/String")
abbrev mS_coder : Mi := (⟨"java/lang/String", "coder", "()B"⟩, prog_11_method_152_code, 1, some .byte, "java/lang/String")
abbrev mL_indexOf : Mi := (⟨"java/lang/StringLatin1", "indexOf", "([BIII)I"⟩, prog_12_method_22_code, 4, some .int, "java/lang/StringLatin1")
abbrev mL_canEncode : Mi := (⟨"java/lang/StringLatin1", "canEncode", "(I)Z"⟩, prog_12_method_4_code, 1, some .boolean, "java/lang/StringLatin1")
abbrev mL_indexOfChar : Mi := (⟨"java/lang/StringLatin1", "indexOfChar", "([BIII)I"⟩, prog_12_method_23_code, 6, some .int, "java/lang/StringLatin1")
set_option maxHeartbeats 4000000 in
theorem mw_S_indexOf2 : MWv mS_indexOf2 2 := ⟨⟨wz_String, wc_String_indexOf_III, rfl, ⟨by decide +kernel, by decide +kernel, by decide +kernel⟩, by decide⟩, wi_String_indexOf_III, ws_String_indexOf_III⟩
set_option maxHeartbeats 4000000 in
theorem mw_S_isLatin1 : MWv mS_isLatin1 0 := ⟨⟨wz_String, wc_String_isLatin1_Z, rfl, ⟨by decide +kernel, by decide +kernel, by decide +kernel⟩, by decide⟩, wi_String_isLatin1_Z, ws_String_isLatin1_Z⟩
set_option maxHeartbeats 4000000 in
theorem mw_S_length : MWv mS_length 0 := ⟨⟨wz_String, wc_String_length_I, rfl, ⟨by decide +kernel, by decide +kernel, by decide +kernel⟩, by decide⟩, wi_String_length_I, ws_String_length_I⟩
set_option maxHeartbeats 4000000 in
theorem mw_S_coder : MWv mS_coder 0 := ⟨⟨wz_String, wc_String_coder_B, rfl, ⟨by decide +kernel, by decide +kernel, by decide +kernel⟩, by decide⟩, wi_String_coder_B, ws_String_coder_B⟩
set_option maxHeartbeats 4000000 in
theorem mw_L_indexOf : MWs mL_indexOf 4 := ⟨⟨wz_StringLatin1, wc_StringLatin1_indexOf_BIIII, rfl, ⟨by decide +kernel, by decide +kernel, by decide +kernel⟩, by decide⟩, wi_StringLatin1_indexOf_BIIII⟩
set_option maxHeartbeats 4000000 in
theorem mw_L_canEncode : MWs mL_canEncode 1 := ⟨⟨wz_StringLatin1, wc_StringLatin1_canEncode_IZ, rfl, ⟨by decide +kernel, by decide +kernel, by decide +kernel⟩, by decide⟩, wi_StringLatin1_canEncode_IZ⟩
set_option maxHeartbeats 4000000 in
theorem mw_L_indexOfChar : MWs mL_indexOfChar 4 := ⟨⟨wz_StringLatin1, wc_StringLatin1_indexOfChar_BIIII, rfl, ⟨by decide +kernel, by decide +kernel, by decide +kernel⟩, by decide⟩, wi_StringLatin1_indexOfChar_BIIII⟩
section
variable {G : Gm} {R : Room} {mi : Mi} {Qf : Qfun} {kc ks pc : Nat} {lv lv2 : List (Nat × Value)} {st : List Value} {S : St}
set_option maxHeartbeats 4000000 in
theorem WP.callS2 {y : Mi} {index n d mc ms : Nat} {As : List Value} {K' : Option Value → St → Prop} (hdg : decode mi.2.1 pc = .ok (.invokestatic index, 3)) (hl : Cond.methodLink mi.2.2.2.2 index y.1 ∈ WS) (mw : MWs y n) (hn : As.length = n) (hst : (st.map fun v => v.category).sum ≤ 8) (hR : rmOk R d kc ks mc ms)
    (hM : Ctr G y d mc ms As S K') (kk : ∀ v S', K' v S' → WP G R mi Qf (kc + mc) (ks + ms) (pc + 3) lv (v.toList ++ st) S') : WP G R mi Qf kc ks pc lv (As.reverse ++ st) S := by
  intro p e s m args below meth c E H locs ls hW hS hlv
  obtain ⟨⟨w1, w2, w3, w4, w5⟩, w6⟩ := mw
  have hts := E.2.2.2.2.2.1
  rw [List.map_append, List.map_reverse]
  refine va_callK (K' := K') (rest := st.map (rv G)) (va_runS (As := As.map (rv G)) ⟨E.1, E.2.1, E.2.2.2.1, E.2.2.2.2.1, hts⟩ hM (va_cwS n hts (goodWS (G := G) (pre := [.methodLink mi.2.2.2.2 index y.1, .static y.1, .initialized y.1.cls]) ?_ w2) rfl rfl rfl w4 ⟨hR.1, by have := hR.2.1; show 8 + (y.2.2.1 + 11) + 64 * d ≤ _; omega⟩) ⟨blind G _ S, ?_⟩ rfl (by rw [List.length_map]; exact hn) hlv.1 rfl (lv_room (by rw [cat_rv]; exact hst)) hdg hR.2.2) hS (fun v S' H1 locs1 hK hW1 hS1 => ?_)
  · intro w hw
    simp only [List.mem_cons, List.mem_nil_iff, or_false] at hw
    rw [← w3] at w1
    rcases hw with rfl | rfl | rfl <;> assumption
  · exact preOf E hW hS
  · have := kk v S' hK p e s m args below meth c E H1 locs1 ls hW1 hS1 hlv
    rw [List.map_append] at this
    cases v <;> exact this
set_option maxHeartbeats 4000000 in
theorem WP.bldT {x : Int32} {i : Nat} (hi : i < 3) (hin : InB x (tl i)) (hd : decode mi.2.1 pc = .ok (.baload, 1)) (k : WP G R mi Qf kc ks (pc + 1) lv (.int (tb i x.toNatClampNeg) :: st) S) : WP G R mi Qf kc ks pc lv (.int x :: .ref (1013 + i) :: st) S := by
  intro p e s m args below meth c E H locs ls hW hS hl
  show W _ _ _ _ _ _ _ _ _ _ _ _ _ _ _ (F0 m pc ls (.int x :: .ref (gr G (1013 + i)) :: st.map (rv G)))
  rw [gr_v]
  exact va_tb E.1 E.2.1 (E.2.2.2.2.2.2.2.2.2.1.2.2.2.2.2.1.1 i hi).2.2.2 hS hin rfl hd (k p e s m args below meth c E H locs ls hW hS hl)
set_option maxHeartbeats 4000000 in
theorem WP.lenT {i : Nat} (hi : i < 3) (hd : decode mi.2.1 pc = .ok (.arraylength, 1)) (k : WP G R mi Qf kc ks (pc + 1) lv (.int (Int32.ofNat (tl i)) :: st) S) : WP G R mi Qf kc ks pc lv (.ref (1013 + i) :: st) S := by
  intro p e s m args below meth c E H locs ls hW hS hl
  show W _ _ _ _ _ _ _ _ _ _ _ _ _ _ _ (F0 m pc ls (.ref (gr G (1013 + i)) :: st.map (rv G)))
  rw [gr_v]
  exact va_tlen E.1 E.2.1 (E.2.2.2.2.2.2.2.2.2.1.2.2.2.2.2.1.1 i hi).2.2.2 hS rfl hd (k p e s m args below meth c E H locs ls hW hS hl)
set_option maxHeartbeats 4000000 in
theorem WP.coderT {i index : Nat} (hi : i < 3) (hw : Cond.fieldLink mi.2.2.2.2 index "java/lang/String" "coder" "B" ∈ WS) (hd : decode mi.2.1 pc = .ok (.getfield index, 3)) (k : WP G R mi Qf kc ks (pc + 3) lv (.int 0 :: st) S) : WP G R mi Qf kc ks pc lv (.ref (1003 + i) :: st) S := by
  intro p e s m args below meth c E H locs ls hW hS hl
  show W _ _ _ _ _ _ _ _ _ _ _ _ _ _ _ (F0 m pc ls (.ref (gr G (1003 + i)) :: st.map (rv G)))
  rw [gr_k]
  exact vk_getf E.1 E.2.1 (E.2.2.2.2.2.2.2.2.2.1.2.2.2.2.2.1.1 i hi).2.1 hS E.2.2.2.2.1 (E.2.2.2.2.2.1 _ hw) (fun x h => h) hd (k p e s m args below meth c E H locs ls hW hS hl)
set_option maxHeartbeats 4000000 in
theorem WP.valueT {i index : Nat} (hi : i < 3) (hw : Cond.fieldLink mi.2.2.2.2 index "java/lang/String" "value" "[B" ∈ WS) (hd : decode mi.2.1 pc = .ok (.getfield index, 3)) (k : WP G R mi Qf kc ks (pc + 3) lv (.ref (1013 + i) :: st) S) : WP G R mi Qf kc ks pc lv (.ref (1003 + i) :: st) S := by
  intro p e s m args below meth c E H locs ls hW hS hl
  show W _ _ _ _ _ _ _ _ _ _ _ _ _ _ _ (F0 m pc ls (.ref (gr G (1003 + i)) :: st.map (rv G)))
  rw [gr_k]
  have q := k p e s m args below meth c E H locs ls hW hS hl
  have q2 : W _ _ _ _ _ _ _ _ _ _ _ _ _ _ _ (F0 m (pc + 3) ls (.ref (gr G (1013 + i)) :: st.map (rv G))) := q
  rw [gr_v] at q2
  exact vk_getf E.1 E.2.1 (E.2.2.2.2.2.2.2.2.2.1.2.2.2.2.2.1.1 i hi).2.2.1 hS E.2.2.2.2.1 (E.2.2.2.2.2.1 _ hw) (fun x h => h) hd q2
set_option maxHeartbeats 4000000 in
theorem WP.compactT {index : Nat} (hw : Cond.fieldLink mi.2.2.2.2 index "java/lang/String" "COMPACT_STRINGS" "Z" ∈ WS) (hd : decode mi.2.1 pc = .ok (.getstatic index, 3)) (k : WP G R mi Qf kc ks (pc + 3) lv (.int 1 :: st) S) : WP G R mi Qf kc ks pc lv st S :=
  fun p e s m args below meth c E H locs ls hW hS hl => va_gets E.1 E.2.1 E.2.2.2.2.2.2.2.2.2.1.2.2.2.2.1 hS E.2.2.2.2.1 (E.2.2.2.2.2.1 _ hw) (fun x h => h) hd (k p e s m args below meth c E H locs ls hW hS hl)
set_option maxHeartbeats 4000000 in
theorem WP.bret {K : Option Value → St → Prop} {mc ms : Nat} {x : Int32} (hd : decode mi.2.1 pc = .ok (.ireturn, 1)) (hr : mi.2.2.2.1 = some .byte) (hc : kc ≤ mc) (hs : ks ≤ ms) (hn : narrow .byte (.int x) = .int x) (k : K (some (.int x)) S) : WP G R mi (QfK G K mc ms) kc ks pc lv [.int x] S :=
  fun p e s m args below meth c E H locs ls hW hS hl => W.widen hc hs (W.zret E.1 E.2.1 (E.2.2.1.trans hr) hn (retQ E hW hS (some (.int x)) k) hS.2.2 hd (hlocks := E.2.2.2.2.2.2.1))
end
section
variable {G : Gm} {d : Nat} {sh : List Shp} {ta : Nat → Nat → Option Nat} {m : Mem} {K : Option Value → Mem → Prop}
set_option maxHeartbeats 4000000 in
theorem tl_le {i : Nat} (hi : i < 3) : tl i ≤ 4 := by rcases (show i = 0 ∨ i = 1 ∨ i = 2 by omega) with rfl | rfl | rfl <;> decide
set_option maxHeartbeats 4000000 in
theorem isTx_k {i : Nat} (hi : i < 3) : isTx (1003 + i) := by rcases (show i = 0 ∨ i = 1 ∨ i = 2 by omega) with rfl | rfl | rfl <;> simp [isTx]
set_option maxHeartbeats 4000000 in
theorem c_S_coder (hd : 1 ≤ d) {i : Nat} (hi : i < 3) (k : K (some (.int 0)) m) : Cal G mS_coder d [.ref (1003 + i)] sh ta m K := by
  obtain ⟨d, rfl⟩ : ∃ e, d = e + 1 := ⟨d - 1, by omega⟩
  refine Cal.of (by decide +kernel) rfl (Nat.le_of_ble_eq_true rfl) ?_
  show WP G _ _ _ 0 0 0 [(0, .ref (1003 + i))] [] (sh, ta, m)
  refine WP.compactT wf_String_38 dS152_0 ?_
  refine WP.if_eq (tgt := 13) dS152_3 (by decide) (fun c => absurd c (by decide)) (fun _ => ?_)
  refine WP.aload_n 0 dS152_6 rfl rfl ?_
  refine WP.coderT hi wf_String_15 dS152_7 ?_
  refine WP.goto (tgt := 14) dS152_10 (by decide) ?_
  exact WP.bret dS152_14 rfl (Nat.le_refl _) (Nat.le_refl _) rfl ⟨_, rfl, k⟩
set_option maxHeartbeats 4000000 in
theorem c_S_isLatin1 (hd : 1 ≤ d) {i : Nat} (hi : i < 3) (k : K (some (.int 1)) m) : Cal G mS_isLatin1 d [.ref (1003 + i)] sh ta m K := by
  obtain ⟨d, rfl⟩ : ∃ e, d = e + 1 := ⟨d - 1, by omega⟩
  refine Cal.of (by decide +kernel) rfl (Nat.le_of_ble_eq_true rfl) ?_
  show WP G _ _ _ 0 0 0 [(0, .ref (1003 + i))] [] (sh, ta, m)
  refine WP.compactT wf_String_38 dS154_0 ?_
  refine WP.if_eq (tgt := 17) dS154_3 (by decide) (fun c => absurd c (by decide)) (fun _ => ?_)
  refine WP.aload_n 0 dS154_6 rfl rfl ?_
  refine WP.coderT hi wf_String_15 dS154_7 ?_
  refine WP.if_ne (tgt := 17) dS154_10 (by decide) (fun c => absurd rfl c) (fun _ => ?_)
  refine WP.iconst (v := 1) dS154_13 rfl ?_
  refine WP.goto (tgt := 18) dS154_14 (by decide) ?_
  exact WP.zret dS154_18 rfl (Nat.le_refl _) (Nat.le_refl _) rfl ⟨_, rfl, k⟩
set_option maxHeartbeats 4000000 in
theorem c_S_length (hd : 2 ≤ d) {i : Nat} (hi : i < 3) (k : K (some (.int (Int32.ofNat (tl i)))) m) : Cal G mS_length d [.ref (1003 + i)] sh ta m K := by
  obtain ⟨d, rfl⟩ : ∃ e, d = e + 1 := ⟨d - 1, by omega⟩
  refine Cal.of (by decide +kernel) rfl (Nat.le_of_ble_eq_true rfl) ?_
  show WP G _ _ _ 0 0 0 [(0, .ref (1003 + i))] [] (sh, ta, m)
  refine WP.aload_n 0 dS54_0 rfl rfl ?_
  refine WP.valueT hi wf_String_9 dS54_1 ?_
  refine WP.lenT hi dS54_4 ?_
  refine WP.aload_n 0 dS54_5 rfl rfl ?_
  refine WP.callStr (y := mS_coder) (As := []) (st := [.int (Int32.ofNat (tl i))]) dS54_6 wm_String_335 mw_S_coder rfl (Nat.le_of_ble_eq_true rfl) (rmok d) (isTx_k hi) rfl (c_S_coder (K := fun v m' => v = some (.int 0) ∧ m' = m) (by omega) hi ⟨rfl, rfl⟩) (fun v S' h => ?_)
  obtain ⟨m', rfl, rfl, rfl⟩ := h
  show WP G _ _ _ 0 0 9 [(0, .ref (1003 + i))] [.int 0, .int (Int32.ofNat (tl i))] (sh, ta, m')
  refine WP.ishr dS54_9 ?_
  rw [show (Int32.ofNat (tl i)) >>> ((0 : Int32) &&& 31) = Int32.ofNat (tl i) by rcases (show i = 0 ∨ i = 1 ∨ i = 2 by omega) with rfl | rfl | rfl <;> decide]
  exact WP.iret dS54_10 rfl (Nat.le_refl _) (Nat.le_refl _) ⟨_, rfl, k⟩
set_option maxHeartbeats 4000000 in
theorem c_L_canEncode (hd : 1 ≤ d) {c : Int32} (h0 : 0 ≤ c) (h1 : c ≤ 255) (k : K (some (.int 1)) m) : Cal G mL_canEncode d [.int c] sh ta m K := by
  obtain ⟨d, rfl⟩ : ∃ e, d = e + 1 := ⟨d - 1, by omega⟩
  refine Cal.of (by decide +kernel) rfl (Nat.le_of_ble_eq_true rfl) ?_
  show WP G _ _ _ 0 0 0 [(0, .int c)] [] (sh, ta, m)
  refine WP.iload_n 0 dL4_0 rfl rfl ?_
  refine WP.if_lt (tgt := 15) dL4_1 (by decide) (fun c => absurd h0 (by lia)) (fun _ => ?_)
  refine WP.iload_n 0 dL4_4 rfl rfl ?_
  refine WP.sipush (v := 255) dL4_5 rfl ?_
  refine WP.icmp_gt (tgt := 15) dL4_8 (by decide) (fun c => absurd h1 (by lia)) (fun _ => ?_)
  refine WP.iconst (v := 1) dL4_11 rfl ?_
  refine WP.goto (tgt := 16) dL4_12 (by decide) ?_
  exact WP.zret dL4_16 rfl (Nat.le_refl _) (Nat.le_refl _) rfl ⟨_, rfl, k⟩
set_option maxHeartbeats 4000000 in
theorem sr_loop {i : Nat} (hi : i < 3) {c z : Int32} : ∀ (k j : Nat), j + k = tl i → K (some (.int (srch i z k j))) m → WP G (rmD (d + 1) 0 0) mL_indexOfChar (QC G sh ta K) 0 0 7 [(0, .ref (1013 + i)), (1, .int c), (2, .int 0), (3, .int (Int32.ofNat (tl i))), (4, .int z), (5, .int (Int32.ofNat j))] [] (sh, ta, m) := by
  intro k
  induction k with
  | zero =>
    intro j hj h
    refine WP.iload 5 dL23_7 rfl ?_
    refine WP.iload_n 3 dL23_9 rfl rfl ?_
    refine WP.icmp_ge (tgt := 31) dL23_10 (by decide) (fun _ => ?_) (fun c => absurd (show Int32.ofNat (tl i) ≤ Int32.ofNat j by rw [show j = tl i by omega]; exact Int32.le_refl _) c)
    refine WP.iconst (v := -1) dL23_31 rfl ?_
    exact WP.iret dL23_32 rfl (Nat.le_refl _) (Nat.le_refl _) ⟨_, rfl, h⟩
  | succ k ih =>
    intro j hj h
    have h4 := tl_le hi
    refine WP.iload 5 dL23_7 rfl ?_
    refine WP.iload_n 3 dL23_9 rfl rfl ?_
    refine WP.icmp_ge (tgt := 31) dL23_10 (by decide) (fun c => absurd c (by have := o_lt (a := j) (b := tl i) (by omega) (by omega); have := this.mpr (by omega); lia)) (fun _ => ?_)
    refine WP.aload_n 0 dL23_13 rfl rfl ?_
    refine WP.iload 5 dL23_14 rfl ?_
    refine WP.bldT hi (show ¬ _ by rw [tn_o (by omega)]; exact fun c => Or.elim c (fun c => absurd ((o_lt (a := j) (b := 0) (by omega) (by decide)).mp c) (by omega)) (fun c => by omega)) dL23_16 ?_
    refine WP.iload 4 dL23_17 rfl ?_
    rw [tn_o (by omega)]
    refine WP.icmp_ne (tgt := 25) dL23_19 (by decide) (fun c => ?_) (fun c => ?_)
    · refine WP.iinc 5 1 dL23_25 rfl rfl (by decide) rfl ?_
      refine WP.goto (tgt := 7) dL23_28 (by decide) ?_
      refine WP.pick [1, 2, 3, 4, 5, 0] rfl ?_
      rw [show Int32.ofNat j + 1 = Int32.ofNat (j + 1) from o_add j 1]
      refine ih (j + 1) (by omega) ?_
      rw [srch, if_neg c] at h
      exact h
    · refine WP.iload 5 dL23_22 rfl ?_
      rw [srch, if_pos c] at h
      exact WP.iret dL23_24 rfl (Nat.le_refl _) (Nat.le_refl _) ⟨_, rfl, h⟩
set_option maxHeartbeats 4000000 in
theorem c_L_indexOfChar (hd : 1 ≤ d) {i : Nat} (hi : i < 3) {c : Int32} (k : K (some (.int (srch i c.toInt8.toInt32 (tl i) 0))) m) : Cal G mL_indexOfChar d [.ref (1013 + i), .int c, .int 0, .int (Int32.ofNat (tl i))] sh ta m K := by
  obtain ⟨d, rfl⟩ : ∃ e, d = e + 1 := ⟨d - 1, by omega⟩
  refine Cal.of (by decide +kernel) rfl (Nat.le_of_ble_eq_true rfl) ?_
  show WP G _ _ _ 0 0 0 [(0, .ref (1013 + i)), (1, .int c), (2, .int 0), (3, .int (Int32.ofNat (tl i)))] [] (sh, ta, m)
  refine WP.iload_n 1 dL23_0 rfl rfl ?_
  refine WP.i2b dL23_1 ?_
  refine WP.istore dL23_2 (by decide) rfl ?_
  refine WP.iload_n 3 dL23_4 rfl rfl ?_
  refine WP.istore dL23_5 (by decide) rfl ?_
  refine WP.pick [2, 3, 4, 5, 1, 0] rfl ?_
  exact sr_loop hi (tl i) 0 (by omega) k
set_option maxHeartbeats 4000000 in
theorem c_L_indexOf (hd : 2 ≤ d) {i : Nat} (hi : i < 3) {c : Int32} (h0 : 0 ≤ c) (h1 : c ≤ 255) (k : K (some (.int (srch i c.toInt8.toInt32 (tl i) 0))) m) : Cal G mL_indexOf d [.ref (1013 + i), .int c, .int 0, .int (Int32.ofNat (tl i))] sh ta m K := by
  obtain ⟨d, rfl⟩ : ∃ e, d = e + 1 := ⟨d - 1, by omega⟩
  refine Cal.of (by decide +kernel) rfl (Nat.le_of_ble_eq_true rfl) ?_
  show WP G _ _ _ 0 0 0 [(0, .ref (1013 + i)), (1, .int c), (2, .int 0), (3, .int (Int32.ofNat (tl i)))] [] (sh, ta, m)
  refine WP.iload_n 1 dL22_0 rfl rfl ?_
  refine WP.callS2 (y := mL_canEncode) (As := [.int c]) (st := []) dL22_1 wm_StringLatin1_88 mw_L_canEncode rfl (Nat.le_of_ble_eq_true rfl) (rmok d) (c_L_canEncode (K := fun v m' => v = some (.int 1) ∧ m' = m) (by omega) h0 h1 ⟨rfl, rfl⟩) (fun v S' h => ?_)
  obtain ⟨m', rfl, rfl, rfl⟩ := h
  show WP G _ _ _ 0 0 4 [(0, .ref (1013 + i)), (1, .int c), (2, .int 0), (3, .int (Int32.ofNat (tl i)))] [.int 1] (sh, ta, m')
  refine WP.if_ne (tgt := 9) dL22_4 (by decide) (fun _ => ?_) (fun c => absurd c (by decide))
  refine WP.iload_n 2 dL22_9 rfl rfl ?_
  refine WP.iconst (v := 0) dL22_10 rfl ?_
  refine WP.mmax (x := 0) (y := 0) wm_StringLatin1_92 (Nat.le_of_ble_eq_true rfl) (rmok0 d) dL22_11 ?_
  rw [show (if (0 : Int32) < 0 then (0 : Int32) else 0) = 0 from rfl]
  refine WP.istore_n (lv2 := [(2, .int 0), (0, .ref (1013 + i)), (1, .int c), (3, .int (Int32.ofNat (tl i)))]) dL22_14 rfl (by decide) rfl ?_
  refine WP.iload_n 3 dL22_15 rfl rfl ?_
  refine WP.aload_n 1 dL22_16 rfl rfl ?_
  refine WP.lenT hi dL22_17 ?_
  refine WP.mmin (x := Int32.ofNat (tl i)) (y := Int32.ofNat (tl i)) wm_StringLatin1_38 (Nat.le_of_ble_eq_true rfl) (rmok0 d) dL22_18 ?_
  rw [ite_self]
  refine WP.istore_n (lv2 := [(3, .int (Int32.ofNat (tl i))), (2, .int 0), (0, .ref (1013 + i)), (1, .int c)]) dL22_21 rfl (by decide) rfl ?_
  refine WP.iload_n 1 dL22_22 rfl rfl ?_
  refine WP.iload_n 0 dL22_23 rfl rfl ?_
  refine WP.icmp_lt (tgt := 29) dL22_24 (by decide) (fun _ => ?_) (fun q => ?_)
  · refine WP.aload_n 2 dL22_29 rfl rfl ?_
    refine WP.iload_n 3 dL22_30 rfl rfl ?_
    refine WP.iload_n 1 dL22_31 rfl rfl ?_
    refine WP.iload_n 0 dL22_32 rfl rfl ?_
    refine WP.callS2 (y := mL_indexOfChar) (As := [.ref (1013 + i), .int c, .int 0, .int (Int32.ofNat (tl i))]) (st := []) dL22_33 wm_StringLatin1_95 mw_L_indexOfChar rfl (Nat.le_of_ble_eq_true rfl) (rmok d) (c_L_indexOfChar (K := fun v m'' => v = some (.int (srch i c.toInt8.toInt32 (tl i) 0)) ∧ m'' = m') (by omega) hi ⟨rfl, rfl⟩) (fun v S' h => ?_)
    obtain ⟨m2, rfl, rfl, rfl⟩ := h
    show WP G _ _ _ 0 0 36 [(3, .int (Int32.ofNat (tl i))), (2, .int 0), (0, .ref (1013 + i)), (1, .int c)] [.int (srch i c.toInt8.toInt32 (tl i) 0)] (sh, ta, m2)
    exact WP.iret dL22_36 rfl (Nat.le_refl _) (Nat.le_refl _) ⟨_, rfl, k⟩
  · have e : tl i = 0 := by
      rcases (show i = 0 ∨ i = 1 ∨ i = 2 by omega) with rfl | rfl | rfl
      · exact absurd (by decide) q
      · exact absurd (by decide) q
      · rfl
    rw [e, srch] at k
    refine WP.iconst (v := -1) dL22_27 rfl ?_
    exact WP.iret dL22_28 rfl (Nat.le_refl _) (Nat.le_refl _) ⟨_, rfl, k⟩
set_option maxHeartbeats 4000000 in
theorem c_S_indexOf2 (hd : 3 ≤ d) {i : Nat} (hi : i < 3) {c : Int32} (h0 : 0 ≤ c) (h1 : c ≤ 255) (k : K (some (.int (srch i c.toInt8.toInt32 (tl i) 0))) m) : Cal G mS_indexOf2 d [.ref (1003 + i), .int c, .int 0] sh ta m K := by
  obtain ⟨d, rfl⟩ : ∃ e, d = e + 1 := ⟨d - 1, by omega⟩
  refine Cal.of (by decide +kernel) rfl (Nat.le_of_ble_eq_true rfl) ?_
  show WP G _ _ _ 0 0 0 [(0, .ref (1003 + i)), (1, .int c), (2, .int 0)] [] (sh, ta, m)
  refine WP.aload_n 0 dS80_0 rfl rfl ?_
  refine WP.callStr (y := mS_isLatin1) (As := []) (st := []) dS80_1 wm_String_492 mw_S_isLatin1 rfl (Nat.le_of_ble_eq_true rfl) (rmok d) (isTx_k hi) rfl (c_S_isLatin1 (K := fun v m' => v = some (.int 1) ∧ m' = m) (by omega) hi ⟨rfl, rfl⟩) (fun v S' h => ?_)
  obtain ⟨m', rfl, rfl, rfl⟩ := h
  show WP G _ _ _ 0 0 4 [(0, .ref (1003 + i)), (1, .int c), (2, .int 0)] [.int 1] (sh, ta, m')
  refine WP.if_eq (tgt := 23) dS80_4 (by decide) (fun c => absurd c (by decide)) (fun _ => ?_)
  refine WP.aload_n 0 dS80_7 rfl rfl ?_
  refine WP.valueT hi wf_String_9 dS80_8 ?_
  refine WP.iload_n 1 dS80_11 rfl rfl ?_
  refine WP.iload_n 2 dS80_12 rfl rfl ?_
  refine WP.aload_n 0 dS80_13 rfl rfl ?_
  refine WP.callStr (y := mS_length) (As := []) (st := [.int 0, .int c, .ref (1013 + i)]) dS80_14 wm_String_505 mw_S_length rfl (Nat.le_of_ble_eq_true rfl) (rmok d) (isTx_k hi) rfl (c_S_length (K := fun v m'' => v = some (.int (Int32.ofNat (tl i))) ∧ m'' = m') (by omega) hi ⟨rfl, rfl⟩) (fun v S' h => ?_)
  obtain ⟨m2, rfl, rfl, rfl⟩ := h
  show WP G _ _ _ 0 0 17 [(0, .ref (1003 + i)), (1, .int c), (2, .int 0)] [.int (Int32.ofNat (tl i)), .int 0, .int c, .ref (1013 + i)] (sh, ta, m2)
  refine WP.callS2 (y := mL_indexOf) (As := [.ref (1013 + i), .int c, .int 0, .int (Int32.ofNat (tl i))]) (st := []) dS80_17 wm_String_637 mw_L_indexOf rfl (Nat.le_of_ble_eq_true rfl) (rmok d) (c_L_indexOf (K := fun v m'' => v = some (.int (srch i c.toInt8.toInt32 (tl i) 0)) ∧ m'' = m2) (by omega) hi h0 h1 ⟨rfl, rfl⟩) (fun v S' h => ?_)
  obtain ⟨m3, rfl, rfl, rfl⟩ := h
  show WP G _ _ _ 0 0 20 [(0, .ref (1003 + i)), (1, .int c), (2, .int 0)] [.int (srch i c.toInt8.toInt32 (tl i) 0)] (sh, ta, m3)
  refine WP.goto (tgt := 36) dS80_20 (by decide) ?_
  exact WP.iret dS80_36 rfl (Nat.le_refl _) (Nat.le_refl _) ⟨_, rfl, k⟩
set_option maxHeartbeats 4000000 in
theorem c_S_indexOf (hd : 4 ≤ d) {i : Nat} (hi : i < 3) {c : Int32} (h0 : 0 ≤ c) (h1 : c ≤ 255) (k : K (some (.int (srch i c.toInt8.toInt32 (tl i) 0))) m) : Cal G mS_indexOf d [.ref (1003 + i), .int c] sh ta m K := by
  obtain ⟨d, rfl⟩ : ∃ e, d = e + 1 := ⟨d - 1, by omega⟩
  refine Cal.of (by decide +kernel) rfl (Nat.le_of_ble_eq_true rfl) ?_
  show WP G _ _ _ 0 0 0 [(0, .ref (1003 + i)), (1, .int c)] [] (sh, ta, m)
  refine WP.aload_n 0 dS79_0 rfl rfl ?_
  refine WP.iload_n 1 dS79_1 rfl rfl ?_
  refine WP.iconst (v := 0) dS79_2 rfl ?_
  refine WP.callStr (y := mS_indexOf2) (As := [.int c, .int 0]) (st := []) dS79_3 wm_String_633 mw_S_indexOf2 rfl (Nat.le_of_ble_eq_true rfl) (rmok d) (isTx_k hi) rfl (c_S_indexOf2 (K := fun v m'' => v = some (.int (srch i c.toInt8.toInt32 (tl i) 0)) ∧ m'' = m) (by omega) hi h0 h1 ⟨rfl, rfl⟩) (fun v S' h => ?_)
  obtain ⟨m3, rfl, rfl, rfl⟩ := h
  show WP G _ _ _ 0 0 6 [(0, .ref (1003 + i)), (1, .int c)] [.int (srch i c.toInt8.toInt32 (tl i) 0)] (sh, ta, m3)
  exact WP.iret dS79_6 rfl (Nat.le_refl _) (Nat.le_refl _) ⟨_, rfl, k⟩
end
-- the place of a byte among the names of a use
def nmO (u : Nat) (c : Int32) : Int32 := if u = 0 then (if c = 109 then 0 else if c = 111 then 1 else if c = 117 then 2 else if c = 99 then 3 else -1) else (if c = 119 then 0 else if c = 107 then 1 else if c = 109 then 2 else -1)
set_option maxHeartbeats 4000000 in
theorem srch_n : ∀ n : Fin 256, srch 0 (Int32.ofNat n.1).toInt8.toInt32 (tl 0) 0 = nmO 0 (Int32.ofNat n.1) ∧ srch 1 (Int32.ofNat n.1).toInt8.toInt32 (tl 1) 0 = nmO 1 (Int32.ofNat n.1) ∧ ((Int32.ofNat n.1).toUInt32 % 65536).toInt32 = Int32.ofNat n.1 := by decide +kernel
set_option maxHeartbeats 4000000 in
theorem c_names {G : Gm} {d : Nat} {sh : List Shp} {ta : Nat → Nat → Option Nat} {m : Mem} {K : Option Value → Mem → Prop} (hd : 4 ≤ d) {u : Nat} (hu : u < 2) {c : Int32} (h0 : 0 ≤ c) (h1 : c ≤ 255) (k : K (some (.int (nmO u c))) m) : Cal G mS_indexOf d [.ref (1003 + u), .int ((c.toUInt32 % 65536).toInt32)] sh ta m K := by
  obtain ⟨n, hn, rfl⟩ := oN (N := 256) (x := c) h0 (by have : (256 : Int32) = 255 + 1 := rfl; show c < 256; lia) (by decide)
  have e := srch_n ⟨n, hn⟩
  rw [e.2.2]
  refine c_S_indexOf hd (by omega) h0 h1 ?_
  rcases (show u = 0 ∨ u = 1 by omega) with rfl | rfl
  · rw [e.1]; exact k
  · rw [e.2.1]; exact k

