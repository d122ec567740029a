/-- a call that makes nothing and leaves the references -/
def QC (G : Gm) (sh : List Shp) (ta : Nat → Nat → Option Nat) (K : Option Value → Mem → Prop) : Qfun := QfK G (fun v S' => ∃ m' : Mem, S' = (sh, ta, m') ∧ K v m') 0 0
def Cal (G : Gm) (y : Mi) (d : Nat) (av : List Value) (sh : List Shp) (ta : Nat → Nat → Option Nat) (m : Mem) (K : Option Value → Mem → Prop) : Prop := Ctr G y d 0 0 av (sh, ta, m) (fun v S' => ∃ m' : Mem, S' = (sh, ta, m') ∧ K v m')
theorem Cal.of {G : Gm} {mi : Mi} {d : Nat} {av : List Value} {sh : List Shp} {ta : Nat → Nat → Option Nat} {m : Mem} {K : Option Value → Mem → Prop} (hp : plainName mi.1.cls = true) (ho : mi.1.cls = mi.2.2.2.2) (hn : (lg_sl av).length ≤ mi.2.2.1) (h : WP G (rmD d 0 0) mi (QC G sh ta K) 0 0 0 (lv_args 0 av) [] (sh, ta, m)) : Cal G mi d av sh ta m K := Ctr.of hp ho hn h
theorem Cal.mono {G : Gm} {mi : Mi} {d : Nat} {av : List Value} {sh : List Shp} {ta : Nat → Nat → Option Nat} {m : Mem} {K K' : Option Value → Mem → Prop} (h : Cal G mi d av sh ta m K) (hk : ∀ v m', K v m' → K' v m') : Cal G mi d av sh ta m K' := Ctr.mono h (fun v S' ⟨m', e, q⟩ => ⟨m', e, hk v m' q⟩)
theorem rmok (d : Nat) : rmOk (rmD (d + 1) 0 0) d 0 0 0 0 := ⟨Nat.le_refl _, Nat.le_refl _, Nat.le_refl _, Nat.le_refl _⟩
theorem rmok0 (d : Nat) : rmOk (rmD (d + 1) 0 0) 0 0 0 0 0 := ⟨by show 0 + 1 ≤ d + 1; omega, by show 64 * (0 + 1) ≤ 64 * (d + 1); omega, Nat.le_refl _, Nat.le_refl _⟩
section
variable {G : Gm} {R : Room} {mi : Mi} {Qf : Qfun} {kc ks pc : Nat} {lv lv2 : List (Nat × Value)} {st : List Value} {S : St}
theorem WP.tswO {dflt lo hi : Int} {offs : Array Int} {len : Nat} {x : Int32} {td : Nat} (hd : decode mi.2.1 pc = .ok (.tableswitch dflt lo hi offs, len)) (ho : x.toInt < lo ∨ hi < x.toInt) (ht : (pc : Int) + dflt = (td : Int)) (k : WP G R mi Qf kc ks td lv st S) : WP G R mi Qf kc ks pc lv (.int x :: st) S :=
  fun p e s m args below meth c E H locs ls hW hS hl => lv_tableOut E.1 E.2.1 hd ho ht (k p e s m args below meth c E H locs ls hW hS hl)
theorem WP.tswI {dflt lo hi : Int} {offs : Array Int} {len : Nat} {x : Int32} {off : Int} {td : Nat} (i : Nat) (hd : decode mi.2.1 pc = .ok (.tableswitch dflt lo hi offs, len)) (hx : x.toInt = lo + i) (hh : lo + i ≤ hi) (ho : offs[i]? = some off) (ht : (pc : Int) + off = (td : Int)) (k : WP G R mi Qf kc ks td lv st S) : WP G R mi Qf kc ks pc lv (.int x :: st) S :=
  fun p e s m args below meth c E H locs ls hW hS hl => lv_tableIn E.1 E.2.1 hd (by omega) (by omega) (by rw [hx, show (lo + (i : Int) - lo).toNat = i by omega]; exact ho) ht (k p e s m args below meth c E H locs ls hW hS hl)
end
theorem i32_of {x k : Int32} {n : Int} (h : x.toInt = n) (hk : k.toInt = n) : x = k := Int32.toInt_inj.mp (h.trans hk.symm)
/-- 0 or 1 -/
def isB (x : Int32) : Prop := x = 0 ∨ x = 1
theorem isB.n {x : Int32} (h : isB x) : narrow .boolean (.int x) = .int x := by rcases h with rfl | rfl <;> rfl
def isTx (x : Nat) : Prop := x = 1003 ∨ x = 1004 ∨ x = 1005
abbrev mS_indexOf : Mi := (⟨"java/lang/String", "indexOf", "(I)I"⟩, prog_11_method_79_code, 2, some .int, "java/lang/String")
theorem mw_S_indexOf : MWv mS_indexOf 1 := ⟨⟨wz_String, wc_String_indexOf_II, rfl, ⟨by decide +kernel, by decide +kernel, by decide +kernel⟩, by decide⟩, wi_String_indexOf_II, ws_String_indexOf_II⟩
section
variable {G : Gm} {R : Room} {mi : Mi} {Qf : Qfun} {kc ks pc : Nat} {lv : List (Nat × Value)} {st : List Value} {S : St}
theorem WP.callStr {y : Mi} {index n d mc ms x : Nat} {As : List Value} {K' : Option Value → St → Prop} (hdg : decode mi.2.1 pc = .ok (.invokevirtual index, 3)) (hl : Cond.methodLink mi.2.2.2.2 index y.1 ∈ WS) (mw : MWv y n) (hn : As.length = n) (hst : (st.map fun v => v.category).sum ≤ 8) (hR : rmOk R d kc ks mc ms) (hx : isTx x) (hC : y.2.2.2.2 = "java/lang/String")
    (hM : Ctr G y d mc ms (.ref x :: As) S K') (kk : ∀ v S', K' v S' → WP G R mi Qf (kc + mc) (ks + ms) (pc + 3) lv (v.toList ++ st) S') : WP G R mi Qf kc ks pc lv (As.reverse ++ .ref x :: st) S := by
  intro p e s m args below meth c E H locs ls hW hS hlv
  obtain ⟨⟨w1, w2, w3, w4, w5⟩, w6, w7⟩ := mw
  have hts := E.2.2.2.2.2.1
  have hE := E.2.2.2.2.2.2.2.2.2.1
  have hrec : ∃ cell : Cell, H[gr G x]? = some cell ∧ cell.vm.isStatics = false ∧ s.vm.findClass "java/lang/String" = some cell.cls := by
    have hk := hE.2.2.2.2.2.1
    rcases hx with rfl | rfl | rfl
    · exact vk_recv (i := 0) hk (by decide) hS
    · exact vk_recv (i := 1) hk (by decide) hS
    · exact vk_recv (i := 2) hk (by decide) hS
  rw [List.map_append, List.map_reverse, List.map_cons]
  refine va_callK (K' := K') (rest := st.map (rv G)) (va_runV (As := As.map (rv G)) (C := y.2.2.2.2) (b := gr G x) ⟨E.1, E.2.1, E.2.2.2.1, E.2.2.2.2.1, hts⟩ hM (cwV n hts (goodWS (G := G) (pre := [.methodLink mi.2.2.2.2 index y.1, .instanceMethod y.1, .selects y.2.2.2.2 y.1 y.1, .initialized y.2.2.2.2]) ?_ w2) rfl rfl rfl ⟨w3, w4⟩ ⟨hR.1, by have := hR.2.1; show 8 + (y.2.2.1 + 11) + 64 * d ≤ _; omega⟩) ⟨blind G _ S, ?_, ?_⟩ rfl (by rw [List.length_map]; exact hn) hlv.1 rfl (lv_room (by rw [cat_rv]; exact hst)) hdg hR.2.2) hS (fun v S' H1 locs1 hK hW1 hS1 => ?_)
  · intro w hw
    simp only [List.mem_cons, List.mem_nil_iff, or_false] at hw
    rcases hw with rfl | rfl | rfl | rfl <;> assumption
  · rw [hC]; exact hrec
  · exact preOf (av := .ref x :: As) E hW hS
  · have := kk v S' hK p e s m args below meth c E H1 locs1 ls hW1 hS1 hlv
    rw [List.map_append] at this
    cases v <;> exact this
end
/-- as QC, where the references may change, too -/
def QT (G : Gm) (sh : List Shp) (K : Option Value → (Nat → Nat → Option Nat) → Mem → Prop) : Qfun := QfK G (fun v S' => ∃ (t' : Nat → Nat → Option Nat) (m' : Mem), S' = (sh, t', m') ∧ K v t' m') 0 0
def CalT (G : Gm) (y : Mi) (d : Nat) (av : List Value) (sh : List Shp) (ta : Nat → Nat → Option Nat) (m : Mem) (K : Option Value → (Nat → Nat → Option Nat) → Mem → Prop) : Prop := Ctr G y d 0 0 av (sh, ta, m) (fun v S' => ∃ (t' : Nat → Nat → Option Nat) (m' : Mem), S' = (sh, t', m') ∧ K v t' m')
theorem CalT.of {G : Gm} {mi : Mi} {d : Nat} {av : List Value} {sh : List Shp} {ta : Nat → Nat → Option Nat} {m : Mem} {K : Option Value → (Nat → Nat → Option Nat) → Mem → Prop} (hp : plainName mi.1.cls = true) (ho : mi.1.cls = mi.2.2.2.2) (hn : (lg_sl av).length ≤ mi.2.2.1) (h : WP G (rmD d 0 0) mi (QT G sh K) 0 0 0 (lv_args 0 av) [] (sh, ta, m)) : CalT G mi d av sh ta m K := Ctr.of hp ho hn h
theorem CalT.mono {G : Gm} {mi : Mi} {d : Nat} {av : List Value} {sh : List Shp} {ta : Nat → Nat → Option Nat} {m : Mem} {K K' : Option Value → (Nat → Nat → Option Nat) → Mem → Prop} (h : CalT G mi d av sh ta m K) (hk : ∀ v t m', K v t m' → K' v t m') : CalT G mi d av sh ta m K' := Ctr.mono h (fun v S' ⟨t, m', e, q⟩ => ⟨t, m', e, hk v t m' q⟩)
