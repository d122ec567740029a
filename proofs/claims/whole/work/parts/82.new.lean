-- 82.new
/-! objects are made -/
def tU (U : List (Nat × Nat × Nat)) : Nat → Nat → Option Nat := fun k j => (U.find? (fun q => q.1 == k && q.2.1 == j)).map (fun q => q.2.2)
def mU (V : List (Nat × Nat × Int32)) : Mem := fun k j => ((V.find? (fun q => q.1 == k && q.2.1 == j)).map (fun q => q.2.2)).getD 0
set_option maxHeartbeats 4000000 in
theorem kj_f {a b k j : Nat} (h : ¬ (a = k ∧ b = j)) : ¬ (k == a && j == b) = true := by
  intro q
  rw [Bool.and_eq_true, beq_iff_eq, beq_iff_eq] at q
  exact h ⟨q.1.symm, q.2.symm⟩
set_option maxHeartbeats 4000000 in
theorem upt_tU {U : List (Nat × Nat × Nat)} {k j x : Nat} : upt (tU U) k j (some x) = tU ((k, j, x) :: U) := by
  funext a b
  unfold upt
  by_cases h : a = k ∧ b = j
  · rw [if_pos h]
    obtain ⟨rfl, rfl⟩ := h
    unfold tU
    rw [List.find?_cons_of_pos (by simp)]
    rfl
  · rw [if_neg h]
    unfold tU
    rw [show ((k, j, x) :: U).find? (fun q => q.1 == a && q.2.1 == b) = U.find? (fun q => q.1 == a && q.2.1 == b) from List.find?_cons_of_neg (kj_f h)]
set_option maxHeartbeats 4000000 in
theorem up2_mU {V : List (Nat × Nat × Int32)} {k j : Nat} {x : Int32} : up2 (mU V) k j x = mU ((k, j, x) :: V) := by
  funext a b
  unfold up2
  by_cases h : a = k ∧ b = j
  · rw [if_pos h]
    obtain ⟨rfl, rfl⟩ := h
    unfold mU
    rw [List.find?_cons_of_pos (by simp)]
    rfl
  · rw [if_neg h]
    unfold mU
    rw [show ((k, j, x) :: V).find? (fun q => q.1 == a && q.2.1 == b) = V.find? (fun q => q.1 == a && q.2.1 == b) from List.find?_cons_of_neg (kj_f h)]
set_option maxHeartbeats 4000000 in
theorem tU_fr {U : List (Nat × Nat × Nat)} {n : Nat} (h : ∀ q ∈ U, q.1 < n) : tU U n = fun _ => none := by
  funext b
  unfold tU
  rw [List.find?_eq_none.mpr (fun q hq => kj_f (fun e => by have := h q hq; omega))]
  rfl
set_option maxHeartbeats 4000000 in
theorem mU_fr {V : List (Nat × Nat × Int32)} {n : Nat} (h : ∀ q ∈ V, q.1 < n) : mU V n = fun _ => 0 := by
  funext b
  unfold mU
  rw [List.find?_eq_none.mpr (fun q hq => kj_f (fun e => by have := h q hq; omega))]
  rfl
set_option maxHeartbeats 4000000 in
theorem cells_snoc {G : Gm} {S : St} {s : Shp} : cells G (S.1 ++ [s], S.2.1, S.2.2) = cells G S ++ [(G.2.1 + S.1.length, ce G s (S.2.1 S.1.length) (S.2.2 S.1.length))] := by
  unfold cells
  rw [List.mapIdx_append]
  refine congrArg (List.append _) ?_
  show [(G.2.1 + (0 + S.1.length), ce G s (S.2.1 (0 + S.1.length)) (S.2.2 (0 + S.1.length)))] = _
  rw [Nat.zero_add]
def okT (t : FieldType) : Bool := match t with
  | .int => true | .boolean => true | .object _ => true | .array _ => true | _ => false
set_option maxHeartbeats 4000000 in
theorem okT_f : ∀ c : Fin 7, ∀ j : Fin 22, okT (cY c.1 j.1) = true := by decide
set_option maxHeartbeats 4000000 in
theorem nF_le {c : Nat} (h : c < 7) : nF c ≤ 22 := by
  rcases (show c = 0 ∨ c = 1 ∨ c = 2 ∨ c = 3 ∨ c = 4 ∨ c = 5 ∨ c = 6 by omega) with rfl | rfl | rfl | rfl | rfl | rfl | rfl <;> decide
set_option maxHeartbeats 4000000 in
theorem dv_ok {G : Gm} {c j : Nat} (hc : c < 7) (hj : j < nF c) : defaultValue (cY c j) = fv G c j none 0 := by
  have h := okT_f ⟨c, hc⟩ ⟨j, Nat.lt_of_lt_of_le hj (nF_le hc)⟩
  unfold fv isI
  revert h
  show okT (cY c j) = true → _
  cases cY c j <;> intro h <;> first | rfl | cases h
section
variable {G : Gm} {R : Room} {mi : Mi} {Qf : Qfun} {kc ks pc : Nat} {lv : List (Nat × Value)} {st : List Value} {S : St}
set_option maxHeartbeats 4000000 in
theorem WP.objI {index b : Nat} (hl : Cond.methodLink mi.2.2.2.2 index objectInit ∈ WS) (hR : rmOk R 0 kc ks 0 0) (hst : (st.map fun v => v.category).sum ≤ 8) (hd : decode mi.2.1 pc = .ok (.invokespecial index, 3)) (k : WP G R mi Qf kc ks (pc + 3) lv st S) : WP G R mi Qf kc ks pc lv (.ref b :: st) S := by
  intro p e s m args below meth cd E H locs ls hW hS hlv
  have hts := E.2.2.2.2.2.1
  exact W.objInit E.1 E.2.1 E.2.2.2.2.1 (hts _ hl) (hts _ wi_Object_init_V) (hts _ wc_obj) rfl (hlv.1.trans E.2.2.2.1.symm) rfl hd hR.1 (by
    have h1 := lv_room (m := m) (pc := pc) (ls := ls) (rest := (.ref (gr G b) :: st.map (rv G))) (st := st.map (rv G)) (by rw [cat_rv]; exact hst)
    have h2 := hR.2.1
    show 2 * (F0 m pc ls (.ref (gr G b) :: st.map (rv G))).monitorRoom + _ + 12 ≤ _
    omega) (k p e s m args below meth cd E H locs ls hW hS hlv)
set_option maxHeartbeats 4000000 in
theorem Wo.new {s : Shp} {H H1 : Heap} (hG : fl G = true) (hW : Wo G S H) (h9 : S.1.length < 1000) (hk : ∀ q, q < H.size → H1[q]? = H[q]?) (hz : H1.size = H.size + 1) (ha : va_at G.2.2.1 vwCl (H.size, ce G s (S.2.1 S.1.length) (S.2.2 S.1.length)) H1) : Wo G (S.1 ++ [s], S.2.1, S.2.2) H1 := by
  have hsz : H.size = G.2.1 + S.1.length := hW.2.1.2 hG
  refine ⟨?_, ⟨by omega, fun _ => by rw [List.length_append, hz, hsz]; rfl⟩, by rw [List.length_append]; exact h9⟩
  rw [cells_snoc, ← hsz]
  refine (hW.1.kept (fun j x hx => hk x.1 ((hW.1 j x hx).lt))).app (fun j x hx => ?_)
  have hj : j < 1 := (List.getElem?_eq_some_iff.mp hx).1
  rw [show j = 0 by omega] at hx
  cases hx
  exact ha
set_option maxHeartbeats 4000000 in
theorem va_S.new {A : Nat → Prop} {H0 H H1 : Heap} {locs : List Loc} (hS : va_S A H0 H locs) (hk : ∀ q, q < H.size → H1[q]? = H[q]?) (hz : H1.size = H.size + 1) : va_S A H0 H1 locs := ⟨Nat.le_trans hS.1 (by omega), fun x h1 h2 => (hk x (Nat.lt_of_lt_of_le h1 hS.1)).trans (hS.2.1 x h1 h2), hS.2.2⟩
set_option maxHeartbeats 4000000 in
theorem WP.newO {index c : Nat} (hc : c < 7) (hl : Cond.classLink mi.2.2.2.2 index (cN c) ∈ WS) (hk : Cond.instantiable (cN c) (nF c) ∈ WS) (hz : Cond.initialized (cN c) ∈ WS) (hG : fl G = true) (ht : S.2.1 S.1.length = fun _ => none) (hm : S.2.2 S.1.length = fun _ => 0) (h9 : S.1.length < 1000) (hR : kc + 1 ≤ R.cells ∧ ks + nF c ≤ R.slots) (hd : decode mi.2.1 pc = .ok (.new index, 3)) (k : WP G R mi Qf (kc + 1) (ks + nF c) (pc + 3) lv (.ref S.1.length :: st) (S.1 ++ [.inl c], S.2.1, S.2.2)) : WP G R mi Qf kc ks pc lv st S := by
  intro p e s m args below meth cd E H locs ls hW hS hlv
  have hsz : H.size = G.2.1 + S.1.length := hW.2.1.2 hG
  have hts := E.2.2.2.2.2.1
  have hKn := E.2.2.2.2.2.2.2.2.1.1 c _ (cf_cl hc)
  refine W.newcK E.1 E.2.1 E.2.2.2.2.1 (hts _ hl) (hts _ hk) (hts _ hz) rfl hd hR.1 hR.2 hKn.2.1 rfl fun H1 kC hkC e1 z1 o1 => ?_
  have kk := k p e s m args below meth cd E H1 locs ls (Wo.new hG hW h9 o1 z1 ?_) (hS.new o1 z1) hlv
  · have eg : rv G (.ref S.1.length) = .ref H.size := by
      show Value.ref (gr G S.1.length) = _
      rw [gr_lo h9, hsz]
    rw [List.map_cons, eg] at kk
    exact kk
  · refine ⟨_, cf_cl hc, (u_born (cY c) hts (cf_in hc) hKn hkC e1 (cf_ty hc)).to (fun j hj => ?_)⟩
    rw [ht, hm, dv_ok (G := G) hc hj]
    show _ = ((List.range (nF c)).map fun j => fv G c j none 0).getD j .null
    simp [hj]
set_option maxHeartbeats 4000000 in
theorem WP.newI {n : Int32} (N : Nat) (hn : n = Int32.ofNat N) (hN : N < 1000) (hG : fl G = true) (hm : S.2.2 S.1.length = fun _ => 0) (h9 : S.1.length < 1000) (hR : kc + 1 ≤ R.cells ∧ ks + N ≤ R.slots) (hd : decode mi.2.1 pc = .ok (.newarray .int, 2)) (k : WP G R mi Qf (kc + 1) (ks + N) (pc + 2) lv (.ref S.1.length :: st) (S.1 ++ [.inr (0, N)], S.2.1, S.2.2)) : WP G R mi Qf kc ks pc lv (.int n :: st) S := by
  intro p e s m args below meth cd E H locs ls hW hS hlv
  have hsz : H.size = G.2.1 + S.1.length := hW.2.1.2 hG
  have hts := E.2.2.2.2.2.1
  have hA := (E.2.2.2.2.2.2.2.2.1.2 0 _ rfl).2
  refine va_newaK (atype := .int) (N := N) E.1 E.2.1 (hts _ wa_int) rfl hd rfl (Int32.not_lt.mpr (by rw [hn]; exact o_0 _ (by omega))) (by rw [hn]; exact tn_o (by omega)) (by show N * 4 ≤ _; omega) hR.1 hR.2 rfl fun H1 cA e1 z1 o1 hAr hNm => ?_
  have hcA : cA = G.2.2.2.1.1 := Option.some.inj (hNm.symm.trans hA)
  subst hcA
  have kk := k p e s m args below meth cd E H1 locs ls (Wo.new hG hW h9 o1 z1 ?_) (hS.new o1 z1) hlv
  · have eg : rv G (.ref S.1.length) = .ref H.size := by
      show Value.ref (gr G S.1.length) = _
      rw [gr_lo h9, hsz]
    rw [List.map_cons, eg] at kk
    exact kk
  · show H1[H.size]? = some (vp_cell _ (N, .inl (S.2.2 S.1.length)))
    rw [hm, vp_cell_i]
    exact e1
set_option maxHeartbeats 4000000 in
theorem WP.newR {index : Nat} {n : Int32} (N : Nat) (hn : n = Int32.ofNat N) (hN : N < 1000) (hl : Cond.classLink mi.2.2.2.2 index RX2 ∈ WS) (hG : fl G = true) (ht : S.2.1 S.1.length = fun _ => none) (h9 : S.1.length < 1000) (hR : kc + 1 ≤ R.cells ∧ ks + N ≤ R.slots) (hd : decode mi.2.1 pc = .ok (.anewarray index, 3)) (k : WP G R mi Qf (kc + 1) (ks + N) (pc + 3) lv (.ref S.1.length :: st) (S.1 ++ [.inr (1, N)], S.2.1, S.2.2)) : WP G R mi Qf kc ks pc lv (.int n :: st) S := by
  intro p e s m args below meth cd E H locs ls hW hS hlv
  have hsz : H.size = G.2.1 + S.1.length := hW.2.1.2 hG
  have hts := E.2.2.2.2.2.1
  have hE := E.2.2.2.2.2.2.2.2.2.1
  obtain ⟨kA0, comp0, -, -, -, hA⟩ := (E.2.2.2.2.2.2.2.2.1.2 1 _ rfl).2
  have hnN : n.toNatClampNeg = N := by rw [hn]; exact tn_o (by omega)
  subst hnN
  refine W.anew (C := RX2) E.1 E.2.1 E.2.2.2.2.1 (hts _ hl) (va_AO.use hE.2.2.2.2.2.2.2.2.2.2.1) rfl hd rfl (Int32.not_lt.mpr (by rw [hn]; exact o_0 _ (by omega))) (by omega) hR.1 hR.2 fun cA kA comp f1 f2 f3 f4 => ?_
  have hcA : cA = G.2.2.2.1.2 := Option.some.inj (f1.symm.trans hA)
  subst hcA
  generalize hH1 : H.push ({ cls := G.2.2.2.1.2, slots := Array.replicate n.toNatClampNeg .null, vm := .none } : Cell) = H1
  have z1 : H1.size = H.size + 1 := by rw [← hH1, Array.size_push]
  have e1 : H1[H.size]? = some (arrV G.2.2.2.1.2 n.toNatClampNeg (fun _ => .null)) := by rw [← hH1, Array.getElem?_push_size, ← arrV_new]
  have o1 : ∀ q : Nat, q < H.size → H1[q]? = H[q]? := fun q hq => by rw [← hH1, Array.getElem?_push, if_neg (Nat.ne_of_lt hq)]
  have kk := k p e s m args below meth cd E H1 locs ls (Wo.new hG hW h9 o1 z1 ?_) (hS.new o1 z1) hlv
  · have eg : rv G (.ref S.1.length) = .ref H.size := by
      show Value.ref (gr G S.1.length) = _
      rw [gr_lo h9, hsz]
    rw [List.map_cons, eg] at kk
    exact kk
  · show H1[H.size]? = some (vp_cell _ (n.toNatClampNeg, .inr (.inr (.inr (.inr fun j => (S.2.1 S.1.length j).map (gr G))))))
    rw [ht, vp_cell_q]
    exact e1
end

