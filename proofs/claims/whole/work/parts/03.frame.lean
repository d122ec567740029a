abbrev Mi : Type := MethodName × ByteArray × Nat × Option FieldType × String
abbrev Shp : Type := Nat ⊕ (Nat × Nat)
abbrev Mem : Type := Nat → Nat → Int32
abbrev St : Type := List Shp × (Nat → Nat → Option Nat) × Mem
abbrev Gm : Type := Launch × Nat × va_G × (ClassId × ClassId) × (Nat → Nat) × Nat × (Nat → Int32) × Bool
def gA (G : Gm) : Nat → Prop := fun q => G.2.1 ≤ q
/-- whether the size of the heap is told, too (while objects are made) -/
def fl (G : Gm) : Bool := G.2.2.2.2.2.2.2
def gX (G : Gm) : Nat → Nat := G.2.2.2.2.1
def gT (G : Gm) : List (ClassId × FieldType) := [(G.2.2.2.1.1, .int), (G.2.2.2.1.2, .object RX2)]
def gr (G : Gm) (k : Nat) : Nat := if k < 1000 then G.2.1 + k else gX G (k - 1000)
def rv (G : Gm) (v : Value) : Value := match v with
  | .ref k => .ref (gr G k)
  | w => w
def nF (c : Nat) : Nat := match c with
  | 0 => 16 | 1 => 5 | 2 => 2 | 3 => 3 | 4 => 6 | 5 => 15 | _ => 22
def cN (c : Nat) : String := match c with
  | 0 => RX0 | 1 => RX1 | 2 => RX2 | 3 => RX3 | 4 => RX4 | 5 => RX5 | _ => RX6
def cT (c : Nat) : u_T := match c with
  | 0 => TX0 | 1 => TX1 | 2 => TX2 | 3 => TX3 | 4 => TX4 | 5 => TX5 | _ => TX6
def cY (c : Nat) : Nat → FieldType := match c with
  | 0 => tyX0 | 1 => tyX1 | 2 => tyX2 | 3 => tyX3 | 4 => tyX4 | 5 => tyX5 | _ => tyX6
def isI (c j : Nat) : Bool := match cY c j with
  | .int => true | .boolean => true | _ => false
/-- what the rows want of a class -/
theorem cf_cl {c : Nat} (h : c < 7) : vwCl[c]? = some (cN c, cT c, nF c) := by
  rcases (show c = 0 ∨ c = 1 ∨ c = 2 ∨ c = 3 ∨ c = 4 ∨ c = 5 ∨ c = 6 by omega) with rfl | rfl | rfl | rfl | rfl | rfl | rfl <;> rfl
theorem cf_in {c : Nat} (h : c < 7) : ∀ w ∈ u_ws (cN c) (cT c) (nF c), w ∈ WS := by
  rcases (show c = 0 ∨ c = 1 ∨ c = 2 ∨ c = 3 ∨ c = 4 ∨ c = 5 ∨ c = 6 by omega) with rfl | rfl | rfl | rfl | rfl | rfl | rfl
  · exact wcls0
  · exact wcls1
  · exact wcls2
  · exact wcls3
  · exact wcls4
  · exact wcls5
  · exact wcls6
theorem cf_ty {c : Nat} (h : c < 7) : ∀ k, k < nF c → parseFieldDescriptor (cT c k).2.2.1 = some (cY c k) := by
  rcases (show c = 0 ∨ c = 1 ∨ c = 2 ∨ c = 3 ∨ c = 4 ∨ c = 5 ∨ c = 6 by omega) with rfl | rfl | rfl | rfl | rfl | rfl | rfl
  · exact tyX0_ok
  · exact tyX1_ok
  · exact tyX2_ok
  · exact tyX3_ok
  · exact tyX4_ok
  · exact tyX5_ok
  · exact tyX6_ok
theorem cf_nm {c : Nat} (h : c < 7) : ∀ a, a < nF c → ∀ b, b < nF c → a ≠ b → (cT c a).2.1 ≠ (cT c b).2.1 := by
  rcases (show c = 0 ∨ c = 1 ∨ c = 2 ∨ c = 3 ∨ c = 4 ∨ c = 5 ∨ c = 6 by omega) with rfl | rfl | rfl | rfl | rfl | rfl | rfl
  · exact nmX0
  · exact nmX1
  · exact nmX2
  · exact nmX3
  · exact nmX4
  · exact nmX5
  · exact nmX6
def fv (G : Gm) (c j : Nat) (t : Option Nat) (x : Int32) : Value := if isI c j then .int x else va_rf (t.map (gr G))
def ce (G : Gm) (s : Shp) (t : Nat → Option Nat) (f : Nat → Int32) : va_E := match s with
  | .inl c => .inr (c, (List.range (nF c)).map fun j => fv G c j (t j) (f j))
  | .inr (0, n) => .inl (G.2.2.2.1.1, n, .inl f)
  | .inr (_ + 1, n) => .inl (G.2.2.2.1.2, n, .inr (.inr (.inr (.inr fun j => (t j).map (gr G)))))
def cells (G : Gm) (S : St) : va_W := S.1.mapIdx fun k s => (G.2.1 + k, ce G s (S.2.1 k) (S.2.2 k))
theorem cells_get (G : Gm) (S : St) (k : Nat) : (cells G S)[k]? = (S.1[k]?).map fun s => (G.2.1 + k, ce G s (S.2.1 k) (S.2.2 k)) := List.getElem?_mapIdx
def Wo (G : Gm) (S : St) (H : Heap) : Prop := va_P G.2.2.1 vwCl (cells G S) H ∧ (G.2.1 ≤ H.size ∧ (fl G = true → H.size = G.2.1 + S.1.length)) ∧ S.1.length ≤ 1000
theorem cells_D (G : Gm) (S : St) : va_D (gA G) (cells G S) := by
  refine ⟨fun i j p q hi hj hpq => ?_, fun k q hk => ?_⟩
  · rw [cells_get] at hi hj
    cases hsi : S.1[i]? with
    | none => rw [hsi] at hi; cases hi
    | some si =>
      cases hsj : S.1[j]? with
      | none => rw [hsj] at hj; cases hj
      | some sj =>
        rw [hsi] at hi; rw [hsj] at hj
        cases hi; cases hj
        exact Nat.add_left_cancel hpq
  · rw [cells_get] at hk
    cases hsi : S.1[k]? with
    | none => rw [hsi] at hk; cases hk
    | some si => rw [hsi] at hk; cases hk; exact Nat.le_add_right _ _
def up2 (f : Mem) (k j : Nat) (x : Int32) : Mem := fun a b => if a = k ∧ b = j then x else f a b
def upt (f : Nat → Nat → Option Nat) (k j : Nat) (x : Option Nat) : Nat → Nat → Option Nat := fun a b => if a = k ∧ b = j then x else f a b
/-- a range copied: from object ks, place sp on, to object kd, place dp on -/
def cp2 (f : Mem) (kd dp ks sp n : Nat) : Mem := fun a b => if a = kd ∧ dp ≤ b ∧ b < dp + n then f ks (sp + (b - dp)) else f a b
theorem cells_at {G : Gm} {S : St} {k : Nat} {s : Shp} (h : S.1[k]? = some s) : (cells G S)[k]? = some (G.2.1 + k, ce G s (S.2.1 k) (S.2.2 k)) := by
  rw [cells_get, h]; rfl
/-- a cell written -/
theorem cells_set {G : Gm} {S : St} {k : Nat} {s : Shp} {e : va_E} {t' : Nat → Nat → Option Nat} {f' : Mem} (h : S.1[k]? = some s) (he : e = ce G s (t' k) (f' k)) (ht : ∀ i, i ≠ k → t' i = S.2.1 i) (hf : ∀ i, i ≠ k → f' i = S.2.2 i) : (cells G S).set k (G.2.1 + k, e) = cells G (S.1, t', f') := by
  apply List.ext_getElem?
  intro i
  have hk : k < S.1.length := (List.getElem?_eq_some_iff.mp h).1
  rw [List.getElem?_set, cells_get, cells_get]
  by_cases hi : k = i
  · subst hi
    rw [if_pos rfl, if_pos (by simpa [cells] using hk)]
    show _ = (S.1[k]?).map _
    rw [h, he]
    rfl
  · rw [if_neg hi]
    have hi' : i ≠ k := fun e => hi e.symm
    show _ = (S.1[i]?).map _
    cases S.1[i]? with
    | none => rfl
    | some z => simp only [Option.map_some, ht i hi', hf i hi']
theorem map_set_range {α : Type} (n j : Nat) (g : Nat → α) (v : α) : ((List.range n).map g).set j v = (List.range n).map (fun i => if i = j then v else g i) := by
  apply List.ext_getElem?
  intro i
  rw [List.getElem?_set]
  by_cases hij : j = i
  · subst hij
    rw [if_pos rfl]
    by_cases hj : j < n
    · simp [hj]
    · simp [hj]
  · rw [if_neg hij]
    by_cases hi : i < n
    · have : i ≠ j := fun e => hij e.symm
      simp [hi, this]
    · simp [hi]
theorem gr_lo {G : Gm} {k : Nat} (h : k < 1000) : gr G k = G.2.1 + k := if_pos h
theorem Wo.lt {G : Gm} {S : St} {H : Heap} (h : Wo G S H) {k : Nat} {s : Shp} (hs : S.1[k]? = some s) : k < 1000 := Nat.lt_of_lt_of_le (List.getElem?_eq_some_iff.mp hs).1 h.2.2
theorem Wo.gr {G : Gm} {S : St} {H : Heap} (h : Wo G S H) {k : Nat} {s : Shp} (hs : S.1[k]? = some s) : gr G k = G.2.1 + k := gr_lo (h.lt hs)
/-! what stands outside: constants of the classes, the texts, the script -/
def aboveT (j : Nat) : Int32 := match j with
  | 0 => -1 | 1 => 0 | 2 => 0 | 3 => 0 | 4 => 1 | 5 => 2 | _ => 0
def bodiesT (j : Nat) : Int32 := [10, 11, 12, 13, 20, 0, 0, 21, 0, 30, 0, 0, 0, 0, 40, 0, 50, 0, 51, 0, 0, 60, 0, 0, 70, 71, 0, 0].getD j 0
def txLen : List Nat := [4, 3, 0]
def txByt : List (List Int32) := [[109, 111, 117, 99], [119, 107, 109], []]
def Ex (G : Gm) (U : State) (H : Heap) : Prop :=
  va_Z RX5 "ABOVE" "[I" (.ref (gX G 0)) (gA G) U H ∧ va_T .int (gX G 0) 7 (fun j => .int (aboveT j)) (gA G) U H ∧
  va_Z RX4 "BODIES" "[I" (.ref (gX G 1)) (gA G) U H ∧ va_T .int (gX G 1) 28 (fun j => .int (bodiesT j)) (gA G) U H ∧
  va_Z "java/lang/String" "COMPACT_STRINGS" "Z" (.int 1) (gA G) U H ∧ vk_S 3 txLen txByt (fun i => gX G (3 + i)) (fun i => gX G (13 + i)) (gA G) U H ∧
  vk_R RX5 173 "mouc" (gX G 3) U ∧ vk_R RX5 175 "wkm" (gX G 4) U ∧ vk_R RX1 20 "" (gX G 5) U ∧
  (va_X (gX G 2) G.2.2.2.2.2.1 G.2.2.2.2.2.2.1 U H ∧ gX G 2 < G.2.1 ∧ gX G 2 < H.size) ∧ va_AO RX2 U ∧ ∀ w ∈ NWS, va_Nw w U
theorem Nw_warm {w : Cond} (hn : isN w = true) {s U : State} (hW : s.WarmedH U.vm) (h : va_Nw w s) : va_Nw w U := by
  cases w <;> first | exact va_Nw.warmM hW h | exact va_Nw.warmF hW h | exact absurd hn (by simp [isN])
theorem Ex.warm {G : Gm} {s U : State} {H H1 : Heap} (hW : s.WarmedH U.vm) (hz : H.size ≤ H1.size) (hk : ∀ a : Nat, a < H.size → ¬ gA G a → H1[a]? = H[a]?) (h : Ex G s H) : Ex G U H1 := by
  obtain ⟨h1, h2, h3, h4, h5, h6, h7, h8, h9, ⟨h10, h11, h12⟩, h13, h14⟩ := h
  have ha := hW.alike
  exact ⟨(h1.moved ha).kept hk, (h2.moved ha).kept hk, (h3.moved ha).kept hk, (h4.moved ha).kept hk, (h5.moved ha).kept hk, (h6.moved ha).kept hk, h7.warm hW, h8.warm hW, h9.warm hW, ⟨(h10.moved ha).kept (hk _ h12 (Nat.not_le.mpr h11)), h11, Nat.lt_of_lt_of_le h12 hz⟩, h13.moved ha, fun w hw => Nw_warm (List.mem_filter.mp hw).2 hW (h14 w hw)⟩
def Wd (G : Gm) (S : St) (U : State) : Prop := Wo G S U.heap ∧ va_K G.2.2.1 vwCl (gT G) U ∧ Ex G U U.heap
theorem Wd.warm {G : Gm} {S : St} {s U : State} {H1 : Heap} (hW : s.WarmedH U.vm) (hH : U.heap = H1) (hk : ∀ a : Nat, a < s.heap.size → ¬ gA G a → H1[a]? = s.heap[a]?) (hz : s.heap.size ≤ H1.size) (hWo : Wo G S H1) (hK : va_K G.2.2.1 vwCl (gT G) s) (hE : Ex G s s.heap) : Wd G S U := by
  subst hH
  exact ⟨hWo, hK.moved hW.alike, hE.warm hW hz hk⟩
/-! contracts -/
def rmD (d mc ms : Nat) : Room := { frames := d, cells := mc, slots := ms, locals := 64 * d }
def QK (G : Gm) (K : Option Value → St → Prop) : Array Value → State → Outcome → State → Prop := fun _ st oc t => (∃ (v : Option Value) (S' : St), oc = .returned (v.map (rv G)) ∧ K v S' ∧ Wd G S' t) ∧ va_F (gA G) st t
def wsM (mi : Mi) : List Cond := .code mi.1 mi.2.1 mi.2.2.1 mi.2.2.2.1 :: WS
def Ctr (G : Gm) (mi : Mi) (d mc ms : Nat) (av : List Value) (S : St) (K : Option Value → St → Prop) : Prop :=
  Met G.1 mi.1 (wsM mi) (rmD d mc ms) (va_Pc (av.map (rv G)) (Wd G S)) (QK G K) mc ms (gA G)
def En (G : Gm) (mi : Mi) (p : Program) (s : State) (m : MethodId) (args : Array Value) (meth : Method) (c : Code) : Prop :=
  p.tables.exec = Jvm.exec ∧ c.code = mi.2.1 ∧ meth.sig.returnType = mi.2.2.2.1 ∧ c.maxLocals = mi.2.2.1 ∧ s.vm.findClass mi.2.2.2.2 = some m.cls ∧ (∀ w ∈ WS, w.before args s = true) ∧ meth.locks = false ∧ meth.name = mi.1.name ∧ va_K G.2.2.1 vwCl (gT G) s ∧ Ex G s s.heap ∧ G.2.1 ≤ s.heap.size
def lvm (G : Gm) (lv : List (Nat × Value)) : List (Nat × Value) := lv.map fun q => (q.1, rv G q.2)
abbrev Qfun : Type := List Frame → Array Value → State → State → Prop
def WP (G : Gm) (R : Room) (mi : Mi) (Qf : Qfun) (kc ks pc : Nat) (lv : List (Nat × Value)) (st : List Value) (S : St) : Prop :=
  ∀ (p : Program) (e : Env) (s : State) (m : MethodId) (args : Array Value) (below : List Frame) (meth : Method) (c : Code), En G mi p s m args meth c →
  ∀ (H : Heap) (locs : List Loc) (ls : Array Slot), Wo G S H → va_S (gA G) s.heap H locs → lv_has ls mi.2.2.1 (lvm G lv) →
  W p G.1 e R s m args below meth c H locs kc ks (Qf below args s) (F0 m pc ls (st.map (rv G)))
def QfK (G : Gm) (K : Option Value → St → Prop) (mc ms : Nat) : Qfun := fun below args s => MQ below (QK G K) args s mc ms (gA G)
theorem rv_cat (G : Gm) (v : Value) : (rv G v).category = v.category := by cases v <;> rfl
theorem lvm_args (G : Gm) : ∀ (i : Nat) (av : List Value), lv_args i (av.map (rv G)) = lvm G (lv_args i av)
  | _, [] => rfl
  | i, v :: vs => by
    show (i, rv G v) :: lv_args _ (vs.map (rv G)) = _
    rw [lvm_args G _ vs, rv_cat]
    rfl
theorem lgsl_len (G : Gm) : ∀ av : List Value, (lg_sl (av.map (rv G))).length = (lg_sl av).length
  | [] => rfl
  | v :: vs => by
    have ih := lgsl_len G vs
    simp only [lg_sl, List.map_cons, List.flatMap_cons, List.length_append, rv_cat] at ih ⊢
    by_cases h : v.category = 2 <;> simp_all
theorem Ctr.of {G : Gm} {mi : Mi} {d mc ms : Nat} {av : List Value} {S : St} {K : Option Value → St → Prop} (hp : plainName mi.1.cls = true) (ho : mi.1.cls = mi.2.2.2.2) (hn : (lg_sl av).length ≤ mi.2.2.1) (h : WP G (rmD d mc ms) mi (QfK G K mc ms) 0 0 0 (lv_args 0 av) [] S) : Ctr G mi d mc ms av S K := by
  refine Met.ofW (cc := mi.2.1) (maxL := mi.2.2.1) (ret := mi.2.2.2.1) hp rfl ?_
  intro p e s m args below meth c s₁ B hml hv
  obtain ⟨rfl, hWo, hK, hE⟩ := hv
  have hts := atoms_spec (ws := wsM mi) B.pre
  have hown : s.vm.findClass mi.2.2.2.2 = some m.cls := by rw [← ho]; exact findClass_of_methodNamed B.named
  have hl := lv_entry (av.map (rv G)) (n := mi.2.2.1) (by rw [lgsl_len]; exact hn)
  rw [lvm_args] at hl
  rw [lg_entry_eq]
  exact h p e s m _ below meth c ⟨B.exec, B.bytes, B.returns, hml, hown, fun w hw => hts w (List.mem_cons_of_mem _ hw), B.notSynchronized, (name_of_methodNamed B.named B.method).1, hK, hE, hWo.2.1.1⟩ s.heap [] _ hWo va_S.rf hl
theorem Ctr.mono {G : Gm} {mi : Mi} {d mc ms : Nat} {av : List Value} {S : St} {K K' : Option Value → St → Prop} (h : Ctr G mi d mc ms av S K) (hk : ∀ v S', K v S' → K' v S') : Ctr G mi d mc ms av S K' := by
  intro p e ha hc hkk s m args below hf hap hP ht
  obtain ⟨k, o, h1, h2, h3, ⟨⟨v, S', e1, e2, e3⟩, h4⟩, h5⟩ := h p e ha hc hkk s m args below hf hap hP ht
  exact ⟨k, o, h1, h2, h3, ⟨⟨v, S', e1, hk v S' e2, e3⟩, h4⟩, h5⟩
theorem blind (G : Gm) (av : List Value) (S : St) : FrameBlind (va_Pc av (Wd G S)) := by
  intro a U g mk ⟨h1, h2, h3, h4⟩
  refine ⟨h1, ?_⟩
  have hW : U.WarmedH (U.calling g mk a).vm := State.WarmedH.refl U
  exact Wd.warm (s := U) (U := U.calling g mk a) hW rfl (fun _ _ _ => rfl) (Nat.le_refl _) h2 h3 h4
theorem goodWS {G : Gm} {y : Mi} {pre : List Cond} (hp : ∀ w ∈ pre, w ∈ WS) (hc : Cond.code y.1 y.2.1 y.2.2.1 y.2.2.2.1 ∈ WS) : GoodIn WS (pre ++ wsM y) := by
  intro w hw
  have h : w ∈ WS := by
    rcases List.mem_append.mp hw with h | h
    · exact hp w h
    · rcases List.mem_cons.mp h with h | h
      · rw [h]; exact hc
      · exact h
  exact ⟨h, good_of_word (WS_good w h)⟩
section
variable {G : Gm} {R : Room} {mi : Mi} {Qf : Qfun} {kc ks pc : Nat} {lv : List (Nat × Value)} {st : List Value} {S : St}
theorem va_callK {p : Program} {e : Env} {s : State} {m : MethodId} {args : Array Value} {below : List Frame} {meth : Method} {c : Code} {H : Heap} {locs : List Loc} {ls : Array Slot} {Q : State → Prop} {st0 rest : List Value} {a : Array Value} {mc ms : Nat} {K' : Option Value → St → Prop}
    (hr : va_Run p G.1 e R s m args below meth c H locs kc ks mc ms (F0 m pc ls st0) rest (QK G K' a) (gA G)) (hS : va_S (gA G) s.heap H locs)
    (kk : ∀ (v : Option Value) (S' : St) (H1 : Heap) (locs1 : List Loc), K' v S' → Wo G S' H1 → va_S (gA G) s.heap H1 locs1 → W p G.1 e R s m args below meth c H1 locs1 (kc + mc) (ks + ms) Q (F0 m (pc + 3) ls ((v.map (rv G)).toList ++ rest))) : W p G.1 e R s m args below meth c H locs kc ks Q (F0 m pc ls st0) := by
  intro T hT X
  obtain ⟨v, st₀, t, T', L, h0, X', hL, e1, e2, ⟨⟨v', S', hv, hK, hWd⟩, hz, hk⟩, st⟩ := hr T hT X
  have hv := Outcome.returned.inj hv
  subst hv
  rw [h0] at hz hk
  obtain ⟨t2, a1, b1⟩ := kk v' S' T'.heap (locs ++ L) hK (by rw [e1]; exact hWd.1) ⟨Nat.le_trans hS.1 (by rw [e1]; exact hz), fun q h1 h2 => by rw [e1, hk q (Nat.lt_of_lt_of_le h1 hS.1) h2]; exact hS.2.1 q h1 h2, fun q hq => by
      rcases List.mem_append.mp hq with h | h
      · exact hS.2.2 q h
      · exact hL q h⟩ T' rfl X'
  exact ⟨t2, st t2 a1, b1⟩
/-- the words of a method that is called on an object of its class / of a static one -/
def MWb (y : Mi) (n : Nat) : Prop := Cond.initialized y.2.2.2.2 ∈ WS ∧ Cond.code y.1 y.2.1 y.2.2.1 y.2.2.2.1 ∈ WS ∧ y.1.cls = y.2.2.2.2 ∧ (y.1.cls ≠ "java/lang/invoke/MethodHandle" ∧ y.1.cls ≠ "java/lang/invoke/VarHandle" ∧ (parseMethodDescriptor y.1.desc).map (fun d => d.parameters.length) = some n) ∧ y.2.2.1 ≤ 40
def MWv (y : Mi) (n : Nat) : Prop := MWb y n ∧ Cond.instanceMethod y.1 ∈ WS ∧ Cond.selects y.2.2.2.2 y.1 y.1 ∈ WS
def MWs (y : Mi) (n : Nat) : Prop := MWb y n ∧ Cond.static y.1 ∈ WS
def MWi (y : Mi) (n : Nat) : Prop := MWb y n ∧ Cond.instanceMethod y.1 ∈ WS ∧ y.1.name = "<init>" ∧ y.2.2.2.1 = none
def rmOk (R : Room) (d kc ks mc ms : Nat) : Prop := d + 1 ≤ R.frames ∧ 64 * (d + 1) ≤ R.locals ∧ kc + mc ≤ R.cells ∧ ks + ms ≤ R.slots
theorem cat_rv (st : List Value) : ((st.map (rv G)).map fun v => v.category).sum = (st.map fun v => v.category).sum := by
  rw [List.map_map]
  congr 1
  exact List.map_congr_left fun v _ => rv_cat G v
theorem preOf {s : State} {H : Heap} {av : List Value} {args : Array Value} {meth : Method} {c : Code} {p : Program} {m : MethodId} {locs : List Loc} (E : En G mi p s m args meth c) (hW : Wo G S H) (hS : va_S (gA G) s.heap H locs) : ∀ U : State, U.heap = H → s.WarmedH U.vm → va_Pc (av.map (rv G)) (Wd G S) (av.map (rv G)).toArray U := by
  intro U hU hw
  exact ⟨rfl, Wd.warm hw hU hS.2.1 hS.1 hW E.2.2.2.2.2.2.2.2.1 E.2.2.2.2.2.2.2.2.2.1⟩
theorem WP.callV {y : Mi} {index n d mc ms b ci : Nat} {As : List Value} {K' : Option Value → St → Prop} (hdg : decode mi.2.1 pc = .ok (.invokevirtual index, 3)) (hl : Cond.methodLink mi.2.2.2.2 index y.1 ∈ WS) (mw : MWv y n) (hn : As.length = n) (hst : (st.map fun v => v.category).sum ≤ 8) (hR : rmOk R d kc ks mc ms) (hsh : S.1[b]? = some (.inl ci)) (hci : ci < 7) (hC : cN ci = y.2.2.2.2)
    (hM : Ctr G y d mc ms (.ref b :: As) S K') (kk : ∀ v S', K' v S' → WP G R mi Qf (kc + mc) (ks + ms) (pc + 3) lv (v.toList ++ st) S') : WP G R mi Qf kc ks pc lv (As.reverse ++ .ref b :: st) S := by
  intro p e s m args below meth c E H locs ls hW hS hlv
  have hgr := hW.gr hsh
  obtain ⟨⟨w1, w2, w3, w4, w5⟩, w6, w7⟩ := mw
  have hts := E.2.2.2.2.2.1
  rw [List.map_append, List.map_reverse, List.map_cons]
  refine va_callK (K' := K') (rest := st.map (rv G)) (va_runV (As := As.map (rv G)) (C := y.2.2.2.2) (b := gr G b) ⟨E.1, E.2.1, E.2.2.2.1, E.2.2.2.2.1, hts⟩ hM (cwV n hts (goodWS (G := G) (pre := [.methodLink mi.2.2.2.2 index y.1, .instanceMethod y.1, .selects y.2.2.2.2 y.1 y.1, .initialized y.2.2.2.2]) ?_ w2) rfl rfl rfl ⟨w3, w4⟩ ⟨hR.1, by have := hR.2.1; show 8 + (y.2.2.1 + 11) + 64 * d ≤ _; omega⟩) ⟨blind G _ S, ?_, ?_⟩ rfl (by rw [List.length_map]; exact hn) hlv.1 rfl (lv_room (by rw [cat_rv]; exact hst)) hdg hR.2.2) hS (fun v S' H1 locs1 hK hW1 hS1 => ?_)
  · intro w hw
    simp only [List.mem_cons, List.mem_nil_iff, or_false] at hw
    rcases hw with rfl | rfl | rfl | rfl <;> assumption
  · have h := va_recv (q0 := b) (a := G.2.1 + b) (ci := ci) E.2.2.2.2.2.2.2.2.1 hW.1 (cf_cl hci) (cells_at hsh)
    rw [hgr, ← hC]
    exact h
  · exact preOf (av := .ref b :: As) E hW hS
  · have := kk v S' hK p e s m args below meth c E H1 locs1 ls hW1 hS1 hlv
    rw [List.map_append] at this
    cases v <;> exact this
theorem WP.callS {y : Mi} {index n d mc ms : Nat} {As : List Value} {K' : Option Value → St → Prop} (hdg : decode mi.2.1 pc = .ok (.invokestatic index, 3)) (hl : Cond.methodLink mi.2.2.2.2 index y.1 ∈ WS) (mw : MWs y n) (hn : As.length = n) (hst : (st.map fun v => v.category).sum ≤ 8) (hR : rmOk R d kc ks mc ms) (ho : y.2.2.2.2 = mi.2.2.2.2)
    (hM : Ctr G y d mc ms As S K') (kk : ∀ v S', K' v S' → WP G R mi Qf (kc + mc) (ks + ms) (pc + 3) lv (v.toList ++ st) S') : WP G R mi Qf kc ks pc lv (As.reverse ++ st) S := by
  intro p e s m args below meth c E H locs ls hW hS hlv
  obtain ⟨⟨w1, w2, w3, w4, w5⟩, w6⟩ := mw
  have hts := E.2.2.2.2.2.1
  rw [List.map_append, List.map_reverse]
  refine va_callK (K' := K') (rest := st.map (rv G)) (va_runS (As := As.map (rv G)) ⟨E.1, E.2.1, E.2.2.2.1, E.2.2.2.2.1, hts⟩ hM (cwS n hts (goodWS (G := G) (pre := [.methodLink mi.2.2.2.2 index y.1, .static y.1, .initialized mi.2.2.2.2]) ?_ w2) rfl rfl rfl ⟨w3.trans ho, w4⟩ ⟨hR.1, by have := hR.2.1; show 8 + (y.2.2.1 + 11) + 64 * d ≤ _; omega⟩) ⟨blind G _ S, ?_⟩ rfl (by rw [List.length_map]; exact hn) hlv.1 rfl (lv_room (by rw [cat_rv]; exact hst)) hdg hR.2.2) hS (fun v S' H1 locs1 hK hW1 hS1 => ?_)
  · intro w hw
    simp only [List.mem_cons, List.mem_nil_iff, or_false] at hw
    rw [ho] at w1
    rcases hw with rfl | rfl | rfl <;> assumption
  · exact preOf E hW hS
  · have := kk v S' hK p e s m args below meth c E H1 locs1 ls hW1 hS1 hlv
    rw [List.map_append] at this
    cases v <;> exact this
theorem WP.callSN {y : Mi} {index n d mc ms : Nat} {As : List Value} {host : String} {K' : Option Value → St → Prop} (hdg : decode mi.2.1 pc = .ok (.invokestatic index, 3)) (hl : Cond.methodLinkNest mi.2.2.2.2 index y.1 host ∈ NWS) (mw : MWs y n) (hn : As.length = n) (hst : (st.map fun v => v.category).sum ≤ 8) (hR : rmOk R d kc ks mc ms)
    (hM : Ctr G y d mc ms As S K') (kk : ∀ v S', K' v S' → WP G R mi Qf (kc + mc) (ks + ms) (pc + 3) lv (v.toList ++ st) S') : WP G R mi Qf kc ks pc lv (As.reverse ++ st) S := by
  intro p e s m args below meth c E H locs ls hW hS hlv
  obtain ⟨⟨w1, w2, w3, w4, w5⟩, w6⟩ := mw
  have hts := E.2.2.2.2.2.1
  have hE := E.2.2.2.2.2.2.2.2.2.1
  rw [List.map_append, List.map_reverse]
  refine va_callK (K' := K') (rest := st.map (rv G)) (va_runSN (As := As.map (rv G)) ⟨E.1, E.2.1, E.2.2.2.1, E.2.2.2.2.1, hts⟩ hM ⟨va_cnB (ret := y.2.2.2.1) (maxL := y.2.2.1) (bytes := y.2.1) (ws' := WS) n hts (goodWS (G := G) (y := y) (pre := []) (fun w h => absurd h List.not_mem_nil) w2) rfl rfl rfl (hE.2.2.2.2.2.2.2.2.2.2.2 _ hl) (hts _ (by rw [w3]; exact w1)) w4 ⟨hR.1, by have := hR.2.1; show 8 + (y.2.2.1 + 11) + 64 * d ≤ _; omega⟩, hts _ w6, trivial⟩ ⟨blind G _ S, ?_⟩ rfl (by rw [List.length_map]; exact hn) hlv.1 rfl (lv_room (by rw [cat_rv]; exact hst)) hdg hR.2.2) hS (fun v S' H1 locs1 hK hW1 hS1 => ?_)
  · exact preOf E hW hS
  · have := kk v S' hK p e s m args below meth c E H1 locs1 ls hW1 hS1 hlv
    rw [List.map_append] at this
    cases v <;> exact this
theorem WP.callI {y : Mi} {index n d mc ms b : Nat} {As : List Value} {K' : Option Value → St → Prop} (hdg : decode mi.2.1 pc = .ok (.invokespecial index, 3)) (hl : Cond.methodLink mi.2.2.2.2 index y.1 ∈ WS) (mw : MWi y n) (hn : As.length = n) (hst : (st.map fun v => v.category).sum ≤ 8) (hR : rmOk R d kc ks mc ms)
    (hM : Ctr G y d mc ms (.ref b :: As) S K') (kk : ∀ v S', K' v S' → WP G R mi Qf (kc + mc) (ks + ms) (pc + 3) lv (v.toList ++ st) S') : WP G R mi Qf kc ks pc lv (As.reverse ++ .ref b :: st) S := by
  intro p e s m args below meth c E H locs ls hW hS hlv
  obtain ⟨⟨w1, w2, w3, w4, w5⟩, w6, w7, w8⟩ := mw
  have hts := E.2.2.2.2.2.1
  rw [List.map_append, List.map_reverse, List.map_cons]
  refine va_callK (K' := K') (rest := st.map (rv G)) (va_runI (As := As.map (rv G)) (b := gr G b) ⟨E.1, E.2.1, E.2.2.2.1, E.2.2.2.2.1, hts⟩ hM (cwI (bytes := y.2.1) (maxL := y.2.2.1) (ws' := WS) n hts (goodWS (G := G) (y := y) (pre := []) (fun w h => absurd h List.not_mem_nil) w2) (by rw [wsM, w8]) rfl rfl (hts _ (by rw [w3]; exact w1)) (hts _ hl) (hts _ w6) w7 w4 ⟨hR.1, by have := hR.2.1; show 8 + (y.2.2.1 + 11) + 64 * d ≤ _; omega⟩) ⟨blind G _ S, ?_⟩ rfl (by rw [List.length_map]; exact hn) hlv.1 rfl (lv_room (by rw [cat_rv]; exact hst)) hdg hR.2.2) hS (fun v S' H1 locs1 hK hW1 hS1 => ?_)
  · exact preOf (av := .ref b :: As) E hW hS
  · have := kk v S' hK p e s m args below meth c E H1 locs1 ls hW1 hS1 hlv
    rw [List.map_append] at this
    cases v <;> exact this
theorem WP.callIN {y : Mi} {index n d mc ms b : Nat} {As : List Value} {host : String} {K' : Option Value → St → Prop} (hdg : decode mi.2.1 pc = .ok (.invokespecial index, 3)) (hl : Cond.methodLinkNest mi.2.2.2.2 index y.1 host ∈ NWS) (mw : MWi y n) (hn : As.length = n) (hst : (st.map fun v => v.category).sum ≤ 8) (hR : rmOk R d kc ks mc ms)
    (hM : Ctr G y d mc ms (.ref b :: As) S K') (kk : ∀ v S', K' v S' → WP G R mi Qf (kc + mc) (ks + ms) (pc + 3) lv (v.toList ++ st) S') : WP G R mi Qf kc ks pc lv (As.reverse ++ .ref b :: st) S := by
  intro p e s m args below meth c E H locs ls hW hS hlv
  obtain ⟨⟨w1, w2, w3, w4, w5⟩, w6, w7, w8⟩ := mw
  have hts := E.2.2.2.2.2.1
  have hE := E.2.2.2.2.2.2.2.2.2.1
  rw [List.map_append, List.map_reverse, List.map_cons]
  refine va_callK (K' := K') (rest := st.map (rv G)) (va_runIN (As := As.map (rv G)) (b := gr G b) ⟨E.1, E.2.1, E.2.2.2.1, E.2.2.2.2.1, hts⟩ hM ⟨va_cnB (ret := none) (maxL := y.2.2.1) (bytes := y.2.1) (ws' := WS) n hts (goodWS (G := G) (y := y) (pre := []) (fun w h => absurd h List.not_mem_nil) w2) (by rw [wsM, w8]) rfl rfl (hE.2.2.2.2.2.2.2.2.2.2.2 _ hl) (hts _ (by rw [w3]; exact w1)) w4 ⟨hR.1, by have := hR.2.1; show 8 + (y.2.2.1 + 11) + 64 * d ≤ _; omega⟩, w7, hts _ w6⟩ ⟨blind G _ S, ?_⟩ rfl (by rw [List.length_map]; exact hn) hlv.1 rfl (lv_room (by rw [cat_rv]; exact hst)) hdg hR.2.2) hS (fun v S' H1 locs1 hK hW1 hS1 => ?_)
  · exact preOf (av := .ref b :: As) E hW hS
  · have := kk v S' hK p e s m args below meth c E H1 locs1 ls hW1 hS1 hlv
    rw [List.map_append] at this
    cases v <;> exact this
end
