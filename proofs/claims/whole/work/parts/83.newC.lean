-- 83.newC
/-! objects made in the order of the layout -/
def Fn (n : Nat) (U : List (Nat × Nat × Nat)) (V : List (Nat × Nat × Int32)) : Prop := (∀ q ∈ U, q.1 < n) ∧ ∀ q ∈ V, q.1 < n
set_option maxHeartbeats 4000000 in
theorem Fn.up {n n' : Nat} {U : List (Nat × Nat × Nat)} {V : List (Nat × Nat × Int32)} (h : Fn n U V) (hn : n ≤ n') : Fn n' U V := ⟨fun q hq => Nat.lt_of_lt_of_le (h.1 q hq) hn, fun q hq => Nat.lt_of_lt_of_le (h.2 q hq) hn⟩
set_option maxHeartbeats 4000000 in
theorem Fn.t {n k j x : Nat} {U : List (Nat × Nat × Nat)} {V : List (Nat × Nat × Int32)} (h : Fn n U V) (hk : k < n) : Fn n ((k, j, x) :: U) V := ⟨fun q hq => by
  rcases List.mem_cons.mp hq with rfl | hq
  · exact hk
  · exact h.1 q hq, h.2⟩
set_option maxHeartbeats 4000000 in
theorem Fn.m {n k j : Nat} {x : Int32} {U : List (Nat × Nat × Nat)} {V : List (Nat × Nat × Int32)} (h : Fn n U V) (hk : k < n) : Fn n U ((k, j, x) :: V) := ⟨h.1, fun q hq => by
  rcases List.mem_cons.mp hq with rfl | hq
  · exact hk
  · exact h.2 q hq⟩
set_option maxHeartbeats 4000000 in
theorem tk_s {n : Nat} {s : Shp} (h : SH[n]? = some s) : SH.take n ++ [s] = SH.take (n + 1) := by rw [List.take_succ, h]; rfl
set_option maxHeartbeats 4000000 in
theorem tk_l {n : Nat} (h : n < 89) : (SH.take n).length = n := by rw [List.length_take, SH_len]; omega
set_option maxHeartbeats 4000000 in
theorem tk_g {n k : Nat} {s : Shp} (h : k < n) (hs : SH[k]? = some s) : (SH.take n)[k]? = some s := by rw [List.getElem?_take_of_lt h]; exact hs
set_option maxHeartbeats 4000000 in
theorem rmk {d mc ms kc ks : Nat} (h1 : kc ≤ mc) (h2 : ks ≤ ms) : rmOk (rmD (d + 1) mc ms) 0 kc ks 0 0 := ⟨by show 0 + 1 ≤ d + 1; omega, by show 64 * (0 + 1) ≤ 64 * (d + 1); omega, h1, h2⟩
set_option maxHeartbeats 4000000 in
theorem rmc {d e mc ms kc ks a b : Nat} (he : e ≤ d) (h1 : kc + a ≤ mc) (h2 : ks + b ≤ ms) : rmOk (rmD (d + 1) mc ms) e kc ks a b := ⟨by show e + 1 ≤ d + 1; omega, by show 64 * (e + 1) ≤ 64 * (d + 1); omega, h1, h2⟩
section
variable {G : Gm} {R : Room} {mi : Mi} {Qf : Qfun} {kc ks pc n : Nat} {lv : List (Nat × Value)} {st : List Value} {U : List (Nat × Nat × Nat)} {V : List (Nat × Nat × Int32)}
set_option maxHeartbeats 4000000 in
theorem WP.newOC {index : Nat} (c : Nat) (hc : c < 7) (hl : Cond.classLink mi.2.2.2.2 index (cN c) ∈ WS) (hk : Cond.instantiable (cN c) (nF c) ∈ WS) (hz : Cond.initialized (cN c) ∈ WS) (hG : fl G = true) (hn : n < 89) (hs : SH[n]? = some (.inl c)) (hF : Fn n U V) (hR : kc + 1 ≤ R.cells ∧ ks + nF c ≤ R.slots) (hd : decode mi.2.1 pc = .ok (.new index, 3)) (k : WP G R mi Qf (kc + 1) (ks + nF c) (pc + 3) lv (.ref n :: st) (SH.take (n + 1), tU U, mU V)) : WP G R mi Qf kc ks pc lv st (SH.take n, tU U, mU V) := by
  have e := tk_l hn
  refine WP.newO (S := (SH.take n, tU U, mU V)) hc hl hk hz hG ?_ ?_ ?_ hR hd ?_
  · show tU U (SH.take n).length = _
    rw [e]; exact tU_fr hF.1
  · show mU V (SH.take n).length = _
    rw [e]; exact mU_fr hF.2
  · show (SH.take n).length < 1000
    rw [e]; omega
  · show WP G R mi Qf _ _ _ _ (.ref (SH.take n).length :: st) (SH.take n ++ [.inl c], tU U, mU V)
    rw [e, tk_s hs]; exact k
set_option maxHeartbeats 4000000 in
theorem WP.newIC {x : Int32} (N : Nat) (hx : x = Int32.ofNat N) (hN : N < 1000) (hG : fl G = true) (hn : n < 89) (hs : SH[n]? = some (.inr (0, N))) (hF : Fn n U V) (hR : kc + 1 ≤ R.cells ∧ ks + N ≤ R.slots) (hd : decode mi.2.1 pc = .ok (.newarray .int, 2)) (k : WP G R mi Qf (kc + 1) (ks + N) (pc + 2) lv (.ref n :: st) (SH.take (n + 1), tU U, mU V)) : WP G R mi Qf kc ks pc lv (.int x :: st) (SH.take n, tU U, mU V) := by
  have e := tk_l hn
  refine WP.newI (S := (SH.take n, tU U, mU V)) N hx hN hG ?_ ?_ hR hd ?_
  · show mU V (SH.take n).length = _
    rw [e]; exact mU_fr hF.2
  · show (SH.take n).length < 1000
    rw [e]; omega
  · show WP G R mi Qf _ _ _ _ (.ref (SH.take n).length :: st) (SH.take n ++ [.inr (0, N)], tU U, mU V)
    rw [e, tk_s hs]; exact k
set_option maxHeartbeats 4000000 in
theorem WP.newRC {index : Nat} {x : Int32} (N : Nat) (hx : x = Int32.ofNat N) (hN : N < 1000) (hl : Cond.classLink mi.2.2.2.2 index RX2 ∈ WS) (hG : fl G = true) (hn : n < 89) (hs : SH[n]? = some (.inr (1, N))) (hF : Fn n U V) (hR : kc + 1 ≤ R.cells ∧ ks + N ≤ R.slots) (hd : decode mi.2.1 pc = .ok (.anewarray index, 3)) (k : WP G R mi Qf (kc + 1) (ks + N) (pc + 3) lv (.ref n :: st) (SH.take (n + 1), tU U, mU V)) : WP G R mi Qf kc ks pc lv (.int x :: st) (SH.take n, tU U, mU V) := by
  have e := tk_l hn
  refine WP.newR (S := (SH.take n, tU U, mU V)) N hx hN hl hG ?_ ?_ hR hd ?_
  · show tU U (SH.take n).length = _
    rw [e]; exact tU_fr hF.1
  · show (SH.take n).length < 1000
    rw [e]; omega
  · show WP G R mi Qf _ _ _ _ (.ref (SH.take n).length :: st) (SH.take n ++ [.inr (1, N)], tU U, mU V)
    rw [e, tk_s hs]; exact k
set_option maxHeartbeats 4000000 in
theorem WP.putRFC {index b x : Nat} (c j : Nat) (hw : Cond.fieldLink mi.2.2.2.2 index (cT c j).1 (cT c j).2.1 (cT c j).2.2.1 ∈ WS) (hc : c < 7) (hj : j < nF c) (hi : isI c j = false) (hb : b < n) (hs : SH[b]? = some (.inl c)) (hfin : (cT c j).2.2.2 = true) (hin : mi.1.name = "<init>") (hdc : (cT c j).1 = mi.2.2.2.2) (hn : narrow (cY c j) (rv G (.ref x)) = rv G (.ref x)) (hf : fits (cY c j) (rv G (.ref x)) = true) (hd : decode mi.2.1 pc = .ok (.putfield index, 3)) (k : WP G R mi Qf kc ks (pc + 3) lv st (SH.take n, tU ((b, j, x) :: U), mU V)) : WP G R mi Qf kc ks pc lv (.ref x :: .ref b :: st) (SH.take n, tU U, mU V) :=
  WP.putRF c j hw hc hj hi (tk_g hb hs) hfin hin hdc hn hf hd (by rw [← upt_tU] at k; exact k)
set_option maxHeartbeats 4000000 in
theorem WP.putRC {index b x : Nat} (c j : Nat) (hw : Cond.fieldLink mi.2.2.2.2 index (cT c j).1 (cT c j).2.1 (cT c j).2.2.1 ∈ WS) (hc : c < 7) (hj : j < nF c) (hi : isI c j = false) (hb : b < n) (hs : SH[b]? = some (.inl c)) (hfin : (cT c j).2.2.2 = false) (hn : narrow (cY c j) (rv G (.ref x)) = rv G (.ref x)) (hf : fits (cY c j) (rv G (.ref x)) = true) (hd : decode mi.2.1 pc = .ok (.putfield index, 3)) (k : WP G R mi Qf kc ks (pc + 3) lv st (SH.take n, tU ((b, j, x) :: U), mU V)) : WP G R mi Qf kc ks pc lv (.ref x :: .ref b :: st) (SH.take n, tU U, mU V) :=
  WP.putR c j hw hc hj hi (tk_g hb hs) hfin hn hf hd (by rw [← upt_tU] at k; exact k)
set_option maxHeartbeats 4000000 in
theorem WP.putIC {index b : Nat} {x : Int32} (c j : Nat) (hw : Cond.fieldLink mi.2.2.2.2 index (cT c j).1 (cT c j).2.1 (cT c j).2.2.1 ∈ WS) (hc : c < 7) (hj : j < nF c) (hi : isI c j = true) (hb : b < n) (hs : SH[b]? = some (.inl c)) (hfin : (cT c j).2.2.2 = false) (hn : narrow (cY c j) (rv G (.int x)) = rv G (.int x)) (hf : fits (cY c j) (rv G (.int x)) = true) (hd : decode mi.2.1 pc = .ok (.putfield index, 3)) (k : WP G R mi Qf kc ks (pc + 3) lv st (SH.take n, tU U, mU ((b, j, x) :: V))) : WP G R mi Qf kc ks pc lv (.int x :: .ref b :: st) (SH.take n, tU U, mU V) :=
  WP.putI c j hw hc hj hi (tk_g hb hs) hfin hn hf hd (by rw [← up2_mU] at k; exact k)
set_option maxHeartbeats 4000000 in
theorem WP.aastC {b v N : Nat} {i : Int32} (j : Nat) (hi : i = Int32.ofNat j) (hj : j < N) (hN : N < 1000) (hb : b < n) (hs : SH[b]? = some (.inr (1, N))) (hv : v < n) (hsv : SH[v]? = some (.inl 2)) (hd : decode mi.2.1 pc = .ok (.aastore, 1)) (k : WP G R mi Qf kc ks (pc + 1) lv st (SH.take n, tU ((b, j, v) :: U), mU V)) : WP G R mi Qf kc ks pc lv (.ref v :: .int i :: .ref b :: st) (SH.take n, tU U, mU V) := by
  subst hi
  refine WP.aast (c0 := 0) (tk_g hb hs) (ib_o hj (by omega)) (tk_g hv hsv) hd ?_
  rw [← upt_tU] at k
  show WP G R mi Qf _ _ _ _ _ (SH.take n, upt (tU U) b (Int32.ofNat j).toNatClampNeg (some v), mU V)
  rw [tn_o (by omega)]
  exact k
set_option maxHeartbeats 4000000 in
theorem WP.iastC {b N : Nat} {i x : Int32} (j : Nat) (hi : i = Int32.ofNat j) (hj : j < N) (hN : N < 1000) (hb : b < n) (hs : SH[b]? = some (.inr (0, N))) (hd : decode mi.2.1 pc = .ok (.iastore, 1)) (k : WP G R mi Qf kc ks (pc + 1) lv st (SH.take n, tU U, mU ((b, j, x) :: V))) : WP G R mi Qf kc ks pc lv (.int x :: .int i :: .ref b :: st) (SH.take n, tU U, mU V) := by
  subst hi
  refine WP.iast (tk_g hb hs) (ib_o hj (by omega)) hd ?_
  rw [← up2_mU] at k
  show WP G R mi Qf _ _ _ _ _ (SH.take n, tU U, up2 (mU V) b (Int32.ofNat j).toNatClampNeg x)
  rw [tn_o (by omega)]
  exact k
end

