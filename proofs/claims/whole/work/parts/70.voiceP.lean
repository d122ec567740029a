-- 70.voiceP
-- parted or not
def PaK (kk nn mm : Int32) (m : Mem) (T L0 L1 : List Int32) (v : Int32) (K : Option Value → Mem → Prop) : Prop := (mm - nn = 0 → ∀ m', Fr [20, 21, 22] m m' → m' 20 4 = 1 → m' 20 1 = kk → vTr m' (T ++ L0) → K (some (.int 0)) m') ∧ (¬ mm - nn = 0 → ∀ m', Fr [21, 22] m m' → vTr m' (T ++ L1) → K (some (.int v)) m')
def SayP (B : Nat) (G : Gm) (t n i : Nat) (kk nn mm : Int32) (b a : Int32) (r D : Nat) (L0 L1 : List Int32) (V : Int32 → Int32) : Prop := ∀ (e dp : Nat) (x : Int32) (m : Mem) (T : List Int32) (K : Option Value → Mem → Prop), r ≤ e → dp + D ≤ 12 → VC kk nn mm m → vTr m T → T.length ≤ B → PaK kk nn mm m T L0 L1 (V x) K → Cal G mX4_say e [.ref 20, .int b, .int a, .int x, .int (Int32.ofNat dp)] SH (TA t n i) m K
def SpP (B : Nat) (G : Gm) (t n i : Nat) (kk nn mm : Int32) (k : Int32) (r D : Nat) (L0 L1 : List Int32) (V : Int32 → Int32) : Prop := ∀ (e dp : Nat) (x : Int32) (m : Mem) (T : List Int32) (K : Option Value → Mem → Prop), r ≤ e → dp + D ≤ 12 → VC kk nn mm m → vTr m T → T.length ≤ B → PaK kk nn mm m T L0 L1 (V x) K → Cal G mX4_speak e [.ref 20, .int k, .int 3, .int x, .int (Int32.ofNat dp)] SH (TA t n i) m K
def SpPW (B : Nat) (G : Gm) (t n i : Nat) (kk nn mm : Int32) (k : Int32) (c r D : Nat) (L0 L1 : List Int32) (V : Int32 → Int32) : Prop := ∀ (e dp j : Nat) (x : Int32) (m : Mem) (T : List Int32) (K : Option Value → Mem → Prop), r ≤ e + 1 → dp + D ≤ 12 → j + c ≤ 7 → VC kk nn mm m → vTr m T → T.length ≤ B → PaK kk nn mm m T L0 L1 (V x) K → WP G (rmD (e + 1) 0 0) mX4_speak (QC G SH (TA t n i) K) 0 0 6 [(0, .ref 20), (2, .int 3), (3, .int x), (4, .int (Int32.ofNat dp)), (5, .int k), (6, .int (Int32.ofNat j))] [] (SH, TA t n i, m)
section
variable {G : Gm} {t n i B : Nat} {kk nn mm : Int32}
set_option maxHeartbeats 4000000 in
theorem SpPW.c {k : Int32} {c r D : Nat} {L0 L1 : List Int32} {V : Int32 → Int32} (h : SpPW B G t n i kk nn mm k c r D L0 L1 V) (hc : c ≤ 7) (hG : fl G = false) (hr : 1 ≤ r) : SpP B G t n i kk nn mm k r D L0 L1 V := by
  intro e dp x m T K he hd hv ht hl kx
  obtain ⟨e, rfl⟩ : ∃ q, e = q + 1 := ⟨e - 1, by omega⟩
  exact Cal.of (by decide +kernel) rfl (Nat.le_of_ble_eq_true rfl) (rg_X4_speak_0 hG 20 k 3 x _ (h e dp 0 x m T K he hd (by omega) hv ht hl kx))
set_option maxHeartbeats 4000000 in
theorem PaK.app {m m1 : Mem} {T L0 L1 : List Int32} {b : Int32} {v : Int32} {K : Option Value → Mem → Prop} (h : PaK kk nn mm m T (b :: L0) (b :: L1) v K) (hf : Fr [21, 22] m m1) : PaK kk nn mm m1 (T ++ [b]) L0 L1 v K := by
  refine ⟨fun e m' f h4 h1 hr => h.1 e m' ((hf.mo (by simp)).tr f) h4 h1 (by rw [List.append_assoc] at hr; exact hr), fun e m' f hr => h.2 e m' (hf.tr f) (by rw [List.append_assoc] at hr; exact hr)⟩
set_option maxHeartbeats 4000000 in
theorem SpPW.own {o b a : Int32} {jo r D : Nat} {L0 L1 : List Int32} {V : Int32 → Int32} (hG : fl G = false) (hj : 4 * o + 3 = Int32.ofNat jo) (hj2 : jo < 28) (eb : bodiesT jo = b) (ea : (if 0 ≤ o ∧ o < 7 then aboveT o.toNatClampNeg else -1) = a) (ho : o ≤ 0 ∨ (¬ o ≤ 0 ∧ ¬ b = 0)) (hS : SayP (B + 1) G t n i kk nn mm b a r D L0 L1 V) (hB : B < 28) (hr : 1 ≤ r) : SpPW B G t n i kk nn mm o 1 (r + 1) (D + 1) (b :: L0) (b :: L1) V := by
  intro e dp j x m T K he hd hjc hv ht hl kx
  have main : Cal G mX4_bodyOf e [.int o, .int 3] SH (TA t n i) m (fun v5 m6 => ∃ r7, v5 = some (.int r7) ∧ ∃ i9, TA t n i 20 0 = some i9 ∧ SH[i9]? = some (.inl 2) ∧ Cal G mX2_add e [.ref i9, .int r7] SH (TA t n i) m6 (fun v11 m12 => v11 = none ∧ Cal G mX5_kindAbove e [.int o] SH (TA t n i) m12 (fun v16 m17 => ∃ r18, v16 = some (.int r18) ∧ Cal G mX4_say e [.ref 20, .int r7, .int r18, .int x, .int (Int32.ofNat dp + 1)] SH (TA t n i) m17 (fun v20 m21 => ∃ r22, v20 = some (.int r22) ∧ K (some (.int r22)) m21)))) := by
    refine c_X4_bodyOf hG (by omega) hj hj2 ⟨_, rfl, 21, rfl, rfl, c_X2_add hG (by omega) rfl rfl rfl (by decide) (by rw [ht.1]; exact o_0 _ (by omega)) ⟨rfl, c_X5_kindAbove hG (by omega) ⟨_, rfl, ?_⟩⟩⟩
    rw [ea, eb, o_1, if_pos (show m 21 1 < Int32.ofNat 30 by rw [ht.1]; exact (o_lt (by omega) (by decide)).mpr (by omega))]
    have hf : Fr [21, 22] m (up2 (upa m (21 + 1) (m 21 1) b) 21 1 (m 21 1 + 1)) := (Fr.ua (by decide)).tr (Fr.u2 (by decide))
    have kq := kx.app hf
    exact hS e (dp + 1) x _ (T ++ [b]) _ (by omega) (by omega) (hv.fr hf) (ht.add (by omega)) (by simp; omega) ⟨fun e m' f h4 h1 hr => ⟨_, rfl, kq.1 e m' f h4 h1 hr⟩, fun e m' f hr => ⟨_, rfl, kq.2 e m' f hr⟩⟩
  have h4 : m 20 4 = 0 := hv.2.2.2
  have hdp : Int32.ofNat dp ≤ 12 := (o_le (b := 12) (by omega) (by decide)).mpr (by omega)
  have h7 : ¬ 7 ≤ Int32.ofNat j := fun c => by have := (o_le (a := 7) (by decide) (by omega)).mp c; omega
  refine rg_X4_speak_6 hG 20 3 x _ o _ ⟨fun c => absurd c h7, fun _ => ⟨fun _ => ⟨rfl, fun c => absurd h4 c, fun _ => ⟨fun _ => main, fun c => absurd hdp c⟩⟩, fun c => ?_⟩⟩
  refine c_X4_bodyOf hG (by omega) hj hj2 ⟨_, rfl, fun _ => ⟨rfl, fun c => absurd h4 c, fun _ => ⟨fun _ => main, fun c => absurd hdp c⟩⟩, fun c2 => ?_⟩
  rw [eb] at c2
  rcases ho with h | h
  · exact absurd h c
  · exact absurd c2 h.2
set_option maxHeartbeats 4000000 in
theorem SpPW.up {k k2 : Int32} {jo c r D : Nat} {L0 L1 : List Int32} {V : Int32 → Int32} (hG : fl G = false) (hj : 4 * k + 3 = Int32.ofNat jo) (hj2 : jo < 28) (eb : bodiesT jo = 0) (ea : (if 0 ≤ k ∧ k < 7 then aboveT k.toNatClampNeg else -1) = k2) (hk : ¬ k ≤ 0) (hr : 2 ≤ r) (h : SpPW B G t n i kk nn mm k2 c r D L0 L1 V) : SpPW B G t n i kk nn mm k (c + 1) r D L0 L1 V := by
  intro e dp j x m T K he hd hjc hv ht hl kx
  have h7 : ¬ 7 ≤ Int32.ofNat j := fun c => by have := (o_le (a := 7) (by decide) (by omega)).mp c; omega
  refine rg_X4_speak_6 hG 20 3 x _ k _ ⟨fun c => absurd c h7, fun _ => ⟨fun c => absurd c hk, fun _ => c_X4_bodyOf hG (by omega) hj hj2 ⟨_, rfl, fun c2 => absurd eb c2, fun _ => c_X5_kindAbove hG (by omega) ⟨_, rfl, ?_⟩⟩⟩⟩
  rw [ea, o_1]
  exact h e dp (j + 1) x m T K he hd (by omega) hv ht hl kx
set_option maxHeartbeats 4000000 in
theorem c_X4_bodyOfA {sh : List Shp} {ta : Nat → Nat → Option Nat} {m : Mem} {K : Option Value → Mem → Prop} {d : Nat} (hG : fl G = false) (hd : 1 ≤ d) {o v : Int32} (k : ∀ r, K (some (.int r)) m) : Cal G mX4_bodyOf d [.int o, .int v] sh ta m K := by
  obtain ⟨d, rfl⟩ : ∃ e, d = e + 1 := ⟨d - 1, by omega⟩
  exact Cal.of (by decide +kernel) rfl (Nat.le_of_ble_eq_true rfl) (rg_X4_bodyOf_0 hG o v ⟨fun _ => k _, fun c => ⟨fun _ => k _, fun c2 => ⟨inb (Int32.not_lt.mp c) (Int32.not_le.mp c2) (by decide), k _⟩⟩⟩)
-- after it is parted nothing is said any more
set_option maxHeartbeats 4000000 in
theorem sp_none (hG : fl G = false) {e dp : Nat} {k v x : Int32} {m : Mem} {K : Option Value → Mem → Prop} (he : 2 ≤ e) (h4 : ¬ m 20 4 = 0) (kx : K (some (.int 0)) m) : Cal G mX4_speak e [.ref 20, .int k, .int v, .int x, .int (Int32.ofNat dp)] SH (TA t n i) m K := by
  obtain ⟨e, rfl⟩ : ∃ q, e = q + 1 := ⟨e - 1, by omega⟩
  refine Cal.of (by decide +kernel) rfl (Nat.le_of_ble_eq_true rfl) (rg_X4_speak_0 hG 20 k v x _ ?_)
  have loop : ∀ (c j : Nat), j + c = 7 → ∀ o : Int32, WP G (rmD (e + 1) 0 0) mX4_speak (QC G SH (TA t n i) K) 0 0 6 [(0, .ref 20), (2, .int v), (3, .int x), (4, .int (Int32.ofNat dp)), (5, .int o), (6, .int (Int32.ofNat j))] [] (SH, TA t n i, m) := by
    intro c
    induction c with
    | zero =>
      intro j hj o
      refine rg_X4_speak_6 hG 20 v x _ o _ ⟨fun _ => ⟨rfl, fun _ => kx, fun q => absurd q h4⟩, fun q => absurd ?_ q⟩
      exact (o_le (a := 7) (by decide) (by omega)).mpr (by omega)
    | succ c ih =>
      intro j hj o
      refine rg_X4_speak_6 hG 20 v x _ o _ ⟨fun _ => ⟨rfl, fun _ => kx, fun q => absurd q h4⟩, fun _ => ⟨fun _ => ⟨rfl, fun _ => kx, fun q => absurd q h4⟩, fun _ => c_X4_bodyOfA hG (by omega) (fun r => ⟨_, rfl, fun _ => ⟨rfl, fun _ => kx, fun q => absurd q h4⟩, fun _ => c_X5_kindAbove hG (by omega) ⟨_, rfl, ?_⟩⟩)⟩⟩
      rw [o_1]
      exact ih (j + 1) (by omega) _
  exact loop 7 0 rfl k
set_option maxHeartbeats 4000000 in
theorem say_13 (hG : fl G = false) : SayP B G t n i kk nn mm 13 (-1) 2 0 [] [] (fun x => x / (mm - nn)) := by
  intro e dp x m T K he hd hv ht hl kx
  obtain ⟨e, rfl⟩ : ∃ q, e = q + 1 := ⟨e - 1, by omega⟩
  have main : Cal G mX4_part e [.ref 20, .int x] SH (TA t n i) m (fun v16 m17 => ∃ r18, v16 = some (.int r18) ∧ K (some (.int r18)) m17) := by
    obtain ⟨e, rfl⟩ : ∃ q, e = q + 1 := ⟨e - 1, by omega⟩
    refine Cal.of (by decide +kernel) rfl (Nat.le_of_ble_eq_true rfl) (rg_X4_part_0 hG 20 x ?_)
    have hm : m 20 3 - m 20 2 = mm - nn := by rw [hv.2.2.1, hv.2.1]
    refine ⟨rfl, ?_⟩
    rw [hm]
    refine ⟨fun c => ⟨c, _, rfl, kx.2 c m Fr.rf (by rw [List.append_nil]; exact ht)⟩, fun c => ?_⟩
    rintro _ rfl
    refine ⟨_, rfl, kx.1 c _ (Fr.u2 (by decide)) (by rw [up2_eq, if_pos rfl]) (by rw [up2_eq, if_neg (by decide)]; exact hv.1) ?_⟩
    rw [List.append_nil]
    refine ⟨by rw [up2_ne (by decide)]; exact ht.1, fun j hj => by rw [up2_ne (by decide)]; exact ht.2 j hj⟩
  exact Cal.of (by decide +kernel) rfl (Nat.le_of_ble_eq_true rfl) (rg_X4_say_0 hG 20 13 (-1) x _ ⟨fun q => absurd q (by decide), fun q => absurd q (by decide), fun q => absurd q (by decide), fun _ => ⟨rfl, main⟩, fun q => absurd q (by decide), fun q => absurd q (by decide), fun q => absurd q (by decide), fun q => absurd q (by decide), fun q => absurd q (by decide), fun q => absurd q (by decide), fun q => absurd q (by decide), fun q => absurd q (by decide), fun q => absurd q (by decide), fun q0 q1 q2 q3 q4 q5 q6 q7 q8 q9 q10 q11 q12 => absurd rfl q3⟩)
set_option maxHeartbeats 4000000 in
theorem say_21 (hG : fl G = false) {r D : Nat} (hk : 0 ≤ kk ∧ kk ≤ 6) {V : Int32 → Int32} (hr : 12 ≤ r) (hD : 6 ≤ D) (hB : B ≤ 20) (hS : SpP B G t n i kk nn mm 0 r D [13] [13] V) : SayP B G t n i kk nn mm 21 0 (r + 1) D [13] (13 :: rlT kk kk) (fun x => V x + rlV nn mm kk kk 1) := by
  intro e dp x m T K he hd hv ht hl kx
  obtain ⟨e, rfl⟩ : ∃ q, e = q + 1 := ⟨e - 1, by omega⟩
  have hn := rlT_n kk kk
  have main : Cal G mX4_speak e [.ref 20, .int 0, .int 3, .int x, .int (Int32.ofNat dp)] SH (TA t n i) m (fun v28 m29 => ∃ r30, v28 = some (.int r30) ∧ Cal G mX4_speak e [.ref 20, .int (m29 20 1), .int 1, .int 1, .int (Int32.ofNat dp)] SH (TA t n i) m29 (fun v33 m34 => ∃ r35, v33 = some (.int r35) ∧ K (some (.int (r30 + r35))) m34)) := by
    refine hS e dp x m T _ (by omega) (by omega) hv ht (by omega) ⟨fun c m1 f1 h4 h1 hr1 => ⟨_, rfl, sp_none hG (by omega) (by rw [h4]; decide) ⟨_, rfl, ?_⟩⟩, fun c m1 f1 hr1 => ⟨_, rfl, ?_⟩⟩
    · exact kx.1 c m1 f1 h4 h1 hr1
    · rw [(hv.fr f1).1]
      refine spRolls hG hk hk e dp 1 m1 (T ++ [13]) _ (by omega) (by omega) (hv.fr f1) hr1 (by simp; omega) (fun m2 f2 hr2 => ⟨_, rfl, kx.2 c m2 (f1.tr f2) (by rw [List.append_assoc] at hr2; exact hr2)⟩)
  exact Cal.of (by decide +kernel) rfl (Nat.le_of_ble_eq_true rfl) (rg_X4_say_0 hG 20 21 0 x _ ⟨fun q => absurd q (by decide), fun q => absurd q (by decide), fun q => absurd q (by decide), fun q => absurd q (by decide), fun q => absurd q (by decide), fun _ => ⟨rfl, main⟩, fun q => absurd q (by decide), fun q => absurd q (by decide), fun q => absurd q (by decide), fun q => absurd q (by decide), fun q => absurd q (by decide), fun q => absurd q (by decide), fun q => absurd q (by decide), fun q0 q1 q2 q3 q4 q5 q6 q7 q8 q9 q10 q11 q12 => absurd rfl q5⟩)
set_option maxHeartbeats 4000000 in
theorem w30 (hG : fl G = false) (hB : B < 28) : SpPW B G t n i kk nn mm 0 1 3 1 [13] [13] (fun x => x / (mm - nn)) := SpPW.own hG (jo := 3) (by decide) (by decide) (by decide) (by decide) (Or.inl (by decide)) (say_13 hG) hB (by decide)
set_option maxHeartbeats 4000000 in
theorem w31 (hG : fl G = false) (hk : 0 ≤ kk ∧ kk ≤ 6) : SpPW 14 G t n i kk nn mm 1 1 14 7 [21, 13] (21 :: 13 :: rlT kk kk) (fun x => x / (mm - nn) + rlV nn mm kk kk 1) := SpPW.own hG (jo := 7) (by decide) (by decide) (by decide) (by decide) (Or.inr (by decide)) (say_21 hG (r := 12) (D := 6) hk (by decide) (by decide) (by decide) (fun e dp x m T K he hd hv ht hl kx => ((w30 hG (B := 15) (by decide)).c (by decide) hG (by decide)) e dp x m T K (by omega) (by omega) hv ht hl kx)) (by decide) (by decide)
set_option maxHeartbeats 4000000 in
theorem w34 (hG : fl G = false) (hk : 0 ≤ kk ∧ kk ≤ 6) : SpPW 14 G t n i kk nn mm 4 2 14 7 [21, 13] (21 :: 13 :: rlT kk kk) (fun x => x / (mm - nn) + rlV nn mm kk kk 1) := SpPW.up hG (jo := 19) (by decide) (by decide) (by decide) (by decide) (by decide) (by decide) (w31 hG hk)
set_option maxHeartbeats 4000000 in
theorem w32 (hG : fl G = false) (hB : B < 28) : SpPW B G t n i kk nn mm 2 2 3 1 [13] [13] (fun x => x / (mm - nn)) := SpPW.up hG (jo := 11) (by decide) (by decide) (by decide) (by decide) (by decide) (by decide) (w30 hG hB)
set_option maxHeartbeats 4000000 in
theorem w33 (hG : fl G = false) (hB : B < 28) : SpPW B G t n i kk nn mm 3 2 3 1 [13] [13] (fun x => x / (mm - nn)) := SpPW.up hG (jo := 15) (by decide) (by decide) (by decide) (by decide) (by decide) (by decide) (w30 hG hB)
set_option maxHeartbeats 4000000 in
theorem w36 (hG : fl G = false) (hB : B < 28) : SpPW B G t n i kk nn mm 6 2 3 1 [13] [13] (fun x => x / (mm - nn)) := SpPW.up hG (jo := 27) (by decide) (by decide) (by decide) (by decide) (by decide) (by decide) (w30 hG hB)
set_option maxHeartbeats 4000000 in
theorem w35 (hG : fl G = false) (hB : B < 28) : SpPW B G t n i kk nn mm 5 3 3 1 [13] [13] (fun x => x / (mm - nn)) := SpPW.up hG (jo := 23) (by decide) (by decide) (by decide) (by decide) (by decide) (by decide) (w32 hG hB)
set_option maxHeartbeats 4000000 in
theorem SpP.mo {k : Int32} {r D : Nat} {L0 L1 : List Int32} {V : Int32 → Int32} (h : SpP 14 G t n i kk nn mm k r D L0 L1 V) (hr : r ≤ 14) (hD : D ≤ 7) (e0 : mm - nn = 0 → L0 = paT nn mm kk k) (e1 : ¬ mm - nn = 0 → L1 = paT nn mm kk k) (eV : ∀ x, ¬ mm - nn = 0 → V x = paV nn mm kk k x) : ∀ (e dp : Nat) (x : Int32) (m : Mem) (T : List Int32) (K : Option Value → Mem → Prop), 14 ≤ e → dp + 7 ≤ 12 → VC kk nn mm m → vTr m T → T.length ≤ 14 → (∀ m', Fr [20, 21, 22] m m' → m' 20 4 = (if mm - nn = 0 then 1 else 0) → vTr m' (T ++ paT nn mm kk k) → K (some (.int (paV nn mm kk k x))) m') → Cal G mX4_speak e [.ref 20, .int k, .int 3, .int x, .int (Int32.ofNat dp)] SH (TA t n i) m K := by
  intro e dp x m T K he hd hv ht hl kx
  refine h e dp x m T K (by omega) (by omega) hv ht hl ⟨fun c m' f h4 _ hr => ?_, fun c m' f hr => ?_⟩
  · have := kx m' f (by rw [h4, if_pos c]) (by rw [← e0 c]; exact hr)
    rwa [paV, if_pos c] at this
  · rw [eV x c]
    exact kx m' (f.mo (by simp)) (by rw [if_neg c, f 20 (by decide)]; exact hv.2.2.2) (by rw [← e1 c]; exact hr)
set_option maxHeartbeats 4000000 in
theorem spParts (hG : fl G = false) (hkk : 0 ≤ kk ∧ kk ≤ 6) {k : Int32} (hk : 0 ≤ k ∧ k ≤ 6) : ∀ (e dp : Nat) (x : Int32) (m : Mem) (T : List Int32) (K : Option Value → Mem → Prop), 14 ≤ e → dp + 7 ≤ 12 → VC kk nn mm m → vTr m T → T.length ≤ 14 → (∀ m', Fr [20, 21, 22] m m' → m' 20 4 = (if mm - nn = 0 then 1 else 0) → vTr m' (T ++ paT nn mm kk k) → K (some (.int (paV nn mm kk k x))) m') → Cal G mX4_speak e [.ref 20, .int k, .int 3, .int x, .int (Int32.ofNat dp)] SH (TA t n i) m K := by
  rcases r06 hk with rfl | rfl | rfl | rfl | rfl | rfl | rfl
  · exact ((w30 hG (by decide)).c (by decide) hG (by decide)).mo (by decide) (by decide) (fun c => by rw [paT, if_neg (by decide)]) (fun c => by rw [paT, if_neg (by decide)]) (fun x c => by rw [paV, if_neg c, if_neg (by decide)])
  · exact ((w31 hG hkk).c (by decide) hG (by decide)).mo (by decide) (by decide) (fun c => by rw [paT, if_pos (by decide), if_pos c]) (fun c => by rw [paT, if_pos (by decide), if_neg c]) (fun x c => by rw [paV, if_neg c, if_pos (by decide)])
  · exact ((w32 hG (by decide)).c (by decide) hG (by decide)).mo (by decide) (by decide) (fun c => by rw [paT, if_neg (by decide)]) (fun c => by rw [paT, if_neg (by decide)]) (fun x c => by rw [paV, if_neg c, if_neg (by decide)])
  · exact ((w33 hG (by decide)).c (by decide) hG (by decide)).mo (by decide) (by decide) (fun c => by rw [paT, if_neg (by decide)]) (fun c => by rw [paT, if_neg (by decide)]) (fun x c => by rw [paV, if_neg c, if_neg (by decide)])
  · exact ((w34 hG hkk).c (by decide) hG (by decide)).mo (by decide) (by decide) (fun c => by rw [paT, if_pos (by decide), if_pos c]) (fun c => by rw [paT, if_pos (by decide), if_neg c]) (fun x c => by rw [paV, if_neg c, if_pos (by decide)])
  · exact ((w35 hG (by decide)).c (by decide) hG (by decide)).mo (by decide) (by decide) (fun c => by rw [paT, if_neg (by decide)]) (fun c => by rw [paT, if_neg (by decide)]) (fun x c => by rw [paV, if_neg c, if_neg (by decide)])
  · exact ((w36 hG (by decide)).c (by decide) hG (by decide)).mo (by decide) (by decide) (fun c => by rw [paT, if_neg (by decide)]) (fun c => by rw [paT, if_neg (by decide)]) (fun x c => by rw [paV, if_neg c, if_neg (by decide)])
def voT (nn mm k v : Int32) : List Int32 := if v = 0 then lzT k else if v = 1 then rlT k k else if v = 2 then faT k k else paT nn mm k k
def voV (nn mm k v x : Int32) : Int32 := if v = 0 then lzV nn k x else if v = 1 then rlV nn mm k k x else if v = 2 then faV nn mm k k x else paV nn mm k k x
def voP (nn mm v : Int32) : Int32 := if v = 3 then (if mm - nn = 0 then 1 else 0) else 0
set_option maxHeartbeats 4000000 in
theorem voT_n (nn mm k v : Int32) : (voT nn mm k v).length ≤ 8 := by
  unfold voT
  split
  · have := lzT_n k; omega
  · split
    · have := rlT_n k k; omega
    · split
      · exact faT_n k k
      · exact paT_n nn mm k k
set_option maxHeartbeats 4000000 in
theorem c_X4_begin (hG : fl G = false) {d : Nat} {v x : Int32} {m : Mem} {K : Option Value → Mem → Prop} (hd : 18 ≤ d) (hk : 0 ≤ kk ∧ kk ≤ 6) (hv : 0 ≤ v ∧ v ≤ 3) (k : ∀ m', Fr [20, 21, 22] m m' → m' 20 5 = voV nn mm kk v x → vTr m' (voT nn mm kk v) → K (some (.int (if voP nn mm v = 0 then 1 else 0))) m') : Cal G mX4_begin d [.ref 20, .int kk, .int nn, .int mm, .int v, .int x] SH (TA t n i) m K := by
  obtain ⟨d, rfl⟩ : ∃ e, d = e + 1 := ⟨d - 1, by omega⟩
  refine Cal.of (by decide +kernel) rfl (Nat.le_of_ble_eq_true rfl) (rg_X4_begin_0 hG 20 kk nn mm v x ⟨rfl, ?_⟩)
  rintro _ rfl _ rfl _ rfl _ rfl
  refine ⟨21, rfl, rfl, c_X2_clear hG (by omega) rfl ⟨rfl, ?_⟩⟩
  generalize hM : up2 (up2 (up2 (up2 (up2 m 20 1 kk) 20 2 nn) 20 3 mm) 20 4 0) 21 1 0 = M
  have f0 : Fr [20, 21, 22] m M := by rw [← hM]; exact ((((Fr.u2 (by decide)).tr (Fr.u2 (by decide))).tr (Fr.u2 (by decide))).tr (Fr.u2 (by decide))).tr (Fr.u2 (by decide))
  have vc : VC kk nn mm M := by
    refine ⟨?_, ?_, ?_, ?_⟩
    · rw [← hM, up2_ne (by decide), up2_eq, if_neg (by decide), up2_eq, if_neg (by decide), up2_eq, if_neg (by decide), up2_eq, if_pos rfl]
    · rw [← hM, up2_ne (by decide), up2_eq, if_neg (by decide), up2_eq, if_neg (by decide), up2_eq, if_pos rfl]
    · rw [← hM, up2_ne (by decide), up2_eq, if_neg (by decide), up2_eq, if_pos rfl]
    · rw [← hM, up2_ne (by decide), up2_eq, if_pos rfl]
  have vt : vTr M [] := ⟨by rw [← hM, up2_eq, if_pos rfl]; rfl, fun j hj => absurd hj (by simp)⟩
  have fin : ∀ (m1 : Mem), Fr [20, 21, 22] M m1 → m1 20 4 = voP nn mm v → vTr m1 (voT nn mm kk v) → ∃ r15, some (Value.int (voV nn mm kk v x)) = some (.int r15) ∧ ∀ m17, m17 = up2 m1 20 5 r15 → ((¬ (m17 20 4) = 0 → K (some (.int 0)) m17) ∧ ((m17 20 4) = 0 → K (some (.int 1)) m17)) := by
    intro m1 f1 h4 hr
    refine ⟨_, rfl, ?_⟩
    rintro _ rfl
    have kk' := k (up2 m1 20 5 (voV nn mm kk v x)) (f0.tr (f1.tr (Fr.u2 (by decide)))) (by rw [up2_eq, if_pos rfl]) ⟨by rw [up2_ne (by decide)]; exact hr.1, fun j hj => by rw [up2_ne (by decide)]; exact hr.2 j hj⟩
    have e4 : up2 m1 20 5 (voV nn mm kk v x) 20 4 = voP nn mm v := by rw [up2_eq, if_neg (by decide), h4]
    rw [e4]
    refine ⟨fun c => ?_, fun c => ?_⟩
    · rw [if_neg c] at kk'; exact kk'
    · rw [if_pos c] at kk'; exact kk'
  have e0 : (0 : Int32) = Int32.ofNat 0 := rfl
  rcases r03 hv.1 hv.2 with rfl | rfl | rfl | rfl
  · exact spLies hG hk d 0 x M [] _ (by omega) (by omega) vc vt (by have := lzT_n kk; simp; omega) (fun m1 f1 hr => fin m1 (f1.mo (by simp)) (by rw [f1 20 (by decide)]; exact vc.2.2.2) hr)
  · exact spRolls hG hk hk d 0 x M [] _ (by omega) (by omega) vc vt (by have := rlT_n kk kk; simp; omega) (fun m1 f1 hr => fin m1 (f1.mo (by simp)) (by rw [f1 20 (by decide)]; exact vc.2.2.2) hr)
  · exact spFalls hG hk hk d 0 x M [] _ (by omega) (by omega) vc vt (by have := faT_n kk kk; simp; omega) (fun m1 f1 hr => fin m1 (f1.mo (by simp)) (by rw [f1 20 (by decide)]; exact vc.2.2.2) hr)
  · exact spParts hG hk hk d 0 x M [] _ (by omega) (by omega) vc vt (by simp) (fun m1 f1 h4 hr => fin m1 f1 h4 hr)
def voR (f : Nat → Int32) (x v y : Int32) : Int32 × Int32 := if voP x (its f x 1) v = 0 then (0, voV x (its f x 1) (its f x 0) v y) else (6, 0)
set_option maxHeartbeats 4000000 in
theorem c_X5_voice (hG : fl G = false) {d : Nat} {x v y : Int32} {m : Mem} {K : Option Value → Mem → Prop} {f : Nat → Int32} (hd : 20 ≤ d) (hb : RB m 35 44 f) (hw : WF f) (k1 : 0 ≤ x ∧ x < rd f 0 → 0 ≤ v ∧ v ≤ 3 → ∀ m', Fr [20, 21, 22] m m' → vTr m' (voT x (its f x 1) (its f x 0) v) → Ans [] 34 m' K (voR f x v y)) (k2 : ¬ ((0 ≤ x ∧ x < rd f 0) ∧ 0 ≤ v ∧ v ≤ 3) → K (some (.int (-1000000001))) (set1 m 34 (wr (m 34) 1 (rd (m 34) 1 + 1)))) : Cal G mX5_voice d [.ref 0, .int x, .int v, .int y] SH (TA t n i) m K := by
  obtain ⟨d, rfl⟩ : ∃ e, d = e + 1 := ⟨d - 1, by omega⟩
  have h16 := hw.1.1.2
  refine Cal.of (by decide +kernel) rfl (Nat.le_of_ble_eq_true rfl) (rg_X5_voice_0 hG 0 x v y ⟨rfl, 35, rfl, rfl, c_X0_hasR hG (by omega) hb h16 ⟨_, rfl, fun q => ?_, fun q => ?_⟩⟩)
  · exact c_X5_refuse hG (by omega) (by decide) ⟨_, rfl, k2 (fun o => b0 q o.1)⟩
  · have q := b1 q
    refine ⟨fun c => c_X5_refuse hG (by omega) (by decide) ⟨_, rfl, k2 (fun o => absurd c (Int32.not_lt.mpr o.2.1))⟩, fun c => ⟨fun c2 => ⟨20, rfl, ?_⟩, fun c2 => c_X5_refuse hG (by omega) (by decide) ⟨_, rfl, k2 (fun o => c2 o.2.2)⟩⟩⟩
    have hv : 0 ≤ v ∧ v ≤ 3 := ⟨Int32.not_lt.mp c, c2⟩
    refine c_X0_kindOf hG (by omega) B35 hb h16 ⟨_, rfl, c_X0_mOf hG (by omega) B35 hb h16 ⟨_, rfl, rfl, ?_⟩⟩
    rw [if_pos q, if_pos q]
    refine c_X4_begin hG (by omega) (hw.1.2 x q.1 q.2).1 hv (fun m' hf h5 hr => ⟨_, rfl, ?_⟩)
    have kk := k1 q hv m' hf hr
    unfold voR at kk
    refine ⟨fun c => ?_, fun c => ?_⟩
    · have hp := b0 c
      rw [if_neg hp] at kk
      exact c_X5_refuse hG (by omega) (by decide) ⟨_, rfl, kk.no Fr.rf rfl (by decide)⟩
    · have hp := b1 c
      rw [if_pos hp] at kk
      rw [h5]
      exact kk.ok Fr.rf rfl
end

