-- 69.voiceC
def lzT (k : Int32) : List Int32 := if k = 1 then [20, 10] else if k = 4 then [50, 20, 10] else if k = 6 then [70] else [10]
def lzV (nn k x : Int32) : Int32 := if k = 1 then x + nn - 3 else if k = 4 then (x + nn - 3) * 3 else if k = 6 then 4 else x + nn
def rlT (kk k : Int32) : List Int32 := if k = 2 then 30 :: 11 :: lzT kk else if k = 5 then 60 :: 30 :: 11 :: lzT kk else if k = 6 then 71 :: 11 :: lzT kk else 11 :: lzT kk
def rlV (nn mm kk k x : Int32) : Int32 := if k = 2 then 0 - lzV nn kk x * 2 else if k = 5 then 0 - lzV nn kk (x + 1) * 2 else if k = 6 then lzV nn kk x * 2 + mm else lzV nn kk x * 2
def faT (kk k : Int32) : List Int32 := if k = 3 then 40 :: 12 :: rlT kk kk else if k = 4 then 51 :: 12 :: rlT kk kk else 12 :: rlT kk kk
def faV (nn mm kk k x : Int32) : Int32 := if k = 3 then rlV nn mm kk kk (x / 2) - mm else if k = 4 then (rlV nn mm kk kk x - mm) ^^^ nn else rlV nn mm kk kk x - mm
def paT (nn mm kk k : Int32) : List Int32 := if k = 1 ∨ k = 4 then 21 :: 13 :: (if mm - nn = 0 then [] else rlT kk kk) else [13]
def paV (nn mm kk k x : Int32) : Int32 := if mm - nn = 0 then 0 else if k = 1 ∨ k = 4 then x / (mm - nn) + rlV nn mm kk kk 1 else x / (mm - nn)
set_option maxHeartbeats 4000000 in
theorem lzT_n (k : Int32) : (lzT k).length ≤ 3 := by
  unfold lzT
  split
  · exact by decide
  · split
    · exact by decide
    · split <;> exact by decide
set_option maxHeartbeats 4000000 in
theorem rlT_n (kk k : Int32) : (rlT kk k).length ≤ 6 := by
  have := lzT_n kk
  unfold rlT
  split
  · simp only [List.length_cons]; omega
  · split
    · simp only [List.length_cons]; omega
    · split <;> (simp only [List.length_cons]; omega)
set_option maxHeartbeats 4000000 in
theorem faT_n (kk k : Int32) : (faT kk k).length ≤ 8 := by
  have := rlT_n kk kk
  unfold faT
  split
  · simp only [List.length_cons]; omega
  · split <;> (simp only [List.length_cons]; omega)
set_option maxHeartbeats 4000000 in
theorem paT_n (nn mm kk k : Int32) : (paT nn mm kk k).length ≤ 8 := by
  have := rlT_n kk kk
  unfold paT
  split
  · split
    · exact by decide
    · simp only [List.length_cons]; omega
  · exact by decide
-- the trace of the class
def vTr (m : Mem) (T : List Int32) : Prop := m 21 1 = Int32.ofNat T.length ∧ ∀ j, j < T.length → m 22 j = T.getD j 0
def VC (kk nn mm : Int32) (m : Mem) : Prop := m 20 1 = kk ∧ m 20 2 = nn ∧ m 20 3 = mm ∧ m 20 4 = 0
set_option maxHeartbeats 4000000 in
theorem getD_app {T : List Int32} {v : Int32} {j : Nat} (h : j < T.length + 1) : (T ++ [v]).getD j 0 = if j = T.length then v else T.getD j 0 := by
  by_cases e : j = T.length
  · rw [if_pos e, e]; simp
  · rw [if_neg e]
    have : j < T.length := by omega
    simp [List.getD_eq_getElem?_getD, List.getElem?_append, this]
set_option maxHeartbeats 4000000 in
theorem vTr.add {m : Mem} {T : List Int32} {v : Int32} (h : vTr m T) (hn : T.length < 30) : vTr (up2 (upa m 22 (m 21 1) v) 21 1 (m 21 1 + 1)) (T ++ [v]) := by
  refine ⟨?_, fun j hj => ?_⟩
  · rw [up2_eq, if_pos rfl, h.1, o_1]; simp
  · have hj : j < T.length + 1 := by simpa using hj
    rw [up2_ne (by decide), upa_eq, h.1, wr_o (by omega), getD_app hj]
    show (if j = T.length then v else m 22 j) = _
    by_cases e : j = T.length
    · rw [if_pos e, if_pos e]
    · rw [if_neg e, if_neg e, h.2 j (by omega)]
def SayC (G : Gm) (t n i : Nat) (kk nn mm : Int32) (b a : Int32) (r D : Nat) (L : List Int32) (V : Int32 → Int32) : Prop := ∀ (e dp : Nat) (x : Int32) (m : Mem) (T : List Int32) (K : Option Value → Mem → Prop), r ≤ e → dp + D ≤ 12 → VC kk nn mm m → vTr m T → T.length + L.length ≤ 30 → (∀ m', Fr [21, 22] m m' → vTr m' (T ++ L) → K (some (.int (V x))) m') → Cal G mX4_say e [.ref 20, .int b, .int a, .int x, .int (Int32.ofNat dp)] SH (TA t n i) m K
def SpC (G : Gm) (t n i : Nat) (kk nn mm : Int32) (v k : Int32) (r D : Nat) (L : List Int32) (V : Int32 → Int32) : Prop := ∀ (e dp : Nat) (x : Int32) (m : Mem) (T : List Int32) (K : Option Value → Mem → Prop), r ≤ e → dp + D ≤ 12 → VC kk nn mm m → vTr m T → T.length + L.length ≤ 30 → (∀ m', Fr [21, 22] m m' → vTr m' (T ++ L) → K (some (.int (V x))) m') → Cal G mX4_speak e [.ref 20, .int k, .int v, .int x, .int (Int32.ofNat dp)] SH (TA t n i) m K
def SpW (G : Gm) (t n i : Nat) (kk nn mm : Int32) (v k : Int32) (c r D : Nat) (L : List Int32) (V : Int32 → Int32) : Prop := ∀ (e dp j : Nat) (x : Int32) (m : Mem) (T : List Int32) (K : Option Value → Mem → Prop), r ≤ e + 1 → dp + D ≤ 12 → j + c ≤ 7 → VC kk nn mm m → vTr m T → T.length + L.length ≤ 30 → (∀ m', Fr [21, 22] m m' → vTr m' (T ++ L) → K (some (.int (V x))) m') → WP G (rmD (e + 1) 0 0) mX4_speak (QC G SH (TA t n i) K) 0 0 6 [(0, .ref 20), (2, .int v), (3, .int x), (4, .int (Int32.ofNat dp)), (5, .int k), (6, .int (Int32.ofNat j))] [] (SH, TA t n i, m)
section
variable {G : Gm} {t n i : Nat} {kk nn mm : Int32}
set_option maxHeartbeats 4000000 in
theorem VC.fr {m m' : Mem} (h : VC kk nn mm m) (hf : Fr [21, 22] m m') : VC kk nn mm m' := by
  unfold VC at h ⊢
  rw [hf 20 (by decide)]
  exact h
set_option maxHeartbeats 4000000 in
theorem SpW.c {v k : Int32} {c r D : Nat} {L : List Int32} {V : Int32 → Int32} (h : SpW G t n i kk nn mm v k c r D L V) (hc : c ≤ 7) (hG : fl G = false) (hr : 1 ≤ r) : SpC G t n i kk nn mm v k r D L V := by
  intro e dp x m T K he hd hv ht hl kx
  obtain ⟨e, rfl⟩ : ∃ q, e = q + 1 := ⟨e - 1, by omega⟩
  exact Cal.of (by decide +kernel) rfl (Nat.le_of_ble_eq_true rfl) (rg_X4_speak_0 hG 20 k v x _ (h e dp 0 x m T K he hd (by omega) hv ht hl kx))
set_option maxHeartbeats 4000000 in
theorem c_X4_bodyOf {sh : List Shp} {ta : Nat → Nat → Option Nat} {m : Mem} {K : Option Value → Mem → Prop} {d : Nat} (hG : fl G = false) (hd : 1 ≤ d) {o v : Int32} {j : Nat} (h : 4 * o + v = Int32.ofNat j) (hj : j < 28) (k : K (some (.int (bodiesT j))) m) : Cal G mX4_bodyOf d [.int o, .int v] sh ta m K := by
  obtain ⟨d, rfl⟩ : ∃ e, d = e + 1 := ⟨d - 1, by omega⟩
  refine Cal.of (by decide +kernel) rfl (Nat.le_of_ble_eq_true rfl) (rg_X4_bodyOf_0 hG o v ?_)
  rw [h, tn_o (by omega)]
  exact ⟨fun c => absurd c (Int32.not_lt.mpr (o_0 j (by omega))), fun _ => ⟨fun c => absurd ((o_le (a := 28) (by decide) (by omega)).mp c) (by omega), fun _ => ⟨ib_o hj (by decide), k⟩⟩⟩
set_option maxHeartbeats 4000000 in
theorem SpW.own {v o b a : Int32} {jo r D : Nat} {L : List Int32} {V : Int32 → Int32} (hG : fl G = false) (hj : 4 * o + v = Int32.ofNat jo) (hj2 : jo < 28) (eb : bodiesT jo = b) (ea : (if 0 ≤ o ∧ o < 7 then aboveT o.toNatClampNeg else -1) = a) (ho : o ≤ 0 ∨ (¬ o ≤ 0 ∧ ¬ b = 0)) (hS : SayC G t n i kk nn mm b a r D L V) (hr : 1 ≤ r) : SpW G t n i kk nn mm v o 1 (r + 1) (D + 1) (b :: L) V := by
  intro e dp j x m T K he hd hjc hv ht hl kx
  have hl2 : T.length + (L.length + 1) ≤ 30 := by simpa using hl
  have main : Cal G mX4_bodyOf e [.int o, .int v] SH (TA t n i) m (fun v5 m6 => ∃ r7, v5 = some (.int r7) ∧ ∃ i9, TA t n i 20 0 = some i9 ∧ SH[i9]? = some (.inl 2) ∧ Cal G mX2_add e [.ref i9, .int r7] SH (TA t n i) m6 (fun v11 m12 => v11 = none ∧ Cal G mX5_kindAbove e [.int o] SH (TA t n i) m12 (fun v16 m17 => ∃ r18, v16 = some (.int r18) ∧ Cal G mX4_say e [.ref 20, .int r7, .int r18, .int x, .int (Int32.ofNat dp + 1)] SH (TA t n i) m17 (fun v20 m21 => ∃ r22, v20 = some (.int r22) ∧ K (some (.int r22)) m21)))) := by
    refine c_X4_bodyOf hG (by omega) hj hj2 ⟨_, rfl, 21, rfl, rfl, c_X2_add hG (by omega) rfl rfl rfl (by decide) (by rw [ht.1]; exact o_0 _ (by omega)) ⟨rfl, c_X5_kindAbove hG (by omega) ⟨_, rfl, ?_⟩⟩⟩
    rw [ea, eb, o_1, if_pos (show m 21 1 < Int32.ofNat 30 by rw [ht.1]; exact (o_lt (by omega) (by decide)).mpr (by omega))]
    have hf : Fr [21, 22] m (up2 (upa m (21 + 1) (m 21 1) b) 21 1 (m 21 1 + 1)) := (Fr.ua (by decide)).tr (Fr.u2 (by decide))
    refine hS e (dp + 1) x _ (T ++ [b]) _ (by omega) (by omega) (hv.fr hf) (ht.add (by omega)) (by simp; omega) (fun m' hf' hr' => ⟨_, rfl, kx m' (hf.tr hf') (by rw [List.append_assoc] at hr'; exact hr')⟩)
  have h4 : m 20 4 = 0 := hv.2.2.2
  have hdp : Int32.ofNat dp ≤ 12 := (o_le (b := 12) (by omega) (by decide)).mpr (by omega)
  have h7 : ¬ 7 ≤ Int32.ofNat j := fun c => by have := (o_le (a := 7) (by decide) (by omega)).mp c; omega
  refine rg_X4_speak_6 hG 20 v x _ o _ ⟨fun c => absurd c h7, fun _ => ⟨fun _ => ⟨rfl, fun c => absurd h4 c, fun _ => ⟨fun _ => main, fun c => absurd hdp c⟩⟩, fun c => ?_⟩⟩
  refine c_X4_bodyOf hG (by omega) hj hj2 ⟨_, rfl, fun _ => ⟨rfl, fun c => absurd h4 c, fun _ => ⟨fun _ => main, fun c => absurd hdp c⟩⟩, fun c2 => ?_⟩
  rw [eb] at c2
  rcases ho with h | h
  · exact absurd h c
  · exact absurd c2 h.2
set_option maxHeartbeats 4000000 in
theorem SpW.up {v k k2 : Int32} {jo c r D : Nat} {L : List Int32} {V : Int32 → Int32} (hG : fl G = false) (hj : 4 * k + v = Int32.ofNat jo) (hj2 : jo < 28) (eb : bodiesT jo = 0) (ea : (if 0 ≤ k ∧ k < 7 then aboveT k.toNatClampNeg else -1) = k2) (hk : ¬ k ≤ 0) (hr : 2 ≤ r) (h : SpW G t n i kk nn mm v k2 c r D L V) : SpW G t n i kk nn mm v k (c + 1) r D L V := by
  intro e dp j x m T K he hd hjc hv ht hl kx
  have h7 : ¬ 7 ≤ Int32.ofNat j := fun c => by have := (o_le (a := 7) (by decide) (by omega)).mp c; omega
  refine rg_X4_speak_6 hG 20 v x _ k _ ⟨fun c => absurd c h7, fun _ => ⟨fun c => absurd c hk, fun _ => c_X4_bodyOf hG (by omega) hj hj2 ⟨_, rfl, fun c2 => absurd eb c2, fun _ => c_X5_kindAbove hG (by omega) ⟨_, rfl, ?_⟩⟩⟩⟩
  rw [ea, o_1]
  exact h e dp (j + 1) x m T K he hd (by omega) hv ht hl kx
set_option maxHeartbeats 4000000 in
theorem say_10 (hG : fl G = false) : SayC G t n i kk nn mm 10 (-1) 1 0 [] (fun x => x + nn) := by
  intro e dp x m T K he hd hv ht hl kx
  obtain ⟨e, rfl⟩ : ∃ q, e = q + 1 := ⟨e - 1, by omega⟩
  exact Cal.of (by decide +kernel) rfl (Nat.le_of_ble_eq_true rfl) (rg_X4_say_0 hG 20 10 (-1) x _ ⟨fun _ => ⟨rfl, by rw [hv.2.1]; exact kx m Fr.rf (by rw [List.append_nil]; exact ht)⟩, fun q => absurd q (by decide), fun q => absurd q (by decide), fun q => absurd q (by decide), fun q => absurd q (by decide), fun q => absurd q (by decide), fun q => absurd q (by decide), fun q => absurd q (by decide), fun q => absurd q (by decide), fun q => absurd q (by decide), fun q => absurd q (by decide), fun q => absurd q (by decide), fun q => absurd q (by decide), fun q0 q1 q2 q3 q4 q5 q6 q7 q8 q9 q10 q11 q12 => absurd rfl q0⟩)
set_option maxHeartbeats 4000000 in
theorem say_70 (hG : fl G = false) : SayC G t n i kk nn mm 70 0 1 0 [] (fun _ => 4) := by
  intro e dp x m T K he hd hv ht hl kx
  obtain ⟨e, rfl⟩ : ∃ q, e = q + 1 := ⟨e - 1, by omega⟩
  exact Cal.of (by decide +kernel) rfl (Nat.le_of_ble_eq_true rfl) (rg_X4_say_0 hG 20 70 0 x _ ⟨fun q => absurd q (by decide), fun q => absurd q (by decide), fun q => absurd q (by decide), fun q => absurd q (by decide), fun q => absurd q (by decide), fun q => absurd q (by decide), fun q => absurd q (by decide), fun q => absurd q (by decide), fun q => absurd q (by decide), fun q => absurd q (by decide), fun q => absurd q (by decide), fun _ => kx m Fr.rf (by rw [List.append_nil]; exact ht), fun q => absurd q (by decide), fun q0 q1 q2 q3 q4 q5 q6 q7 q8 q9 q10 q11 q12 => absurd rfl q11⟩)
set_option maxHeartbeats 4000000 in
theorem say_11 (hG : fl G = false) {L : List Int32} {W : Int32 → Int32} {r D : Nat} (hS : SpC G t n i kk nn mm 0 kk r D L W) : SayC G t n i kk nn mm 11 (-1) (r + 1) D L (fun x => W x * 2) := by
  intro e dp x m T K he hd hv ht hl kx
  obtain ⟨e, rfl⟩ : ∃ q, e = q + 1 := ⟨e - 1, by omega⟩
  have hk : m 20 1 = kk := hv.1
  refine Cal.of (by decide +kernel) rfl (Nat.le_of_ble_eq_true rfl) (rg_X4_say_0 hG 20 11 (-1) x _ ?_)
  rw [hk]
  exact ⟨fun q => absurd q (by decide), fun _ => ⟨rfl, hS e dp x m T _ (by omega) (by omega) hv ht hl (fun m1 h1 r1 => ⟨_, rfl, kx m1 h1 r1⟩)⟩, fun q => absurd q (by decide), fun q => absurd q (by decide), fun q => absurd q (by decide), fun q => absurd q (by decide), fun q => absurd q (by decide), fun q => absurd q (by decide), fun q => absurd q (by decide), fun q => absurd q (by decide), fun q => absurd q (by decide), fun q => absurd q (by decide), fun q => absurd q (by decide), fun q0 q1 q2 q3 q4 q5 q6 q7 q8 q9 q10 q11 q12 => absurd rfl q1⟩
set_option maxHeartbeats 4000000 in
theorem say_12 (hG : fl G = false) {L : List Int32} {W : Int32 → Int32} {r D : Nat} (hS : SpC G t n i kk nn mm 1 kk r D L W) : SayC G t n i kk nn mm 12 (-1) (r + 1) D L (fun x => W x - mm) := by
  intro e dp x m T K he hd hv ht hl kx
  obtain ⟨e, rfl⟩ : ∃ q, e = q + 1 := ⟨e - 1, by omega⟩
  have hk : m 20 1 = kk := hv.1
  refine Cal.of (by decide +kernel) rfl (Nat.le_of_ble_eq_true rfl) (rg_X4_say_0 hG 20 12 (-1) x _ ?_)
  rw [hk]
  exact ⟨fun q => absurd q (by decide), fun q => absurd q (by decide), fun _ => ⟨rfl, hS e dp x m T _ (by omega) (by omega) hv ht hl (fun m1 h1 r1 => ⟨_, rfl, by rw [(hv.fr h1).2.2.1]; exact kx m1 h1 r1⟩)⟩, fun q => absurd q (by decide), fun q => absurd q (by decide), fun q => absurd q (by decide), fun q => absurd q (by decide), fun q => absurd q (by decide), fun q => absurd q (by decide), fun q => absurd q (by decide), fun q => absurd q (by decide), fun q => absurd q (by decide), fun q => absurd q (by decide), fun q0 q1 q2 q3 q4 q5 q6 q7 q8 q9 q10 q11 q12 => absurd rfl q2⟩
set_option maxHeartbeats 4000000 in
theorem say_20 (hG : fl G = false) {L : List Int32} {W : Int32 → Int32} {r D : Nat} (hS : SpC G t n i kk nn mm 0 0 r D L W) : SayC G t n i kk nn mm 20 0 (r + 1) D L (fun x => W x - 3) := by
  intro e dp x m T K he hd hv ht hl kx
  obtain ⟨e, rfl⟩ : ∃ q, e = q + 1 := ⟨e - 1, by omega⟩
  refine Cal.of (by decide +kernel) rfl (Nat.le_of_ble_eq_true rfl) (rg_X4_say_0 hG 20 20 0 x _ ?_)
  exact ⟨fun q => absurd q (by decide), fun q => absurd q (by decide), fun q => absurd q (by decide), fun q => absurd q (by decide), fun _ => ⟨rfl, hS e dp x m T _ (by omega) (by omega) hv ht hl (fun m1 h1 r1 => ⟨_, rfl, kx m1 h1 r1⟩)⟩, fun q => absurd q (by decide), fun q => absurd q (by decide), fun q => absurd q (by decide), fun q => absurd q (by decide), fun q => absurd q (by decide), fun q => absurd q (by decide), fun q => absurd q (by decide), fun q => absurd q (by decide), fun q0 q1 q2 q3 q4 q5 q6 q7 q8 q9 q10 q11 q12 => absurd rfl q4⟩
set_option maxHeartbeats 4000000 in
theorem say_30 (hG : fl G = false) {L : List Int32} {W : Int32 → Int32} {r D : Nat} (hS : SpC G t n i kk nn mm 1 0 r D L W) : SayC G t n i kk nn mm 30 0 (r + 1) D L (fun x => 0 - W x) := by
  intro e dp x m T K he hd hv ht hl kx
  obtain ⟨e, rfl⟩ : ∃ q, e = q + 1 := ⟨e - 1, by omega⟩
  refine Cal.of (by decide +kernel) rfl (Nat.le_of_ble_eq_true rfl) (rg_X4_say_0 hG 20 30 0 x _ ?_)
  exact ⟨fun q => absurd q (by decide), fun q => absurd q (by decide), fun q => absurd q (by decide), fun q => absurd q (by decide), fun q => absurd q (by decide), fun q => absurd q (by decide), fun _ => ⟨rfl, hS e dp x m T _ (by omega) (by omega) hv ht hl (fun m1 h1 r1 => ⟨_, rfl, kx m1 h1 r1⟩)⟩, fun q => absurd q (by decide), fun q => absurd q (by decide), fun q => absurd q (by decide), fun q => absurd q (by decide), fun q => absurd q (by decide), fun q => absurd q (by decide), fun q0 q1 q2 q3 q4 q5 q6 q7 q8 q9 q10 q11 q12 => absurd rfl q6⟩
set_option maxHeartbeats 4000000 in
theorem say_40 (hG : fl G = false) {L : List Int32} {W : Int32 → Int32} {r D : Nat} (hS : SpC G t n i kk nn mm 2 0 r D L W) : SayC G t n i kk nn mm 40 0 (r + 1) D L (fun x => W (x / 2)) := by
  intro e dp x m T K he hd hv ht hl kx
  obtain ⟨e, rfl⟩ : ∃ q, e = q + 1 := ⟨e - 1, by omega⟩
  refine Cal.of (by decide +kernel) rfl (Nat.le_of_ble_eq_true rfl) (rg_X4_say_0 hG 20 40 0 x _ ?_)
  exact ⟨fun q => absurd q (by decide), fun q => absurd q (by decide), fun q => absurd q (by decide), fun q => absurd q (by decide), fun q => absurd q (by decide), fun q => absurd q (by decide), fun q => absurd q (by decide), fun _ => ⟨by decide, rfl, hS e dp (x / 2) m T _ (by omega) (by omega) hv ht hl (fun m1 h1 r1 => ⟨_, rfl, kx m1 h1 r1⟩)⟩, fun q => absurd q (by decide), fun q => absurd q (by decide), fun q => absurd q (by decide), fun q => absurd q (by decide), fun q => absurd q (by decide), fun q0 q1 q2 q3 q4 q5 q6 q7 q8 q9 q10 q11 q12 => absurd rfl q7⟩
set_option maxHeartbeats 4000000 in
theorem say_50 (hG : fl G = false) {L : List Int32} {W : Int32 → Int32} {r D : Nat} (hS : SpC G t n i kk nn mm 0 1 r D L W) : SayC G t n i kk nn mm 50 1 (r + 1) D L (fun x => W x * 3) := by
  intro e dp x m T K he hd hv ht hl kx
  obtain ⟨e, rfl⟩ : ∃ q, e = q + 1 := ⟨e - 1, by omega⟩
  refine Cal.of (by decide +kernel) rfl (Nat.le_of_ble_eq_true rfl) (rg_X4_say_0 hG 20 50 1 x _ ?_)
  exact ⟨fun q => absurd q (by decide), fun q => absurd q (by decide), fun q => absurd q (by decide), fun q => absurd q (by decide), fun q => absurd q (by decide), fun q => absurd q (by decide), fun q => absurd q (by decide), fun q => absurd q (by decide), fun _ => ⟨rfl, hS e dp x m T _ (by omega) (by omega) hv ht hl (fun m1 h1 r1 => ⟨_, rfl, kx m1 h1 r1⟩)⟩, fun q => absurd q (by decide), fun q => absurd q (by decide), fun q => absurd q (by decide), fun q => absurd q (by decide), fun q0 q1 q2 q3 q4 q5 q6 q7 q8 q9 q10 q11 q12 => absurd rfl q8⟩
set_option maxHeartbeats 4000000 in
theorem say_51 (hG : fl G = false) {L : List Int32} {W : Int32 → Int32} {r D : Nat} (hS : SpC G t n i kk nn mm 2 1 r D L W) : SayC G t n i kk nn mm 51 1 (r + 1) D L (fun x => W x ^^^ nn) := by
  intro e dp x m T K he hd hv ht hl kx
  obtain ⟨e, rfl⟩ : ∃ q, e = q + 1 := ⟨e - 1, by omega⟩
  refine Cal.of (by decide +kernel) rfl (Nat.le_of_ble_eq_true rfl) (rg_X4_say_0 hG 20 51 1 x _ ?_)
  exact ⟨fun q => absurd q (by decide), fun q => absurd q (by decide), fun q => absurd q (by decide), fun q => absurd q (by decide), fun q => absurd q (by decide), fun q => absurd q (by decide), fun q => absurd q (by decide), fun q => absurd q (by decide), fun q => absurd q (by decide), fun _ => ⟨rfl, hS e dp x m T _ (by omega) (by omega) hv ht hl (fun m1 h1 r1 => ⟨_, rfl, by rw [(hv.fr h1).2.1]; exact kx m1 h1 r1⟩)⟩, fun q => absurd q (by decide), fun q => absurd q (by decide), fun q => absurd q (by decide), fun q0 q1 q2 q3 q4 q5 q6 q7 q8 q9 q10 q11 q12 => absurd rfl q9⟩
set_option maxHeartbeats 4000000 in
theorem say_60 (hG : fl G = false) {L : List Int32} {W : Int32 → Int32} {r D : Nat} (hS : SpC G t n i kk nn mm 1 2 r D L W) : SayC G t n i kk nn mm 60 2 (r + 1) D L (fun x => W (x + 1)) := by
  intro e dp x m T K he hd hv ht hl kx
  obtain ⟨e, rfl⟩ : ∃ q, e = q + 1 := ⟨e - 1, by omega⟩
  refine Cal.of (by decide +kernel) rfl (Nat.le_of_ble_eq_true rfl) (rg_X4_say_0 hG 20 60 2 x _ ?_)
  exact ⟨fun q => absurd q (by decide), fun q => absurd q (by decide), fun q => absurd q (by decide), fun q => absurd q (by decide), fun q => absurd q (by decide), fun q => absurd q (by decide), fun q => absurd q (by decide), fun q => absurd q (by decide), fun q => absurd q (by decide), fun q => absurd q (by decide), fun _ => ⟨rfl, hS e dp (x + 1) m T _ (by omega) (by omega) hv ht hl (fun m1 h1 r1 => ⟨_, rfl, kx m1 h1 r1⟩)⟩, fun q => absurd q (by decide), fun q => absurd q (by decide), fun q0 q1 q2 q3 q4 q5 q6 q7 q8 q9 q10 q11 q12 => absurd rfl q10⟩
set_option maxHeartbeats 4000000 in
theorem say_71 (hG : fl G = false) {L : List Int32} {W : Int32 → Int32} {r D : Nat} (hS : SpC G t n i kk nn mm 1 0 r D L W) : SayC G t n i kk nn mm 71 0 (r + 1) D L (fun x => W x + mm) := by
  intro e dp x m T K he hd hv ht hl kx
  obtain ⟨e, rfl⟩ : ∃ q, e = q + 1 := ⟨e - 1, by omega⟩
  refine Cal.of (by decide +kernel) rfl (Nat.le_of_ble_eq_true rfl) (rg_X4_say_0 hG 20 71 0 x _ ?_)
  exact ⟨fun q => absurd q (by decide), fun q => absurd q (by decide), fun q => absurd q (by decide), fun q => absurd q (by decide), fun q => absurd q (by decide), fun q => absurd q (by decide), fun q => absurd q (by decide), fun q => absurd q (by decide), fun q => absurd q (by decide), fun q => absurd q (by decide), fun q => absurd q (by decide), fun q => absurd q (by decide), fun _ => ⟨rfl, hS e dp x m T _ (by omega) (by omega) hv ht hl (fun m1 h1 r1 => ⟨_, rfl, by rw [(hv.fr h1).2.2.1]; exact kx m1 h1 r1⟩)⟩, fun q0 q1 q2 q3 q4 q5 q6 q7 q8 q9 q10 q11 q12 => absurd rfl q12⟩
set_option maxHeartbeats 4000000 in
theorem dz {f : Int32 → Int32} {g : Int32 → Int32} (h : ∀ x, f x = g x) : f = g := funext h
set_option maxHeartbeats 4000000 in
theorem w00 (hG : fl G = false) : SpW G t n i kk nn mm 0 0 1 2 1 [10] (fun x => x + nn) := SpW.own hG (jo := 0) (by decide) (by decide) (by decide) (by decide) (Or.inl (by decide)) (say_10 hG) (by decide)
set_option maxHeartbeats 4000000 in
theorem w02 (hG : fl G = false) : SpW G t n i kk nn mm 0 2 2 2 1 [10] (fun x => x + nn) := SpW.up hG (jo := 8) (by decide) (by decide) (by decide) (by decide) (by decide) (by decide) (w00 hG)
set_option maxHeartbeats 4000000 in
theorem w03 (hG : fl G = false) : SpW G t n i kk nn mm 0 3 2 2 1 [10] (fun x => x + nn) := SpW.up hG (jo := 12) (by decide) (by decide) (by decide) (by decide) (by decide) (by decide) (w00 hG)
set_option maxHeartbeats 4000000 in
theorem w05 (hG : fl G = false) : SpW G t n i kk nn mm 0 5 3 2 1 [10] (fun x => x + nn) := SpW.up hG (jo := 20) (by decide) (by decide) (by decide) (by decide) (by decide) (by decide) (w02 hG)
set_option maxHeartbeats 4000000 in
theorem w01 (hG : fl G = false) : SpW G t n i kk nn mm 0 1 1 4 2 [20, 10] (fun x => x + nn - 3) := SpW.own hG (jo := 4) (by decide) (by decide) (by decide) (by decide) (Or.inr (by decide)) (say_20 hG ((w00 hG).c (by decide) hG (by decide))) (by decide)
set_option maxHeartbeats 4000000 in
theorem w04 (hG : fl G = false) : SpW G t n i kk nn mm 0 4 1 6 3 [50, 20, 10] (fun x => (x + nn - 3) * 3) := SpW.own hG (jo := 16) (by decide) (by decide) (by decide) (by decide) (Or.inr (by decide)) (say_50 hG ((w01 hG).c (by decide) hG (by decide))) (by decide)
set_option maxHeartbeats 4000000 in
theorem w06 (hG : fl G = false) : SpW G t n i kk nn mm 0 6 1 2 1 [70] (fun _ => 4) := SpW.own hG (jo := 24) (by decide) (by decide) (by decide) (by decide) (Or.inr (by decide)) (say_70 hG) (by decide)
set_option maxHeartbeats 4000000 in
theorem SpC.mo {v k : Int32} {r D r2 D2 : Nat} {L L2 : List Int32} {V V2 : Int32 → Int32} (h : SpC G t n i kk nn mm v k r D L V) (hr : r ≤ r2) (hD : D ≤ D2) (eL : L = L2) (eV : ∀ x, V x = V2 x) : SpC G t n i kk nn mm v k r2 D2 L2 V2 := by
  subst eL
  have : V = V2 := funext eV
  subst this
  intro e dp x m T K he hd hv ht hl kx
  exact h e dp x m T K (by omega) (by omega) hv ht hl kx
set_option maxHeartbeats 4000000 in
theorem r06 {y : Int32} (h : 0 ≤ y ∧ y ≤ 6) : y = 0 ∨ y = 1 ∨ y = 2 ∨ y = 3 ∨ y = 4 ∨ y = 5 ∨ y = 6 := by
  rcases r07 h.1 (Int32.le_trans h.2 (by decide)) with e | e | e | e | e | e | e | e
  · exact Or.inl e
  · exact Or.inr (Or.inl e)
  · exact Or.inr (Or.inr (Or.inl e))
  · exact Or.inr (Or.inr (Or.inr (Or.inl e)))
  · exact Or.inr (Or.inr (Or.inr (Or.inr (Or.inl e))))
  · exact Or.inr (Or.inr (Or.inr (Or.inr (Or.inr (Or.inl e)))))
  · exact Or.inr (Or.inr (Or.inr (Or.inr (Or.inr (Or.inr e)))))
  · rw [e] at h; exact absurd h.2 (by decide)
set_option maxHeartbeats 4000000 in
theorem spLies (hG : fl G = false) {k : Int32} (hk : 0 ≤ k ∧ k ≤ 6) : SpC G t n i kk nn mm 0 k 6 3 (lzT k) (lzV nn k) := by
  rcases r06 hk with rfl | rfl | rfl | rfl | rfl | rfl | rfl
  · exact ((w00 hG).c (by decide) hG (by decide)).mo (by decide) (by decide) rfl (fun _ => rfl)
  · exact ((w01 hG).c (by decide) hG (by decide)).mo (by decide) (by decide) rfl (fun _ => rfl)
  · exact ((w02 hG).c (by decide) hG (by decide)).mo (by decide) (by decide) rfl (fun _ => rfl)
  · exact ((w03 hG).c (by decide) hG (by decide)).mo (by decide) (by decide) rfl (fun _ => rfl)
  · exact ((w04 hG).c (by decide) hG (by decide)).mo (by decide) (by decide) rfl (fun _ => rfl)
  · exact ((w05 hG).c (by decide) hG (by decide)).mo (by decide) (by decide) rfl (fun _ => rfl)
  · exact ((w06 hG).c (by decide) hG (by decide)).mo (by decide) (by decide) rfl (fun _ => rfl)
set_option maxHeartbeats 4000000 in
theorem w10 (hG : fl G = false) (hk : 0 ≤ kk ∧ kk ≤ 6) : SpW G t n i kk nn mm 1 0 1 8 4 (11 :: lzT kk) (fun x => lzV nn kk x * 2) := SpW.own hG (jo := 1) (by decide) (by decide) (by decide) (by decide) (Or.inl (by decide)) (say_11 hG (spLies hG hk)) (by decide)
set_option maxHeartbeats 4000000 in
theorem w11 (hG : fl G = false) (hk : 0 ≤ kk ∧ kk ≤ 6) : SpW G t n i kk nn mm 1 1 2 8 4 (11 :: lzT kk) (fun x => lzV nn kk x * 2) := SpW.up hG (jo := 5) (by decide) (by decide) (by decide) (by decide) (by decide) (by decide) (w10 hG hk)
set_option maxHeartbeats 4000000 in
theorem w13 (hG : fl G = false) (hk : 0 ≤ kk ∧ kk ≤ 6) : SpW G t n i kk nn mm 1 3 2 8 4 (11 :: lzT kk) (fun x => lzV nn kk x * 2) := SpW.up hG (jo := 13) (by decide) (by decide) (by decide) (by decide) (by decide) (by decide) (w10 hG hk)
set_option maxHeartbeats 4000000 in
theorem w14 (hG : fl G = false) (hk : 0 ≤ kk ∧ kk ≤ 6) : SpW G t n i kk nn mm 1 4 3 8 4 (11 :: lzT kk) (fun x => lzV nn kk x * 2) := SpW.up hG (jo := 17) (by decide) (by decide) (by decide) (by decide) (by decide) (by decide) (w11 hG hk)
set_option maxHeartbeats 4000000 in
theorem w12 (hG : fl G = false) (hk : 0 ≤ kk ∧ kk ≤ 6) : SpW G t n i kk nn mm 1 2 1 10 5 (30 :: 11 :: lzT kk) (fun x => 0 - lzV nn kk x * 2) := SpW.own hG (jo := 9) (by decide) (by decide) (by decide) (by decide) (Or.inr (by decide)) (say_30 hG ((w10 hG hk).c (by decide) hG (by decide))) (by decide)
set_option maxHeartbeats 4000000 in
theorem w15 (hG : fl G = false) (hk : 0 ≤ kk ∧ kk ≤ 6) : SpW G t n i kk nn mm 1 5 1 12 6 (60 :: 30 :: 11 :: lzT kk) (fun x => 0 - lzV nn kk (x + 1) * 2) := SpW.own hG (jo := 21) (by decide) (by decide) (by decide) (by decide) (Or.inr (by decide)) (say_60 hG ((w12 hG hk).c (by decide) hG (by decide))) (by decide)
set_option maxHeartbeats 4000000 in
theorem w16 (hG : fl G = false) (hk : 0 ≤ kk ∧ kk ≤ 6) : SpW G t n i kk nn mm 1 6 1 10 5 (71 :: 11 :: lzT kk) (fun x => lzV nn kk x * 2 + mm) := SpW.own hG (jo := 25) (by decide) (by decide) (by decide) (by decide) (Or.inr (by decide)) (say_71 hG ((w10 hG hk).c (by decide) hG (by decide))) (by decide)
set_option maxHeartbeats 4000000 in
theorem spRolls (hG : fl G = false) (hkk : 0 ≤ kk ∧ kk ≤ 6) {k : Int32} (hk : 0 ≤ k ∧ k ≤ 6) : SpC G t n i kk nn mm 1 k 12 6 (rlT kk k) (rlV nn mm kk k) := by
  rcases r06 hk with rfl | rfl | rfl | rfl | rfl | rfl | rfl
  · exact ((w10 hG hkk).c (by decide) hG (by decide)).mo (by decide) (by decide) rfl (fun _ => rfl)
  · exact ((w11 hG hkk).c (by decide) hG (by decide)).mo (by decide) (by decide) rfl (fun _ => rfl)
  · exact ((w12 hG hkk).c (by decide) hG (by decide)).mo (by decide) (by decide) rfl (fun _ => rfl)
  · exact ((w13 hG hkk).c (by decide) hG (by decide)).mo (by decide) (by decide) rfl (fun _ => rfl)
  · exact ((w14 hG hkk).c (by decide) hG (by decide)).mo (by decide) (by decide) rfl (fun _ => rfl)
  · exact ((w15 hG hkk).c (by decide) hG (by decide)).mo (by decide) (by decide) rfl (fun _ => rfl)
  · exact ((w16 hG hkk).c (by decide) hG (by decide)).mo (by decide) (by decide) rfl (fun _ => rfl)
set_option maxHeartbeats 4000000 in
theorem w20 (hG : fl G = false) (hk : 0 ≤ kk ∧ kk ≤ 6) : SpW G t n i kk nn mm 2 0 1 14 7 (12 :: rlT kk kk) (fun x => rlV nn mm kk kk x - mm) := SpW.own hG (jo := 2) (by decide) (by decide) (by decide) (by decide) (Or.inl (by decide)) (say_12 hG (spRolls hG hk hk)) (by decide)
set_option maxHeartbeats 4000000 in
theorem w21 (hG : fl G = false) (hk : 0 ≤ kk ∧ kk ≤ 6) : SpW G t n i kk nn mm 2 1 2 14 7 (12 :: rlT kk kk) (fun x => rlV nn mm kk kk x - mm) := SpW.up hG (jo := 6) (by decide) (by decide) (by decide) (by decide) (by decide) (by decide) (w20 hG hk)
set_option maxHeartbeats 4000000 in
theorem w22 (hG : fl G = false) (hk : 0 ≤ kk ∧ kk ≤ 6) : SpW G t n i kk nn mm 2 2 2 14 7 (12 :: rlT kk kk) (fun x => rlV nn mm kk kk x - mm) := SpW.up hG (jo := 10) (by decide) (by decide) (by decide) (by decide) (by decide) (by decide) (w20 hG hk)
set_option maxHeartbeats 4000000 in
theorem w25 (hG : fl G = false) (hk : 0 ≤ kk ∧ kk ≤ 6) : SpW G t n i kk nn mm 2 5 3 14 7 (12 :: rlT kk kk) (fun x => rlV nn mm kk kk x - mm) := SpW.up hG (jo := 22) (by decide) (by decide) (by decide) (by decide) (by decide) (by decide) (w22 hG hk)
set_option maxHeartbeats 4000000 in
theorem w26 (hG : fl G = false) (hk : 0 ≤ kk ∧ kk ≤ 6) : SpW G t n i kk nn mm 2 6 2 14 7 (12 :: rlT kk kk) (fun x => rlV nn mm kk kk x - mm) := SpW.up hG (jo := 26) (by decide) (by decide) (by decide) (by decide) (by decide) (by decide) (w20 hG hk)
set_option maxHeartbeats 4000000 in
theorem w23 (hG : fl G = false) (hk : 0 ≤ kk ∧ kk ≤ 6) : SpW G t n i kk nn mm 2 3 1 16 8 (40 :: 12 :: rlT kk kk) (fun x => rlV nn mm kk kk (x / 2) - mm) := SpW.own hG (jo := 14) (by decide) (by decide) (by decide) (by decide) (Or.inr (by decide)) (say_40 hG ((w20 hG hk).c (by decide) hG (by decide))) (by decide)
set_option maxHeartbeats 4000000 in
theorem w24 (hG : fl G = false) (hk : 0 ≤ kk ∧ kk ≤ 6) : SpW G t n i kk nn mm 2 4 1 16 8 (51 :: 12 :: rlT kk kk) (fun x => (rlV nn mm kk kk x - mm) ^^^ nn) := SpW.own hG (jo := 18) (by decide) (by decide) (by decide) (by decide) (Or.inr (by decide)) (say_51 hG ((w21 hG hk).c (by decide) hG (by decide))) (by decide)
set_option maxHeartbeats 4000000 in
theorem spFalls (hG : fl G = false) (hkk : 0 ≤ kk ∧ kk ≤ 6) {k : Int32} (hk : 0 ≤ k ∧ k ≤ 6) : SpC G t n i kk nn mm 2 k 16 8 (faT kk k) (faV nn mm kk k) := by
  rcases r06 hk with rfl | rfl | rfl | rfl | rfl | rfl | rfl
  · exact ((w20 hG hkk).c (by decide) hG (by decide)).mo (by decide) (by decide) rfl (fun _ => rfl)
  · exact ((w21 hG hkk).c (by decide) hG (by decide)).mo (by decide) (by decide) rfl (fun _ => rfl)
  · exact ((w22 hG hkk).c (by decide) hG (by decide)).mo (by decide) (by decide) rfl (fun _ => rfl)
  · exact ((w23 hG hkk).c (by decide) hG (by decide)).mo (by decide) (by decide) rfl (fun _ => rfl)
  · exact ((w24 hG hkk).c (by decide) hG (by decide)).mo (by decide) (by decide) rfl (fun _ => rfl)
  · exact ((w25 hG hkk).c (by decide) hG (by decide)).mo (by decide) (by decide) rfl (fun _ => rfl)
  · exact ((w26 hG hkk).c (by decide) hG (by decide)).mo (by decide) (by decide) rfl (fun _ => rfl)
end

