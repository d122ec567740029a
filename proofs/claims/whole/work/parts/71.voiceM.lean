-- 71.voiceM
def mTr (m : Mem) (T : List Int32) : Prop := m 75 15 = Int32.ofNat T.length ∧ ∀ j, j < T.length → m 84 j = T.getD j 0
def MF (m m' : Mem) : Prop := Fr [75, 84] m m' ∧ ∀ j, j ≠ 15 → m' 75 j = m 75 j
set_option maxHeartbeats 4000000 in
theorem MF.rf {m : Mem} : MF m m := ⟨Fr.rf, fun _ _ => rfl⟩
set_option maxHeartbeats 4000000 in
theorem MF.tr {m m' m'' : Mem} (h : MF m m') (g : MF m' m'') : MF m m'' := ⟨h.1.tr g.1, fun j hj => (g.2 j hj).trans (h.2 j hj)⟩
def MC (nn : Int32) (f : Nat → Int32) (m : Mem) : Prop := m 75 16 = nn ∧ m 76 = f
set_option maxHeartbeats 4000000 in
theorem MC.fr {nn : Int32} {f : Nat → Int32} {m m' : Mem} (h : MC nn f m) (g : MF m m') : MC nn f m' := ⟨by rw [g.2 16 (by decide)]; exact h.1, by rw [g.1 76 (by decide)]; exact h.2⟩
set_option maxHeartbeats 4000000 in
theorem div_m1 (x : Int32) : x / (-1) = -x := by
  apply Int32.toInt_inj.mp
  rw [Int32.toInt_div, show (-1 : Int32).toInt = -1 from rfl, Int.tdiv_neg, Int.tdiv_one, Int32.toInt_neg]
section
variable {G : Gm} {t n i : Nat} {nn : Int32} {f : Nat → Int32} {m : Mem} {K : Option Value → Mem → Prop} {d : Nat} {x : Int32}
set_option maxHeartbeats 4000000 in
theorem c_X6_begins (hG : fl G = false) {T : List Int32} {b : Int32} (hd : 1 ≤ d) (ht : mTr m T) (hl : T.length < 30) (k : ∀ m', MF m m' → mTr m' (T ++ [b]) → K none m') : Cal G mX6_begins d [.ref 75, .int b] SH (TA t n i) m K := by
  obtain ⟨d, rfl⟩ : ∃ e, d = e + 1 := ⟨d - 1, by omega⟩
  refine Cal.of (by decide +kernel) rfl (Nat.le_of_ble_eq_true rfl) (rg_X6_begins_0 hG 75 b ⟨rfl, fun c => ?_, fun _ => ⟨84, rfl, 30, rfl, ?_, ?_⟩⟩)
  · rw [ht.1] at c
    have := (o_le (a := 30) (by decide) (by omega)).mp c
    omega
  · rw [ht.1]; exact ib_o hl (by decide)
  · rintro _ rfl _ rfl
    rw [upa_ne (show (75 : Nat) ≠ 84 by decide)]
    refine k _ ⟨(Fr.ua (by decide)).tr (Fr.u2 (by decide)), fun j hj => ?_⟩ ⟨?_, fun j hj => ?_⟩
    · rw [up2_eq, if_neg hj, upa_ne (by decide)]
    · rw [up2_eq, if_pos rfl, ht.1, o_1]; simp
    · have hj : j < T.length + 1 := by simpa using hj
      rw [up2_ne (by decide), upa_eq, ht.1, wr_o (by omega), getD_app hj]
      show (if j = T.length then b else m 84 j) = _
      by_cases e : j = T.length
      · rw [if_pos e, if_pos e]
      · rw [if_neg e, if_neg e, ht.2 j (by omega)]
set_option maxHeartbeats 4000000 in
theorem c_X6_above {sh : List Shp} {ta : Nat → Nat → Option Nat} (hG : fl G = false) (hd : 1 ≤ d) (k : K (some (.int (if x = 4 then 1 else if x = 5 then 2 else 0))) m) : Cal G mX6_above d [.int x] sh ta m K := by
  obtain ⟨d, rfl⟩ : ∃ e, d = e + 1 := ⟨d - 1, by omega⟩
  refine Cal.of (by decide +kernel) rfl (Nat.le_of_ble_eq_true rfl) (rg_X6_above_0 hG x ⟨fun c => ⟨fun c2 => ?_, fun c2 => ?_⟩, fun c => ?_⟩)
  · rw [if_neg c, if_neg c2] at k; exact k
  · rw [if_neg c, if_pos c2] at k; exact k
  · rw [if_pos c] at k; exact k
set_option maxHeartbeats 4000000 in
theorem c_X6_kindNow (hG : fl G = false) (hd : 2 ≤ d) (hn : 0 ≤ nn ∧ nn < 16) (hm : MC nn f m) (k : K (some (.int (its f nn 0))) m) : Cal G mX6_kindNow d [.ref 75] SH (TA t n i) m K := by
  obtain ⟨d, rfl⟩ : ∃ e, d = e + 1 := ⟨d - 1, by omega⟩
  refine Cal.of (by decide +kernel) rfl (Nat.le_of_ble_eq_true rfl) (rg_X6_kindNow_0 hG 75 ⟨rfl, ?_⟩)
  rw [hm.1]
  exact c_X6_its hG (by omega) hn (by decide) ⟨_, rfl, by rw [hm.2]; exact k⟩
set_option maxHeartbeats 4000000 in
theorem c_X6_mNow (hG : fl G = false) (hd : 2 ≤ d) (hn : 0 ≤ nn ∧ nn < 16) (hm : MC nn f m) (k : K (some (.int (its f nn 1))) m) : Cal G mX6_mNow d [.ref 75] SH (TA t n i) m K := by
  obtain ⟨d, rfl⟩ : ∃ e, d = e + 1 := ⟨d - 1, by omega⟩
  refine Cal.of (by decide +kernel) rfl (Nat.le_of_ble_eq_true rfl) (rg_X6_mNow_0 hG 75 ⟨rfl, ?_⟩)
  rw [hm.1]
  exact c_X6_its hG (by omega) hn (by decide) ⟨_, rfl, by rw [hm.2]; exact k⟩
end
def AsC (y : Mi) (G : Gm) (t n i : Nat) (nn : Int32) (f : Nat → Int32) (k : Int32) (r : Nat) (L : List Int32) (V : Int32 → Int32) : Prop := ∀ (e : Nat) (x : Int32) (m : Mem) (T : List Int32) (K : Option Value → Mem → Prop), r ≤ e → MC nn f m → mTr m T → T.length + L.length ≤ 30 → (∀ m', MF m m' → mTr m' (T ++ L) → K (some (.int (V x))) m') → Cal G y e [.ref 75, .int k, .int x] SH (TA t n i) m K
section
variable {G : Gm} {t n i : Nat} {nn : Int32} {f : Nat → Int32}
set_option maxHeartbeats 4000000 in
theorem AsC.mo {y : Mi} {k : Int32} {r r2 : Nat} {L L2 : List Int32} {V V2 : Int32 → Int32} (h : AsC y G t n i nn f k r L V) (hr : r ≤ r2) (eL : L = L2) (eV : ∀ x, V x = V2 x) : AsC y G t n i nn f k r2 L2 V2 := by
  subst eL
  have : V = V2 := funext eV
  subst this
  intro e x m T K he hv ht hl kx
  exact h e x m T K (by omega) hv ht hl kx
set_option maxHeartbeats 4000000 in
theorem as_l0 (hG : fl G = false) : AsC mX6_liesAs G t n i nn f 0 2 [10] (fun x => x + nn) := by
  intro e x m T K he hv ht hl kx
  obtain ⟨e, rfl⟩ : ∃ q, e = q + 1 := ⟨e - 1, by omega⟩
  have hl2 : T.length < 30 := by simp only [List.length_cons] at hl; omega
  refine Cal.of (by decide +kernel) rfl (Nat.le_of_ble_eq_true rfl) (rg_X6_liesAs_0 hG 75 0 x ⟨fun q => absurd q (by decide), fun _ => ⟨rfl, c_X6_begins hG (by omega) ht hl2 (fun m1 h1 r1 => ⟨rfl, ?_⟩)⟩, fun q => absurd q (by decide), fun q => absurd q (by decide), fun q => absurd q (by decide), fun q => absurd q (by decide), fun q => absurd q (by decide), fun q => absurd q (by decide)⟩)
  rw [(hv.fr h1).1]
  exact kx m1 h1 r1
set_option maxHeartbeats 4000000 in
theorem as_l6 (hG : fl G = false) : AsC mX6_liesAs G t n i nn f 6 2 [70] (fun _ => 4) := by
  intro e x m T K he hv ht hl kx
  obtain ⟨e, rfl⟩ : ∃ q, e = q + 1 := ⟨e - 1, by omega⟩
  have hl2 : T.length < 30 := by simp only [List.length_cons] at hl; omega
  refine Cal.of (by decide +kernel) rfl (Nat.le_of_ble_eq_true rfl) (rg_X6_liesAs_0 hG 75 6 x ⟨fun q => absurd q (by decide), fun q => absurd q (by decide), fun q => absurd q (by decide), fun q => absurd q (by decide), fun q => absurd q (by decide), fun q => absurd q (by decide), fun q => absurd q (by decide), fun _ => ⟨rfl, c_X6_begins hG (by omega) ht hl2 (fun m1 h1 r1 => ⟨rfl, ?_⟩)⟩⟩)
  exact kx m1 h1 r1
set_option maxHeartbeats 4000000 in
theorem as_l1 (hG : fl G = false) {r : Nat} {L : List Int32} {W : Int32 → Int32} (hr : 1 ≤ r) (hS : AsC mX6_liesAs G t n i nn f 0 r L W) : AsC mX6_liesAs G t n i nn f 1 (r + 1) (20 :: L) (fun x => W x - 3) := by
  intro e x m T K he hv ht hl kx
  obtain ⟨e, rfl⟩ : ∃ q, e = q + 1 := ⟨e - 1, by omega⟩
  have hl2 : T.length < 30 := by simp only [List.length_cons] at hl; omega
  refine Cal.of (by decide +kernel) rfl (Nat.le_of_ble_eq_true rfl) (rg_X6_liesAs_0 hG 75 1 x ⟨fun q => absurd q (by decide), fun q => absurd q (by decide), fun _ => ⟨rfl, c_X6_begins hG (by omega) ht hl2 (fun m1 h1 r1 => ⟨rfl, ?_⟩)⟩, fun q => absurd q (by decide), fun q => absurd q (by decide), fun q => absurd q (by decide), fun q => absurd q (by decide), fun q => absurd q (by decide)⟩)
  refine c_X6_above hG (by omega) ⟨_, rfl, ?_⟩
  have hl3 : T.length + (L.length + 1) ≤ 30 := by simpa using hl
  exact hS e x m1 (T ++ [20]) _ (by omega) (hv.fr h1) r1 (by simp; omega) (fun m2 h2 r2 => ⟨_, rfl, kx m2 (h1.tr h2) (by rw [List.append_assoc] at r2; exact r2)⟩)
set_option maxHeartbeats 4000000 in
theorem as_l4 (hG : fl G = false) {r : Nat} {L : List Int32} {W : Int32 → Int32} (hr : 1 ≤ r) (hS : AsC mX6_liesAs G t n i nn f 1 r L W) : AsC mX6_liesAs G t n i nn f 4 (r + 1) (50 :: L) (fun x => W x * 3) := by
  intro e x m T K he hv ht hl kx
  obtain ⟨e, rfl⟩ : ∃ q, e = q + 1 := ⟨e - 1, by omega⟩
  have hl2 : T.length < 30 := by simp only [List.length_cons] at hl; omega
  refine Cal.of (by decide +kernel) rfl (Nat.le_of_ble_eq_true rfl) (rg_X6_liesAs_0 hG 75 4 x ⟨fun q => absurd q (by decide), fun q => absurd q (by decide), fun q => absurd q (by decide), fun q => absurd q (by decide), fun q => absurd q (by decide), fun _ => ⟨rfl, c_X6_begins hG (by omega) ht hl2 (fun m1 h1 r1 => ⟨rfl, ?_⟩)⟩, fun q => absurd q (by decide), fun q => absurd q (by decide)⟩)
  refine c_X6_above hG (by omega) ⟨_, rfl, ?_⟩
  have hl3 : T.length + (L.length + 1) ≤ 30 := by simpa using hl
  exact hS e x m1 (T ++ [50]) _ (by omega) (hv.fr h1) r1 (by simp; omega) (fun m2 h2 r2 => ⟨_, rfl, kx m2 (h1.tr h2) (by rw [List.append_assoc] at r2; exact r2)⟩)
set_option maxHeartbeats 4000000 in
theorem as_l2 (hG : fl G = false) {r : Nat} {L : List Int32} {W : Int32 → Int32} (hr : 1 ≤ r) (hS : AsC mX6_liesAs G t n i nn f 0 r L W) : AsC mX6_liesAs G t n i nn f 2 (r + 1) L W := by
  intro e x m T K he hv ht hl kx
  obtain ⟨e, rfl⟩ : ∃ q, e = q + 1 := ⟨e - 1, by omega⟩
  exact Cal.of (by decide +kernel) rfl (Nat.le_of_ble_eq_true rfl) (rg_X6_liesAs_0 hG 75 2 x ⟨fun q => absurd q (by decide), fun q => absurd q (by decide), fun q => absurd q (by decide), fun _ => c_X6_above hG (by omega) ⟨_, rfl, rfl, hS e x m T _ (by omega) hv ht hl (fun m2 h2 r2 => ⟨_, rfl, kx m2 h2 r2⟩)⟩, fun q => absurd q (by decide), fun q => absurd q (by decide), fun q => absurd q (by decide), fun q => absurd q (by decide)⟩)
set_option maxHeartbeats 4000000 in
theorem as_l3 (hG : fl G = false) {r : Nat} {L : List Int32} {W : Int32 → Int32} (hr : 1 ≤ r) (hS : AsC mX6_liesAs G t n i nn f 0 r L W) : AsC mX6_liesAs G t n i nn f 3 (r + 1) L W := by
  intro e x m T K he hv ht hl kx
  obtain ⟨e, rfl⟩ : ∃ q, e = q + 1 := ⟨e - 1, by omega⟩
  exact Cal.of (by decide +kernel) rfl (Nat.le_of_ble_eq_true rfl) (rg_X6_liesAs_0 hG 75 3 x ⟨fun q => absurd q (by decide), fun q => absurd q (by decide), fun q => absurd q (by decide), fun q => absurd q (by decide), fun _ => c_X6_above hG (by omega) ⟨_, rfl, rfl, hS e x m T _ (by omega) hv ht hl (fun m2 h2 r2 => ⟨_, rfl, kx m2 h2 r2⟩)⟩, fun q => absurd q (by decide), fun q => absurd q (by decide), fun q => absurd q (by decide)⟩)
set_option maxHeartbeats 4000000 in
theorem as_l5 (hG : fl G = false) {r : Nat} {L : List Int32} {W : Int32 → Int32} (hr : 1 ≤ r) (hS : AsC mX6_liesAs G t n i nn f 2 r L W) : AsC mX6_liesAs G t n i nn f 5 (r + 1) L W := by
  intro e x m T K he hv ht hl kx
  obtain ⟨e, rfl⟩ : ∃ q, e = q + 1 := ⟨e - 1, by omega⟩
  exact Cal.of (by decide +kernel) rfl (Nat.le_of_ble_eq_true rfl) (rg_X6_liesAs_0 hG 75 5 x ⟨fun q => absurd q (by decide), fun q => absurd q (by decide), fun q => absurd q (by decide), fun q => absurd q (by decide), fun q => absurd q (by decide), fun q => absurd q (by decide), fun _ => c_X6_above hG (by omega) ⟨_, rfl, rfl, hS e x m T _ (by omega) hv ht hl (fun m2 h2 r2 => ⟨_, rfl, kx m2 h2 r2⟩)⟩, fun q => absurd q (by decide)⟩)
set_option maxHeartbeats 4000000 in
theorem asLies (hG : fl G = false) {k : Int32} (hk : 0 ≤ k ∧ k ≤ 6) : AsC mX6_liesAs G t n i nn f k 6 (lzT k) (lzV nn k) := by
  have l0 := as_l0 (G := G) (t := t) (n := n) (i := i) (nn := nn) (f := f) hG
  have l1 := as_l1 hG (by decide) l0
  rcases r06 hk with rfl | rfl | rfl | rfl | rfl | rfl | rfl
  · exact l0.mo (by decide) rfl (fun _ => rfl)
  · exact l1.mo (by decide) rfl (fun _ => rfl)
  · exact (as_l2 hG (by decide) l0).mo (by decide) rfl (fun _ => rfl)
  · exact (as_l3 hG (by decide) l0).mo (by decide) rfl (fun _ => rfl)
  · exact (as_l4 hG (by decide) l1).mo (by decide) rfl (fun _ => rfl)
  · exact (as_l5 hG (by decide) (as_l2 hG (by decide) l0)).mo (by decide) rfl (fun _ => rfl)
  · exact (as_l6 hG).mo (by decide) rfl (fun _ => rfl)
set_option maxHeartbeats 4000000 in
theorem as_r0 (hG : fl G = false) (hn : 0 ≤ nn ∧ nn < 16) (hk : 0 ≤ its f nn 0 ∧ its f nn 0 ≤ 6) : AsC mX6_rollsAs G t n i nn f 0 8 (11 :: lzT (its f nn 0)) (fun x => lzV nn (its f nn 0) x * 2) := by
  intro e x m T K he hv ht hl kx
  obtain ⟨e, rfl⟩ : ∃ q, e = q + 1 := ⟨e - 1, by omega⟩
  have hl2 : T.length < 30 := by simp only [List.length_cons] at hl; omega
  refine Cal.of (by decide +kernel) rfl (Nat.le_of_ble_eq_true rfl) (rg_X6_rollsAs_0 hG 75 0 x ⟨fun q => absurd q (by decide), fun _ => ⟨rfl, c_X6_begins hG (by omega) ht hl2 (fun m1 h1 r1 => ⟨rfl, ?_⟩)⟩, fun q => absurd q (by decide), fun q => absurd q (by decide), fun q => absurd q (by decide), fun q => absurd q (by decide), fun q => absurd q (by decide), fun q => absurd q (by decide)⟩)
  have hl3 : T.length + ((lzT (its f nn 0)).length + 1) ≤ 30 := by simpa using hl
  refine c_X6_kindNow hG (by omega) hn (hv.fr h1) ⟨_, rfl, asLies hG hk e x m1 (T ++ [11]) _ (by omega) (hv.fr h1) r1 (by simp; omega) (fun m2 h2 r2 => ⟨_, rfl, kx m2 (h1.tr h2) (by rw [List.append_assoc] at r2; exact r2)⟩)⟩
set_option maxHeartbeats 4000000 in
theorem as_r2 (hG : fl G = false) {r : Nat} {L : List Int32} {W : Int32 → Int32} (hr : 1 ≤ r) (hS : AsC mX6_rollsAs G t n i nn f 0 r L W) : AsC mX6_rollsAs G t n i nn f 2 (r + 1) (30 :: L) (fun x => 0 - W x) := by
  intro e x m T K he hv ht hl kx
  obtain ⟨e, rfl⟩ : ∃ q, e = q + 1 := ⟨e - 1, by omega⟩
  have hl2 : T.length < 30 := by simp only [List.length_cons] at hl; omega
  refine Cal.of (by decide +kernel) rfl (Nat.le_of_ble_eq_true rfl) (rg_X6_rollsAs_0 hG 75 2 x ⟨fun q => absurd q (by decide), fun q => absurd q (by decide), fun q => absurd q (by decide), fun _ => ⟨rfl, c_X6_begins hG (by omega) ht hl2 (fun m1 h1 r1 => ⟨rfl, ?_⟩)⟩, fun q => absurd q (by decide), fun q => absurd q (by decide), fun q => absurd q (by decide), fun q => absurd q (by decide)⟩)
  refine c_X6_above hG (by omega) ⟨_, rfl, ?_⟩
  have hl3 : T.length + (L.length + 1) ≤ 30 := by simpa using hl
  exact hS e x m1 (T ++ [30]) _ (by omega) (hv.fr h1) r1 (by simp; omega) (fun m2 h2 r2 => ⟨_, rfl, kx m2 (h1.tr h2) (by rw [List.append_assoc] at r2; exact r2)⟩)
set_option maxHeartbeats 4000000 in
theorem as_r5 (hG : fl G = false) {r : Nat} {L : List Int32} {W : Int32 → Int32} (hr : 1 ≤ r) (hS : AsC mX6_rollsAs G t n i nn f 2 r L W) : AsC mX6_rollsAs G t n i nn f 5 (r + 1) (60 :: L) (fun x => W (x + 1)) := by
  intro e x m T K he hv ht hl kx
  obtain ⟨e, rfl⟩ : ∃ q, e = q + 1 := ⟨e - 1, by omega⟩
  have hl2 : T.length < 30 := by simp only [List.length_cons] at hl; omega
  refine Cal.of (by decide +kernel) rfl (Nat.le_of_ble_eq_true rfl) (rg_X6_rollsAs_0 hG 75 5 x ⟨fun q => absurd q (by decide), fun q => absurd q (by decide), fun q => absurd q (by decide), fun q => absurd q (by decide), fun q => absurd q (by decide), fun q => absurd q (by decide), fun _ => ⟨rfl, c_X6_begins hG (by omega) ht hl2 (fun m1 h1 r1 => ⟨rfl, ?_⟩)⟩, fun q => absurd q (by decide)⟩)
  refine c_X6_above hG (by omega) ⟨_, rfl, ?_⟩
  have hl3 : T.length + (L.length + 1) ≤ 30 := by simpa using hl
  exact hS e (x + 1) m1 (T ++ [60]) _ (by omega) (hv.fr h1) r1 (by simp; omega) (fun m2 h2 r2 => ⟨_, rfl, kx m2 (h1.tr h2) (by rw [List.append_assoc] at r2; exact r2)⟩)
set_option maxHeartbeats 4000000 in
theorem as_r6 (hG : fl G = false) (hn : 0 ≤ nn ∧ nn < 16) (hk : 0 ≤ its f nn 0 ∧ its f nn 0 ≤ 6) {r : Nat} {L : List Int32} {W : Int32 → Int32} (hr : 2 ≤ r) (hS : AsC mX6_rollsAs G t n i nn f 0 r L W) : AsC mX6_rollsAs G t n i nn f 6 (r + 1) (71 :: L) (fun x => W x + its f nn 1) := by
  intro e x m T K he hv ht hl kx
  obtain ⟨e, rfl⟩ : ∃ q, e = q + 1 := ⟨e - 1, by omega⟩
  have hl2 : T.length < 30 := by simp only [List.length_cons] at hl; omega
  refine Cal.of (by decide +kernel) rfl (Nat.le_of_ble_eq_true rfl) (rg_X6_rollsAs_0 hG 75 6 x ⟨fun q => absurd q (by decide), fun q => absurd q (by decide), fun q => absurd q (by decide), fun q => absurd q (by decide), fun q => absurd q (by decide), fun q => absurd q (by decide), fun q => absurd q (by decide), fun _ => ⟨rfl, c_X6_begins hG (by omega) ht hl2 (fun m1 h1 r1 => ⟨rfl, ?_⟩)⟩⟩)
  refine c_X6_above hG (by omega) ⟨_, rfl, ?_⟩
  have hl3 : T.length + (L.length + 1) ≤ 30 := by simpa using hl
  exact hS e x m1 (T ++ [71]) _ (by omega) (hv.fr h1) r1 (by simp; omega) (fun m2 h2 r2 => ⟨_, rfl, c_X6_mNow hG (by omega) hn ((hv.fr h1).fr h2) ⟨_, rfl, kx m2 (h1.tr h2) (by rw [List.append_assoc] at r2; exact r2)⟩⟩)
set_option maxHeartbeats 4000000 in
theorem as_r1 (hG : fl G = false) {r : Nat} {L : List Int32} {W : Int32 → Int32} (hr : 1 ≤ r) (hS : AsC mX6_rollsAs G t n i nn f 0 r L W) : AsC mX6_rollsAs G t n i nn f 1 (r + 1) L W := by
  intro e x m T K he hv ht hl kx
  obtain ⟨e, rfl⟩ : ∃ q, e = q + 1 := ⟨e - 1, by omega⟩
  exact Cal.of (by decide +kernel) rfl (Nat.le_of_ble_eq_true rfl) (rg_X6_rollsAs_0 hG 75 1 x ⟨fun q => absurd q (by decide), fun q => absurd q (by decide), fun _ => c_X6_above hG (by omega) ⟨_, rfl, rfl, hS e x m T _ (by omega) hv ht hl (fun m2 h2 r2 => ⟨_, rfl, kx m2 h2 r2⟩)⟩, fun q => absurd q (by decide), fun q => absurd q (by decide), fun q => absurd q (by decide), fun q => absurd q (by decide), fun q => absurd q (by decide)⟩)
set_option maxHeartbeats 4000000 in
theorem as_r3 (hG : fl G = false) {r : Nat} {L : List Int32} {W : Int32 → Int32} (hr : 1 ≤ r) (hS : AsC mX6_rollsAs G t n i nn f 0 r L W) : AsC mX6_rollsAs G t n i nn f 3 (r + 1) L W := by
  intro e x m T K he hv ht hl kx
  obtain ⟨e, rfl⟩ : ∃ q, e = q + 1 := ⟨e - 1, by omega⟩
  exact Cal.of (by decide +kernel) rfl (Nat.le_of_ble_eq_true rfl) (rg_X6_rollsAs_0 hG 75 3 x ⟨fun q => absurd q (by decide), fun q => absurd q (by decide), fun q => absurd q (by decide), fun q => absurd q (by decide), fun _ => c_X6_above hG (by omega) ⟨_, rfl, rfl, hS e x m T _ (by omega) hv ht hl (fun m2 h2 r2 => ⟨_, rfl, kx m2 h2 r2⟩)⟩, fun q => absurd q (by decide), fun q => absurd q (by decide), fun q => absurd q (by decide)⟩)
set_option maxHeartbeats 4000000 in
theorem as_r4 (hG : fl G = false) {r : Nat} {L : List Int32} {W : Int32 → Int32} (hr : 1 ≤ r) (hS : AsC mX6_rollsAs G t n i nn f 1 r L W) : AsC mX6_rollsAs G t n i nn f 4 (r + 1) L W := by
  intro e x m T K he hv ht hl kx
  obtain ⟨e, rfl⟩ : ∃ q, e = q + 1 := ⟨e - 1, by omega⟩
  exact Cal.of (by decide +kernel) rfl (Nat.le_of_ble_eq_true rfl) (rg_X6_rollsAs_0 hG 75 4 x ⟨fun q => absurd q (by decide), fun q => absurd q (by decide), fun q => absurd q (by decide), fun q => absurd q (by decide), fun q => absurd q (by decide), fun _ => c_X6_above hG (by omega) ⟨_, rfl, rfl, hS e x m T _ (by omega) hv ht hl (fun m2 h2 r2 => ⟨_, rfl, kx m2 h2 r2⟩)⟩, fun q => absurd q (by decide), fun q => absurd q (by decide)⟩)
set_option maxHeartbeats 4000000 in
theorem asRolls (hG : fl G = false) (hn : 0 ≤ nn ∧ nn < 16) (hk : 0 ≤ its f nn 0 ∧ its f nn 0 ≤ 6) {k : Int32} (hkk : 0 ≤ k ∧ k ≤ 6) : AsC mX6_rollsAs G t n i nn f k 12 (rlT (its f nn 0) k) (rlV nn (its f nn 1) (its f nn 0) k) := by
  have l0 := as_r0 (G := G) (t := t) (n := n) (i := i) (nn := nn) (f := f) hG hn hk
  rcases r06 hkk with rfl | rfl | rfl | rfl | rfl | rfl | rfl
  · exact l0.mo (by decide) rfl (fun _ => rfl)
  · exact (as_r1 hG (by decide) l0).mo (by decide) rfl (fun _ => rfl)
  · exact (as_r2 hG (by decide) l0).mo (by decide) rfl (fun _ => rfl)
  · exact (as_r3 hG (by decide) l0).mo (by decide) rfl (fun _ => rfl)
  · exact (as_r4 hG (by decide) (as_r1 hG (by decide) l0)).mo (by decide) rfl (fun _ => rfl)
  · exact (as_r5 hG (by decide) (as_r2 hG (by decide) l0)).mo (by decide) rfl (fun _ => rfl)
  · exact (as_r6 hG hn hk (by decide) l0).mo (by decide) rfl (fun _ => rfl)
set_option maxHeartbeats 4000000 in
theorem as_f0 (hG : fl G = false) (hn : 0 ≤ nn ∧ nn < 16) (hk : 0 ≤ its f nn 0 ∧ its f nn 0 ≤ 6) : AsC mX6_fallsAs G t n i nn f 0 14 (12 :: rlT (its f nn 0) (its f nn 0)) (fun x => rlV nn (its f nn 1) (its f nn 0) (its f nn 0) x - its f nn 1) := by
  intro e x m T K he hv ht hl kx
  obtain ⟨e, rfl⟩ : ∃ q, e = q + 1 := ⟨e - 1, by omega⟩
  have hl2 : T.length < 30 := by simp only [List.length_cons] at hl; omega
  refine Cal.of (by decide +kernel) rfl (Nat.le_of_ble_eq_true rfl) (rg_X6_fallsAs_0 hG 75 0 x ⟨fun q => absurd q (by decide), fun _ => ⟨rfl, c_X6_begins hG (by omega) ht hl2 (fun m1 h1 r1 => ⟨rfl, ?_⟩)⟩, fun q => absurd q (by decide), fun q => absurd q (by decide), fun q => absurd q (by decide), fun q => absurd q (by decide)⟩)
  have hl3 : T.length + ((rlT (its f nn 0) (its f nn 0)).length + 1) ≤ 30 := by simpa using hl
  refine c_X6_kindNow hG (by omega) hn (hv.fr h1) ⟨_, rfl, asRolls hG hn hk hk e x m1 (T ++ [12]) _ (by omega) (hv.fr h1) r1 (by simp; omega) (fun m2 h2 r2 => ⟨_, rfl, c_X6_mNow hG (by omega) hn ((hv.fr h1).fr h2) ⟨_, rfl, kx m2 (h1.tr h2) (by rw [List.append_assoc] at r2; exact r2)⟩⟩)⟩
set_option maxHeartbeats 4000000 in
theorem as_f3 (hG : fl G = false) {r : Nat} {L : List Int32} {W : Int32 → Int32} (hr : 1 ≤ r) (hS : AsC mX6_fallsAs G t n i nn f 0 r L W) : AsC mX6_fallsAs G t n i nn f 3 (r + 1) (40 :: L) (fun x => W (x / 2)) := by
  intro e x m T K he hv ht hl kx
  obtain ⟨e, rfl⟩ : ∃ q, e = q + 1 := ⟨e - 1, by omega⟩
  have hl2 : T.length < 30 := by simp only [List.length_cons] at hl; omega
  refine Cal.of (by decide +kernel) rfl (Nat.le_of_ble_eq_true rfl) (rg_X6_fallsAs_0 hG 75 3 x ⟨fun q => absurd q (by decide), fun q => absurd q (by decide), fun q => absurd q (by decide), fun q => absurd q (by decide), fun _ => ⟨rfl, c_X6_begins hG (by omega) ht hl2 (fun m1 h1 r1 => ⟨rfl, ?_⟩)⟩, fun q => absurd q (by decide)⟩)
  refine c_X6_above hG (by omega) ⟨_, rfl, by decide, ?_⟩
  have hl3 : T.length + (L.length + 1) ≤ 30 := by simpa using hl
  exact hS e (x / 2) m1 (T ++ [40]) _ (by omega) (hv.fr h1) r1 (by simp; omega) (fun m2 h2 r2 => ⟨_, rfl, kx m2 (h1.tr h2) (by rw [List.append_assoc] at r2; exact r2)⟩)
set_option maxHeartbeats 4000000 in
theorem as_f4 (hG : fl G = false) {r : Nat} {L : List Int32} {W : Int32 → Int32} (hr : 1 ≤ r) (hS : AsC mX6_fallsAs G t n i nn f 1 r L W) : AsC mX6_fallsAs G t n i nn f 4 (r + 1) (51 :: L) (fun x => W x ^^^ nn) := by
  intro e x m T K he hv ht hl kx
  obtain ⟨e, rfl⟩ : ∃ q, e = q + 1 := ⟨e - 1, by omega⟩
  have hl2 : T.length < 30 := by simp only [List.length_cons] at hl; omega
  refine Cal.of (by decide +kernel) rfl (Nat.le_of_ble_eq_true rfl) (rg_X6_fallsAs_0 hG 75 4 x ⟨fun q => absurd q (by decide), fun q => absurd q (by decide), fun q => absurd q (by decide), fun q => absurd q (by decide), fun q => absurd q (by decide), fun _ => ⟨rfl, c_X6_begins hG (by omega) ht hl2 (fun m1 h1 r1 => ⟨rfl, ?_⟩)⟩⟩)
  refine c_X6_above hG (by omega) ⟨_, rfl, ?_⟩
  have hl3 : T.length + (L.length + 1) ≤ 30 := by simpa using hl
  exact hS e x m1 (T ++ [51]) _ (by omega) (hv.fr h1) r1 (by simp; omega) (fun m2 h2 r2 => ⟨_, rfl, by rw [((hv.fr h1).fr h2).1]; exact kx m2 (h1.tr h2) (by rw [List.append_assoc] at r2; exact r2)⟩)
set_option maxHeartbeats 4000000 in
theorem as_f1 (hG : fl G = false) {r : Nat} {L : List Int32} {W : Int32 → Int32} (hr : 1 ≤ r) (hS : AsC mX6_fallsAs G t n i nn f 0 r L W) : AsC mX6_fallsAs G t n i nn f 1 (r + 1) L W := by
  intro e x m T K he hv ht hl kx
  obtain ⟨e, rfl⟩ : ∃ q, e = q + 1 := ⟨e - 1, by omega⟩
  exact Cal.of (by decide +kernel) rfl (Nat.le_of_ble_eq_true rfl) (rg_X6_fallsAs_0 hG 75 1 x ⟨fun q => absurd q (by decide), fun q => absurd q (by decide), fun _ => c_X6_above hG (by omega) ⟨_, rfl, rfl, hS e x m T _ (by omega) hv ht hl (fun m2 h2 r2 => ⟨_, rfl, kx m2 h2 r2⟩)⟩, fun q => absurd q (by decide), fun q => absurd q (by decide), fun q => absurd q (by decide)⟩)
set_option maxHeartbeats 4000000 in
theorem as_f2 (hG : fl G = false) {r : Nat} {L : List Int32} {W : Int32 → Int32} (hr : 1 ≤ r) (hS : AsC mX6_fallsAs G t n i nn f 0 r L W) : AsC mX6_fallsAs G t n i nn f 2 (r + 1) L W := by
  intro e x m T K he hv ht hl kx
  obtain ⟨e, rfl⟩ : ∃ q, e = q + 1 := ⟨e - 1, by omega⟩
  exact Cal.of (by decide +kernel) rfl (Nat.le_of_ble_eq_true rfl) (rg_X6_fallsAs_0 hG 75 2 x ⟨fun q => absurd q (by decide), fun q => absurd q (by decide), fun q => absurd q (by decide), fun _ => c_X6_above hG (by omega) ⟨_, rfl, rfl, hS e x m T _ (by omega) hv ht hl (fun m2 h2 r2 => ⟨_, rfl, kx m2 h2 r2⟩)⟩, fun q => absurd q (by decide), fun q => absurd q (by decide)⟩)
set_option maxHeartbeats 4000000 in
theorem as_f5 (hG : fl G = false) {r : Nat} {L : List Int32} {W : Int32 → Int32} (hr : 1 ≤ r) (hS : AsC mX6_fallsAs G t n i nn f 2 r L W) : AsC mX6_fallsAs G t n i nn f 5 (r + 1) L W := by
  intro e x m T K he hv ht hl kx
  obtain ⟨e, rfl⟩ : ∃ q, e = q + 1 := ⟨e - 1, by omega⟩
  exact Cal.of (by decide +kernel) rfl (Nat.le_of_ble_eq_true rfl) (rg_X6_fallsAs_0 hG 75 5 x ⟨fun _ => c_X6_above hG (by omega) ⟨_, rfl, rfl, hS e x m T _ (by omega) hv ht hl (fun m2 h2 r2 => ⟨_, rfl, kx m2 h2 r2⟩)⟩, fun q => absurd q (by decide), fun q => absurd q (by decide), fun q => absurd q (by decide), fun q => absurd q (by decide), fun q => absurd q (by decide)⟩)
set_option maxHeartbeats 4000000 in
theorem as_f6 (hG : fl G = false) {r : Nat} {L : List Int32} {W : Int32 → Int32} (hr : 1 ≤ r) (hS : AsC mX6_fallsAs G t n i nn f 0 r L W) : AsC mX6_fallsAs G t n i nn f 6 (r + 1) L W := by
  intro e x m T K he hv ht hl kx
  obtain ⟨e, rfl⟩ : ∃ q, e = q + 1 := ⟨e - 1, by omega⟩
  exact Cal.of (by decide +kernel) rfl (Nat.le_of_ble_eq_true rfl) (rg_X6_fallsAs_0 hG 75 6 x ⟨fun _ => c_X6_above hG (by omega) ⟨_, rfl, rfl, hS e x m T _ (by omega) hv ht hl (fun m2 h2 r2 => ⟨_, rfl, kx m2 h2 r2⟩)⟩, fun q => absurd q (by decide), fun q => absurd q (by decide), fun q => absurd q (by decide), fun q => absurd q (by decide), fun q => absurd q (by decide)⟩)
set_option maxHeartbeats 4000000 in
theorem asFalls (hG : fl G = false) (hn : 0 ≤ nn ∧ nn < 16) (hk : 0 ≤ its f nn 0 ∧ its f nn 0 ≤ 6) {k : Int32} (hkk : 0 ≤ k ∧ k ≤ 6) : AsC mX6_fallsAs G t n i nn f k 16 (faT (its f nn 0) k) (faV nn (its f nn 1) (its f nn 0) k) := by
  have l0 := as_f0 (G := G) (t := t) (n := n) (i := i) (nn := nn) (f := f) hG hn hk
  rcases r06 hkk with rfl | rfl | rfl | rfl | rfl | rfl | rfl
  · exact l0.mo (by decide) rfl (fun _ => rfl)
  · exact (as_f1 hG (by decide) l0).mo (by decide) rfl (fun _ => rfl)
  · exact (as_f2 hG (by decide) l0).mo (by decide) rfl (fun _ => rfl)
  · exact (as_f3 hG (by decide) l0).mo (by decide) rfl (fun _ => rfl)
  · exact (as_f4 hG (by decide) (as_f1 hG (by decide) l0)).mo (by decide) rfl (fun _ => rfl)
  · exact (as_f5 hG (by decide) (as_f2 hG (by decide) l0)).mo (by decide) rfl (fun _ => rfl)
  · exact (as_f6 hG (by decide) l0).mo (by decide) rfl (fun _ => rfl)
end

