-- 56.box5
section
variable {G : Gm} {d t n i : Nat} {m : Mem} {K : Option Value → Mem → Prop} {f : Nat → Int32} {x y z : Int32}
def aK (o k : Int32) : Int32 := if k = 0 then 1 else if o = k then 1 else if k = 1 ∧ o = 4 then 1 else if k = 2 ∧ o = 5 then 1 else 0
set_option maxHeartbeats 4000000 in
theorem aK1 {o k : Int32} (h : unP o k) : aK o k = 1 := by
  unfold aK
  split
  · rfl
  · split
    · rfl
    · split
      · rfl
      · split
        · rfl
        · rename_i a b c e
          exact absurd h (fun h => h.elim a (fun h => h.elim b (fun h => h.elim c e)))
set_option maxHeartbeats 4000000 in
theorem aK0 {o k : Int32} (h : ¬ unP o k) : aK o k ≠ 1 := by
  unfold aK
  rw [if_neg (fun q => h (Or.inl q)), if_neg (fun q => h (Or.inr (Or.inl q))), if_neg (fun q => h (Or.inr (Or.inr (Or.inl q)))), if_neg (fun q => h (Or.inr (Or.inr (Or.inr q))))]
  decide
def asR (f : Nat → Int32) (x y : Int32) : Int32 × Int32 := if 0 ≤ x ∧ x < rd f 0 then if 0 ≤ y ∧ y ≤ 6 then if aK (its f x 0) y = 1 then (0, its f x 2) else (5, 0) else (1, 0) else (1, 0)
set_option maxHeartbeats 4000000 in
theorem lt7 {y : Int32} : y < 7 ↔ y ≤ 6 := by
  rw [Int32.lt_iff_toInt_lt, Int32.le_iff_toInt_le, show (7 : Int32).toInt = 7 from rfl, show (6 : Int32).toInt = 6 from rfl]
  omega
set_option maxHeartbeats 4000000 in
theorem c_X5_as (hG : fl G = false) (hd : 20 ≤ d) (hb : RB m 35 44 f) (hw : WF f) (k : Ans [] 34 m K (asR f x y)) : Cal G mX5_as d [.ref 0, .int x, .int y] SH (TA t n i) m K := by
  obtain ⟨d, rfl⟩ : ∃ e, d = e + 1 := ⟨d - 1, by omega⟩
  have h16 := hw.1.1.2
  refine Cal.of (by decide +kernel) rfl (Nat.le_of_ble_eq_true rfl) (rg_X5_as_0 hG 0 x y ⟨rfl, 35, rfl, rfl, c_X0_hasR hG (by omega) hb h16 ⟨_, rfl, fun q => ?_, fun q => ?_⟩⟩)
  · exact c_X5_refuse hG (by omega) (by decide) ⟨_, rfl, k.no Fr.rf (by rw [asR, if_neg (b0 q)]) (by decide)⟩
  · have q := b1 q
    rw [asR, if_pos q] at k
    refine ⟨fun c => c_X5_refuse hG (by omega) (by decide) ⟨_, rfl, k.no Fr.rf (by rw [if_neg (fun o => absurd c (Int32.not_lt.mpr o.1))]) (by decide)⟩, fun c => ⟨fun c2 => ?_, fun c2 => c_X5_refuse hG (by omega) (by decide) ⟨_, rfl, k.no Fr.rf (by rw [if_neg (fun o => c2 (lt7.mpr o.2))]) (by decide)⟩⟩⟩
    have y0 := Int32.not_lt.mp c
    rw [if_pos ⟨y0, lt7.mp c2⟩] at k
    refine c_X0_kindOf hG (by omega) B35 hb h16 ⟨_, rfl, ?_⟩
    rw [if_pos q]
    refine c_X5_isUnder hG (by omega) (hw.1.2 x q.1 q.2).1 y0 (fun u => ⟨_, rfl, fun e => absurd e (by decide), fun _ => c_X0_worthOf hG (by omega) B35 hb h16 ⟨_, rfl, ?_⟩⟩) (fun u => ⟨_, rfl, fun _ => c_X5_refuse hG (by omega) (by decide) ⟨_, rfl, k.no Fr.rf (by rw [if_neg (aK0 u)]) (by decide)⟩, fun e => absurd rfl e⟩)
    rw [if_pos q]
    exact k.ok Fr.rf (by rw [if_pos (aK1 u)])
set_option maxHeartbeats 4000000 in
theorem c_X6_as (hG : fl G = false) (hd : 20 ≤ d) (hw : WF (m 76)) (k : Ans [] 79 m K (asR (m 76) x y)) : Cal G mX6_as d [.ref 75, .int x, .int y] SH (TA t n i) m K := by
  obtain ⟨d, rfl⟩ : ∃ e, d = e + 1 := ⟨d - 1, by omega⟩
  have h16 := hw.1.1
  refine Cal.of (by decide +kernel) rfl (Nat.le_of_ble_eq_true rfl) (rg_X6_as_0 hG 75 x y ⟨rfl, c_X6_isThing hG (by omega) h16.1 h16.2 ⟨_, rfl, fun q => ?_, fun q => ?_⟩⟩)
  · exact c_X6_error hG (by omega) (by decide) ⟨_, rfl, k.no Fr.rf (by rw [asR, if_neg (b0 q)]) (by decide)⟩
  · have q := b1 q
    have x16 : 0 ≤ x ∧ x < 16 := ⟨q.1, Int32.lt_of_lt_of_le q.2 h16.2⟩
    rw [asR, if_pos q] at k
    refine c_X6_in hG (by omega) ⟨_, rfl, fun q2 => ?_, fun q2 => c_X6_error hG (by omega) (by decide) ⟨_, rfl, k.no Fr.rf (by rw [if_neg (b0 q2)]) (by decide)⟩⟩
    rw [if_pos (b1 q2)] at k
    refine c_X6_its hG (by omega) x16 (by decide) ⟨_, rfl, ?_⟩
    exact c_X6_isUnder hG (by omega) (fun u => ⟨_, rfl, fun e => absurd e (by decide), fun _ => c_X6_its hG (by omega) x16 (by decide) ⟨_, rfl, k.ok Fr.rf (by rw [if_pos (aK1 u)])⟩⟩) (fun u => ⟨_, rfl, fun _ => c_X6_error hG (by omega) (by decide) ⟨_, rfl, k.no Fr.rf (by rw [if_neg (aK0 u)]) (by decide)⟩, fun e => absurd rfl e⟩)
def moS (y : Int32) : Int32 := if y = 0 then 6 else if y = 1 then 9 else 99
def seR (f : Nat → Int32) (x y z : Int32) : Int32 × Int32 := if 0 ≤ x ∧ x < rd f 0 then if 0 ≤ y ∧ y ≤ 2 then if 0 ≤ z ∧ z ≤ moS y then (0, its f x y) else (1, 0) else (1, 0) else (1, 0)
def seA (f : Nat → Int32) (x y z : Int32) : Nat → Int32 := wr f (8 + 4 * x + y) z
set_option maxHeartbeats 4000000 in
theorem seA_ok (hx : 0 ≤ x ∧ x < 16) (hy : 0 ≤ y ∧ y ≤ 2) : (∀ s w, 0 ≤ s → s < 16 → 0 ≤ w → w < 4 → its (seA f x y z) s w = if s = x ∧ w = y then z else its f s w) ∧ (∀ c, 0 ≤ c → c ≤ 15 → sz (seA f x y z) c = sz f c ∧ ∀ h, 0 ≤ h → h < 5 → pl (seA f x y z) c h = pl f c h) ∧ (∀ j, 0 ≤ j → j < 8 → rd (seA f x y z) j = rd f j) ∧ ∀ i : Nat, 168 ≤ i → seA f x y z i = f i := by
  obtain ⟨x, kx, rfl⟩ := oN (N := 16) hx.1 hx.2 (by decide)
  obtain ⟨y, ky, rfl⟩ := oN' (N := 2) hy.1 hy.2 (by decide)
  have e : seA f (Int32.ofNat x) (Int32.ofNat y) z = fun j => if j = 8 + 4 * x + y then z else f j := by
    unfold seA
    rw [show (8 : Int32) = Int32.ofNat 8 from rfl, show (4 : Int32) = Int32.ofNat 4 from rfl, o_mul, o_add, o_add, wr_o (by omega)]
  rw [e]
  refine ⟨fun s w s0 s1 w0 w1 => ?_, fun c c0 c1 => ⟨?_, fun h h0 h1 => ?_⟩, fun j j0 j1 => ?_, fun i hi => if_neg (by omega)⟩
  · obtain ⟨s, ks, rfl⟩ := oN (N := 16) s0 s1 (by decide)
    obtain ⟨w, kw, rfl⟩ := oN (N := 4) w0 w1 (by decide)
    rw [its_o (by omega) (by omega), its_o (by omega) (by omega)]
    show (if 8 + 4 * s + w = 8 + 4 * x + y then z else f (8 + 4 * s + w)) = _
    by_cases h : s = x ∧ w = y
    · rw [if_pos (show 8 + 4 * s + w = 8 + 4 * x + y by omega), if_pos ⟨by rw [h.1], by rw [h.2]⟩]
    · rw [if_neg (show ¬ 8 + 4 * s + w = 8 + 4 * x + y by omega), if_neg (fun o => h ⟨(o_eq (by omega) (by omega)).mp o.1, (o_eq (by omega) (by omega)).mp o.2⟩)]
  · obtain ⟨c, kc, rfl⟩ := oN' (N := 15) c0 c1 (by decide)
    rw [sz_o (by omega), sz_o (by omega)]
    exact if_neg (by omega)
  · obtain ⟨c, kc, rfl⟩ := oN' (N := 15) c0 c1 (by decide)
    obtain ⟨h, kh, rfl⟩ := oN (N := 5) h0 h1 (by decide)
    rw [pl_o (by omega) (by omega), pl_o (by omega) (by omega)]
    exact if_neg (by omega)
  · obtain ⟨j, kj, rfl⟩ := oN (N := 8) j0 j1 (by decide)
    rw [rd_o (by omega), rd_o (by omega)]
    exact if_neg (by omega)
set_option maxHeartbeats 4000000 in
theorem moS_ok (hz : 0 ≤ z ∧ z ≤ moS y) : (y = 0 → z ≤ 6) ∧ (y = 1 → z ≤ 9) ∧ z ≤ 99 := by
  unfold moS at hz
  refine ⟨fun e => ?_, fun e => ?_, ?_⟩
  · rw [if_pos e] at hz; exact hz.2
  · rw [if_neg (by rw [e]; decide), if_pos e] at hz; exact hz.2
  · split at hz
    · exact Int32.le_trans hz.2 (by decide)
    · split at hz
      · exact Int32.le_trans hz.2 (by decide)
      · exact hz.2
set_option maxHeartbeats 4000000 in
theorem seA_wf (w : WF f) (hx : 0 ≤ x ∧ x < rd f 0) (hy : 0 ≤ y ∧ y ≤ 2) (hz : 0 ≤ z ∧ z ≤ moS y) : WF (seA f x y z) := by
  obtain ⟨e1, e2, e3, e4⟩ := seA_ok (f := f) (z := z) ⟨hx.1, Int32.lt_of_lt_of_le hx.2 w.1.1.2⟩ hy
  have e0 := e3 0 (by decide) (by decide)
  have hm := moS_ok hz
  have y3 : ¬ (3 : Int32) = y := fun e => by rw [← e] at hy; exact absurd hy.2 (by decide)
  have n16 := w.1.1.2
  generalize seA f x y z = g at *
  have c3 : ∀ s, 0 ≤ s → s < rd f 0 → its g s 3 = its f s 3 := fun s s0 s1 => by
    rw [e1 s 3 s0 (Int32.lt_of_lt_of_le s1 n16) (by decide) (by decide), if_neg (fun o => y3 o.2)]
  refine ⟨?_, ?_, WN.same e3 w.2.2.1, w.2.2.2.1.hi e4 (Or.inl rfl), w.2.2.2.2.hi e4 (Or.inr rfl)⟩
  · refine ⟨by rw [e0]; exact w.1.1, fun s s0 s1 => ?_⟩
    rw [e0] at s1
    have s16 := Int32.lt_of_lt_of_le s1 n16
    obtain ⟨a1, a2, a3, a4, a5⟩ := w.1.2 s s0 s1
    refine ⟨?_, ?_, ?_, ?_, ?_⟩
    · rw [e1 s 0 s0 s16 (by decide) (by decide)]
      split
      · rename_i h; exact ⟨hz.1, hm.1 h.2.symm⟩
      · exact a1
    · rw [e1 s 1 s0 s16 (by decide) (by decide)]
      split
      · rename_i h; exact ⟨hz.1, hm.2.1 h.2.symm⟩
      · exact a2
    · rw [e1 s 2 s0 s16 (by decide) (by decide)]
      split
      · exact ⟨hz.1, hm.2.2⟩
      · exact a3
    · rw [c3 s s0 s1]; exact a4
    · rw [c3 s s0 s1]
      intro h0
      obtain ⟨h, b1, b2, b3⟩ := a5 h0
      have s5 := (w.2.1 _ h0 a4.2.1).1.2
      exact ⟨h, b1, by rw [(e2 _ h0 a4.2.1).1]; exact b2, by rw [(e2 _ h0 a4.2.1).2 h b1 (Int32.lt_of_lt_of_le b2 s5)]; exact b3⟩
  · intro c c0 c1
    obtain ⟨a1, a2⟩ := w.2.1 c c0 c1
    rw [(e2 c c0 c1).1]
    refine ⟨a1, fun h h0 h1 => ?_⟩
    obtain ⟨b1, b2, b3⟩ := a2 h h0 h1
    have h5 := Int32.lt_of_lt_of_le h1 a1.2
    rw [(e2 c c0 c1).2 h h0 h5, e0, c3 _ b1.1 b1.2]
    refine ⟨b1, b2, fun h2 g0 g1 => ?_⟩
    rw [(e2 c c0 c1).2 h2 g0 (Int32.lt_of_lt_of_le g1 a1.2)]
    exact b3 h2 g0 g1
set_option maxHeartbeats 4000000 in
theorem c_X5_mostOf {sh : List Shp} {ta : Nat → Nat → Option Nat} (hG : fl G = false) (hd : 1 ≤ d) (k : K (some (.int (moS x))) m) : Cal G mX5_mostOf d [.int x] sh ta m K := by
  obtain ⟨d, rfl⟩ : ∃ e, d = e + 1 := ⟨d - 1, by omega⟩
  unfold moS at k
  refine Cal.of (by decide +kernel) rfl (Nat.le_of_ble_eq_true rfl) (rg_X5_mostOf_0 hG x ⟨fun c => ⟨fun c2 => ?_, fun c2 => ?_⟩, fun c => ?_⟩)
  · rw [if_neg c, if_neg c2] at k; exact k
  · rw [if_neg c, if_pos c2] at k; exact k
  · rw [if_pos c] at k; exact k
set_option maxHeartbeats 4000000 in
theorem le2 {y : Int32} (h : 0 ≤ y ∧ y ≤ 2) : y = 0 ∨ y = 1 ∨ y = 2 := by
  rcases r03 h.1 (Int32.le_trans h.2 (by decide)) with e | e | e | e
  · exact Or.inl e
  · exact Or.inr (Or.inl e)
  · exact Or.inr (Or.inr e)
  · rw [e] at h; exact absurd h.2 (by decide)
set_option maxHeartbeats 4000000 in
theorem c_X0_become (hG : fl G = false) (hd : 2 ≤ d) (hb : RB m 35 44 f) (h16 : rd f 0 ≤ 16) (q : 0 ≤ x ∧ x < rd f 0) (hy : 0 ≤ y ∧ y ≤ 2) (k : ∀ m', Fr [44, 45, 46] m m' → m' 44 = (if y = 0 then wr (m 44) x z else m 44) → m' 45 = (if y = 1 then wr (m 45) x z else m 45) → m' 46 = (if y = 2 then wr (m 46) x z else m 46) → K (some (.int (its f x y))) m') : Cal G mX0_become d [.ref 35, .int x, .int y, .int z] SH (TA t n i) m K := by
  obtain ⟨d, rfl⟩ : ∃ e, d = e + 1 := ⟨d - 1, by omega⟩
  have xb : InB x 16 := ib16 q.1 (Int32.lt_of_lt_of_le q.2 h16)
  obtain ⟨r1, r2, r3, -⟩ := hb.2.1 x q.1 q.2
  refine Cal.of (by decide +kernel) rfl (Nat.le_of_ble_eq_true rfl) (rg_X0_become_0 hG 35 x y z ⟨rfl, c_X0_hasR hG (by omega) hb h16 ⟨_, rfl, fun _ => ⟨fun c => ⟨fun c2 => ⟨46, rfl, 16, rfl, xb, xb, ?_⟩, fun c2 => ⟨45, rfl, 16, rfl, xb, xb, ?_⟩⟩, fun c => ⟨44, rfl, 16, rfl, xb, xb, ?_⟩⟩, fun e => absurd q (b0 e)⟩⟩)
  · rintro _ rfl
    have e := ((le2 hy).resolve_left c).resolve_left c2
    subst e
    rw [r3]
    exact k _ (Fr.ua (by decide)) (by rw [upa_ne (by decide), if_neg (by decide)]) (by rw [upa_ne (by decide), if_neg (by decide)]) (by rw [upa_eq, if_pos rfl])
  · rintro _ rfl
    subst c2
    rw [r2]
    exact k _ (Fr.ua (by decide)) (by rw [upa_ne (by decide), if_neg (by decide)]) (by rw [upa_eq, if_pos rfl]) (by rw [upa_ne (by decide), if_neg (by decide)])
  · rintro _ rfl
    subst c
    rw [r1]
    exact k _ (Fr.ua (by decide)) (by rw [upa_eq, if_pos rfl]) (by rw [upa_ne (by decide), if_neg (by decide)]) (by rw [upa_ne (by decide), if_neg (by decide)])
set_option maxHeartbeats 4000000 in
theorem c_X5_set (hG : fl G = false) (hd : 20 ≤ d) (hb : RB m 35 44 f) (hw : WF f) (h13 : m 35 13 = rd f 1 ∧ m 35 14 = rd f 7) (k : AnB jC 34 m K (seR f x y z) (PC (seA f x y z))) : Cal G mX5_set d [.ref 0, .int x, .int y, .int z] SH (TA t n i) m K := by
  obtain ⟨d, rfl⟩ : ∃ e, d = e + 1 := ⟨d - 1, by omega⟩
  have h16 := hw.1.1.2
  refine Cal.of (by decide +kernel) rfl (Nat.le_of_ble_eq_true rfl) (rg_X5_set_0 hG 0 x y z ⟨rfl, 35, rfl, rfl, c_X0_hasR hG (by omega) hb h16 ⟨_, rfl, fun q => ?_, fun q => ?_⟩⟩)
  · exact c_X5_refuse hG (by omega) (by decide) ⟨_, rfl, k.no (by rw [seR, if_neg (b0 q)]) (by decide)⟩
  · have q := b1 q
    rw [seR, if_pos q] at k
    refine ⟨fun c => c_X5_refuse hG (by omega) (by decide) ⟨_, rfl, k.no (by rw [if_neg (fun o => absurd c (Int32.not_lt.mpr o.1))]) (by decide)⟩, fun c => ⟨fun c2 => c_X5_refuse hG (by omega) (by decide) ⟨_, rfl, k.no (by rw [if_neg (fun o => absurd c2 (Int32.not_lt.mpr o.2))]) (by decide)⟩, fun c2 => ?_⟩⟩
    have hy : 0 ≤ y ∧ y ≤ 2 := ⟨Int32.not_lt.mp c, Int32.not_lt.mp c2⟩
    rw [if_pos hy] at k
    refine ⟨fun c3 => c_X5_refuse hG (by omega) (by decide) ⟨_, rfl, k.no (by rw [if_neg (fun o => absurd c3 (Int32.not_lt.mpr o.1))]) (by decide)⟩, fun c3 => c_X5_mostOf hG (by omega) ⟨_, rfl, fun c4 => ?_, fun c4 => c_X5_refuse hG (by omega) (by decide) ⟨_, rfl, k.no (by rw [if_neg (fun o => c4 o.2)]) (by decide)⟩⟩⟩
    rw [if_pos ⟨Int32.not_lt.mp c3, c4⟩] at k
    refine c_X0_become hG (by omega) hb h16 q hy (fun m' hf f44 f45 f46 => ⟨_, rfl, k.ok (hf.mo (by decide)) ⟨?_, ?_, ?_⟩ rfl⟩)
    · obtain ⟨e1, e2, e3, -⟩ := seA_ok (f := f) (z := z) ⟨q.1, Int32.lt_of_lt_of_le q.2 h16⟩ hy
      have e0 := e3 0 (by decide) (by decide)
      obtain ⟨q1, q2, q3⟩ := hb
      have f35 : m' 35 = m 35 := hf 35 (by decide)
      refine ⟨?_, fun s s0 s1 => ?_, fun c c0 c1 => ?_⟩
      · rw [f35, e0, e3 3 (by decide) (by decide), e3 4 (by decide) (by decide), e3 2 (by decide) (by decide)]; exact q1
      · rw [e0] at s1
        have s16 := Int32.lt_of_lt_of_le s1 h16
        obtain ⟨g1, g2, g3, g4⟩ := q2 s s0 s1
        have y3 : ¬ (3 : Int32) = y := fun e => by rw [← e] at hy; exact absurd hy.2 (by decide)
        have ar : ∀ (a : Nat → Int32) (v w : Int32), rd a s = v → (if w = y then rd (wr a x z) s else rd a s) = if s = x ∧ w = y then z else v := by
          intro a v w e
          rw [rd_wr q.1 s0, e]
          by_cases hw : w = y
          · by_cases hs : x = s
            · rw [if_pos hw, if_pos hs, if_pos ⟨hs.symm, hw⟩]
            · rw [if_pos hw, if_neg hs, if_neg (fun o => hs o.1.symm)]
          · rw [if_neg hw, if_neg (fun o => hw o.2)]
        have sp : ∀ (a b : Nat → Int32) (P : Prop) [Decidable P], rd (if P then a else b) s = if P then rd a s else rd b s := by
          intro a b P _
          split <;> rfl
        have dd : ∀ w : Int32, (y = w) = (w = y) := fun w => propext ⟨Eq.symm, Eq.symm⟩
        show rd (m' 44) s = _ ∧ rd (m' 45) s = _ ∧ rd (m' 46) s = _ ∧ rd (m' 47) s = _
        rw [f44, f45, f46, hf 47 (by decide), e1 s 0 s0 s16 (by decide) (by decide), e1 s 1 s0 s16 (by decide) (by decide), e1 s 2 s0 s16 (by decide) (by decide), e1 s 3 s0 s16 (by decide) (by decide), if_neg (c := s = x ∧ 3 = y) (fun o => y3 o.2)]
        simp only [sp, dd]
        exact ⟨ar _ _ _ g1, ar _ _ _ g2, ar _ _ _ g3, g4⟩
      · have h5 := (hw.2.1 c c0 c1).1.2
        obtain ⟨g1, g2⟩ := q3 c c0 c1
        show rd (m' 50) c = _ ∧ ∀ h, _ → _ → rd (m' 49) _ = _ ∧ rd (m' 48) _ = _
        rw [hf 50 (by decide), hf 49 (by decide), hf 48 (by decide), (e2 c c0 c1).1]
        refine ⟨g1, fun h h0 h1 => ?_⟩
        rw [(e2 c c0 c1).2 h h0 (Int32.lt_of_lt_of_le h1 h5)]
        exact g2 h h0 h1
    · rw [hf 35 (by decide), (seA_ok (f := f) (z := z) ⟨q.1, Int32.lt_of_lt_of_le q.2 h16⟩ hy).2.2.1 1 (by decide) (by decide)]; exact h13.1
    · rw [hf 35 (by decide), (seA_ok (f := f) (z := z) ⟨q.1, Int32.lt_of_lt_of_le q.2 h16⟩ hy).2.2.1 7 (by decide) (by decide)]; exact h13.2
set_option maxHeartbeats 4000000 in
theorem c_X6_set (hG : fl G = false) (hd : 20 ≤ d) (hw : WF (m 76)) (k : AnB jM 79 m K (seR (m 76) x y z) (PM (seA (m 76) x y z))) : Cal G mX6_set d [.ref 75, .int x, .int y, .int z] SH (TA t n i) m K := by
  obtain ⟨d, rfl⟩ : ∃ e, d = e + 1 := ⟨d - 1, by omega⟩
  have h16 := hw.1.1
  have bx : 0 ≤ x ∧ x < rd (m 76) 0 → 0 ≤ y ∧ y ≤ 2 → 0 ≤ 8 + 4 * x + y ∧ 8 + 4 * x + y < 502 := by
    intro q hy
    obtain ⟨x', kx, rfl⟩ := oN (N := 16) q.1 (Int32.lt_of_lt_of_le q.2 h16.2) (by decide)
    obtain ⟨y', ky, rfl⟩ := oN' (N := 2) hy.1 hy.2 (by decide)
    rw [show (8 : Int32) = Int32.ofNat 8 from rfl, show (4 : Int32) = Int32.ofNat 4 from rfl, o_mul, o_add, o_add]
    exact ⟨o_0 _ (by omega), (o_lt (b := 502) (by omega) (by decide)).mpr (by omega)⟩
  have E : ∀ {e : Nat} {w : Int32}, 20 ≤ e + 1 → ¬ (0 ≤ x ∧ x < rd (m 76) 0 ∧ (0 ≤ y ∧ y ≤ 2) ∧ 0 ≤ z ∧ z ≤ moS y) → Cal G mX6_error e [.ref 75, .int 1] SH (TA t n i) m (fun v1 m2 => ∃ r3, v1 = some (.int r3) ∧ K (some (.int r3)) m2) := by
    intro e w he hn
    refine c_X6_error hG (by omega) (by decide) ⟨_, rfl, k.no ?_ (by decide)⟩
    unfold seR
    split
    · split
      · split
        · rename_i a b c; exact absurd ⟨a.1, a.2, b, c⟩ hn
        · rfl
      · rfl
    · rfl
  have go : ∀ {e : Nat} (mo : Int32), 20 ≤ e + 1 → moS y = mo → Cal G mX6_isThing e [.ref 75, .int x] SH (TA t n i) m (fun v3 m4 => ∃ r5, v3 = some (.int r5) ∧ ((r5 = 0 → Cal G mX6_error e [.ref 75, .int 1] SH (TA t n i) m4 (fun v9 m10 => ∃ r11, v9 = some (.int r11) ∧ K (some (.int r11)) m10)) ∧ (¬ r5 = 0 → Cal G mX6_in e [.int y, .int 0, .int 2] SH (TA t n i) m4 (fun v13 m14 => ∃ r15, v13 = some (.int r15) ∧ ((r15 = 0 → Cal G mX6_error e [.ref 75, .int 1] SH (TA t n i) m14 (fun v18 m19 => ∃ r20, v18 = some (.int r20) ∧ K (some (.int r20)) m19)) ∧ (¬ r15 = 0 → Cal G mX6_in e [.int z, .int 0, .int mo] SH (TA t n i) m14 (fun v22 m23 => ∃ r24, v22 = some (.int r24) ∧ ((r24 = 0 → Cal G mX6_error e [.ref 75, .int 1] SH (TA t n i) m23 (fun v27 m28 => ∃ r29, v27 = some (.int r29) ∧ K (some (.int r29)) m28)) ∧ (¬ r24 = 0 → Cal G mX6_change1 e [.ref 75, .int ((8 + (4 * x)) + y), .int z] SH (TA t n i) m23 (fun v31 m32 => ∃ r33, v31 = some (.int r33) ∧ K (some (.int r33)) m32)))))))))) := by
    intro e mo he hmo
    refine c_X6_isThing hG (by omega) h16.1 h16.2 ⟨_, rfl, fun q => E (w := 0) he (fun o => b0 q ⟨o.1, o.2.1⟩), fun q => c_X6_in hG (by omega) ⟨_, rfl, fun q2 => E (w := 0) he (fun o => b0 q2 o.2.2.1), fun q2 => c_X6_in hG (by omega) ⟨_, rfl, fun q3 => E (w := 0) he (fun o => b0 q3 (by rw [← hmo]; exact o.2.2.2)), fun q3 => c_X6_change1 hG (by omega) (bx (b1 q) (b1 q2)) ⟨_, rfl, ?_⟩⟩⟩⟩
    have q3 := b1 q3
    rw [← hmo] at q3
    exact k.ok (Fr.s1 (by decide)) set1_eq (by rw [seR, if_pos (b1 q), if_pos (b1 q2), if_pos q3]; rfl)
  refine Cal.of (by decide +kernel) rfl (Nat.le_of_ble_eq_true rfl) (rg_X6_set_0 hG 75 x y z ⟨fun c => ⟨fun c2 => ⟨rfl, go 99 hd (by rw [moS, if_neg c, if_neg c2])⟩, fun c2 => ⟨rfl, go 9 hd (by rw [moS, if_neg c, if_pos c2])⟩⟩, fun c => ⟨rfl, go 6 hd (by rw [moS, if_pos c])⟩⟩)
end

