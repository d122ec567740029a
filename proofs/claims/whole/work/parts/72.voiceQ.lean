-- 72.voiceQ
def PF (b : Int32) (m m' : Mem) : Prop := Fr [75, 84] m m' ∧ (∀ j, j ≠ 15 → j ≠ 17 → m' 75 j = m 75 j) ∧ m' 75 17 = if b = 0 then 1 else 0
def AsP (G : Gm) (t n i : Nat) (nn : Int32) (f : Nat → Int32) (k : Int32) (r : Nat) (L : List Int32) (V : Int32 → Int32) : Prop := ∀ (e : Nat) (x : Int32) (m : Mem) (T : List Int32) (K : Option Value → Mem → Prop), r ≤ e → MC nn f m → mTr m T → T.length + L.length ≤ 30 → m 75 17 = 0 → (∀ m', PF (its f nn 1 - nn) m m' → mTr m' (T ++ L) → K (some (.int (V x))) m') → Cal G mX6_partsAs e [.ref 75, .int k, .int x] SH (TA t n i) m K
section
variable {G : Gm} {t n i : Nat} {nn : Int32} {f : Nat → Int32} {m : Mem} {K : Option Value → Mem → Prop}
set_option maxHeartbeats 4000000 in
theorem as_p0 (hG : fl G = false) (hn : 0 ≤ nn ∧ nn < 16) : AsP G t n i nn f 0 3 [13] (fun x => if its f nn 1 - nn = 0 then 0 else x / (its f nn 1 - nn)) := by
  intro e x m T K he hv ht hl _ kx
  obtain ⟨e, rfl⟩ : ∃ q, e = q + 1 := ⟨e - 1, by omega⟩
  have hl2 : T.length < 30 := by simp only [List.length_cons] at hl; omega
  refine Cal.of (by decide +kernel) rfl (Nat.le_of_ble_eq_true rfl) (rg_X6_partsAs_0 hG 75 0 x ⟨fun _ => ⟨rfl, c_X6_begins hG (by omega) ht hl2 (fun m1 h1 r1 => ⟨rfl, ?_⟩)⟩, fun q => absurd q (by decide), fun q _ => absurd rfl q⟩)
  refine c_X6_mNow hG (by omega) hn (hv.fr h1) ⟨_, rfl, ?_⟩
  rw [(hv.fr h1).1]
  have fin : ∀ w : Int32, w = (if its f nn 1 - nn = 0 then 1 else 0) → ∀ v, v = (if its f nn 1 - nn = 0 then 0 else x / (its f nn 1 - nn)) → K (some (.int v)) (up2 m1 75 17 w) := by
    intro w hw v hv'
    rw [hv']
    refine kx _ ⟨h1.1.tr (Fr.u2 (by decide)), fun j a b => ?_, ?_⟩ ⟨?_, fun j hj => ?_⟩
    · rw [up2_eq, if_neg b]; exact h1.2 j a
    · rw [up2_eq, if_pos rfl, hw]
    · rw [up2_eq, if_neg (by decide)]; exact r1.1
    · rw [up2_ne (by decide)]; exact r1.2 j hj
  refine ⟨fun c => ?_, fun c => ?_⟩
  · rintro _ rfl
    refine ⟨fun _ => ⟨fun _ => ⟨c, fin 0 (by rw [if_neg c]) _ (by rw [if_neg c])⟩, fun c2 => fin 0 (by rw [if_neg c]) _ (by rw [if_neg c, c2, div_m1])⟩, fun q => absurd q c⟩
  · rintro _ rfl
    exact ⟨fun q => absurd c q, fun _ => fin 1 (by rw [if_pos c]) _ (by rw [if_pos c])⟩
set_option maxHeartbeats 4000000 in
theorem as_p1 (hG : fl G = false) (hn : 0 ≤ nn ∧ nn < 16) (hk : 0 ≤ its f nn 0 ∧ its f nn 0 ≤ 6) : AsP G t n i nn f 1 14 (21 :: 13 :: (if its f nn 1 - nn = 0 then [] else rlT (its f nn 0) (its f nn 0))) (fun x => if its f nn 1 - nn = 0 then 0 else x / (its f nn 1 - nn) + rlV nn (its f nn 1) (its f nn 0) (its f nn 0) 1) := by
  intro e x m T K he hv ht hl h17 kx
  obtain ⟨e, rfl⟩ : ∃ q, e = q + 1 := ⟨e - 1, by omega⟩
  have hl2 : T.length < 30 := by simp only [List.length_cons] at hl; omega
  refine Cal.of (by decide +kernel) rfl (Nat.le_of_ble_eq_true rfl) (rg_X6_partsAs_0 hG 75 1 x ⟨fun q => absurd q (by decide), fun _ => ⟨rfl, c_X6_begins hG (by omega) ht hl2 (fun m1 h1 r1 => ⟨rfl, ?_⟩)⟩, fun _ q => absurd rfl q⟩)
  refine c_X6_above hG (by omega) ⟨_, rfl, ?_⟩
  have hl3 : T.length + ((if its f nn 1 - nn = 0 then [] else rlT (its f nn 0) (its f nn 0)).length + 1 + 1) ≤ 30 := by simpa using hl
  refine as_p0 hG hn e x m1 (T ++ [21]) _ (by omega) (hv.fr h1) r1 (by simp; omega) (by rw [h1.2 17 (by decide)]; exact h17) (fun m2 h2 r2 => ⟨_, rfl, fun c => ?_, fun c => ?_⟩)
  · have hb : ¬ its f nn 1 - nn = 0 := fun q => by rw [h2.2.2, if_pos q] at c; exact absurd c (by decide)
    have mc2 : MC nn f m2 := ⟨by rw [h2.2.1 16 (by decide) (by decide)]; exact (hv.fr h1).1, by rw [h2.1 76 (by decide)]; exact (hv.fr h1).2⟩
    rw [if_neg hb] at hl3
    refine c_X6_kindNow hG (by omega) hn mc2 ⟨_, rfl, asRolls hG hn hk hk e 1 m2 (T ++ [21] ++ [13]) _ (by omega) mc2 r2 (by simp; omega) (fun m3 h3 r3 => ⟨_, rfl, ?_⟩)⟩
    have := kx m3 ⟨h1.1.tr (h2.1.tr h3.1), fun j a b => by rw [h3.2 j a, h2.2.1 j a b, h1.2 j a], by rw [h3.2 17 (by decide)]; exact h2.2.2⟩ (by rw [if_neg hb]; simpa [List.append_assoc] using r3)
    simp only [if_neg hb] at this ⊢
    exact this
  · have hb : its f nn 1 - nn = 0 := Decidable.byContradiction fun q => c (by rw [h2.2.2, if_neg q])
    have := kx m2 ⟨h1.1.tr h2.1, fun j a b => by rw [h2.2.1 j a b, h1.2 j a], h2.2.2⟩ (by rw [if_pos hb]; simpa [List.append_assoc] using r2)
    simp only [if_pos hb] at this
    exact this
set_option maxHeartbeats 4000000 in
theorem as_pd {k k2 : Int32} {r : Nat} {L : List Int32} {V : Int32 → Int32} (hG : fl G = false) (hr : 1 ≤ r) (h0 : ¬ k = 0) (h1 : ¬ k = 1) (ea : (if k = 4 then (1 : Int32) else if k = 5 then 2 else 0) = k2) (h : AsP G t n i nn f k2 r L V) : AsP G t n i nn f k (r + 1) L V := by
  intro e x m T K he hv ht hl h17 kx
  obtain ⟨e, rfl⟩ : ∃ q, e = q + 1 := ⟨e - 1, by omega⟩
  refine Cal.of (by decide +kernel) rfl (Nat.le_of_ble_eq_true rfl) (rg_X6_partsAs_0 hG 75 k x ⟨fun q => absurd q h0, fun q => absurd q h1, fun _ _ => c_X6_above hG (by omega) ⟨_, rfl, rfl, ?_⟩⟩)
  rw [ea]
  exact h e x m T _ (by omega) hv ht hl h17 (fun m2 h2 r2 => ⟨_, rfl, kx m2 h2 r2⟩)
set_option maxHeartbeats 4000000 in
theorem AsP.mo {k : Int32} {r r2 : Nat} {L L2 : List Int32} {V V2 : Int32 → Int32} (h : AsP G t n i nn f k r L V) (hr : r ≤ r2) (eL : L = L2) (eV : ∀ x, V x = V2 x) : AsP G t n i nn f k r2 L2 V2 := by
  subst eL
  have : V = V2 := funext eV
  subst this
  intro e x m T K he hv ht hl h17 kx
  exact h e x m T K (by omega) hv ht hl h17 kx
set_option maxHeartbeats 4000000 in
theorem asParts (hG : fl G = false) (hn : 0 ≤ nn ∧ nn < 16) (hk : 0 ≤ its f nn 0 ∧ its f nn 0 ≤ 6) {k : Int32} (hkk : 0 ≤ k ∧ k ≤ 6) : AsP G t n i nn f k 16 (paT nn (its f nn 1) (its f nn 0) k) (paV nn (its f nn 1) (its f nn 0) k) := by
  have p0 := as_p0 (G := G) (t := t) (n := n) (i := i) (nn := nn) (f := f) hG hn
  have p1 := as_p1 (G := G) (t := t) (n := n) (i := i) (nn := nn) (f := f) hG hn hk
  have v0 : ∀ k : Int32, ¬ (k = 1 ∨ k = 4) → ∀ x, (if its f nn 1 - nn = 0 then (0 : Int32) else x / (its f nn 1 - nn)) = paV nn (its f nn 1) (its f nn 0) k x := by
    intro k h x
    rw [paV, if_neg h]
  have v1 : ∀ k : Int32, (k = 1 ∨ k = 4) → ∀ x, (if its f nn 1 - nn = 0 then (0 : Int32) else x / (its f nn 1 - nn) + rlV nn (its f nn 1) (its f nn 0) (its f nn 0) 1) = paV nn (its f nn 1) (its f nn 0) k x := by
    intro k h x
    rw [paV, if_pos h]
  rcases r06 hkk with rfl | rfl | rfl | rfl | rfl | rfl | rfl
  · exact p0.mo (by decide) (by rw [paT, if_neg (by decide)]) (v0 _ (by decide))
  · exact p1.mo (by decide) (if_pos (Or.inl rfl)).symm (v1 _ (by decide))
  · exact (as_pd hG (by decide) (by decide) (by decide) (by decide) p0).mo (by decide) (by rw [paT, if_neg (by decide)]) (v0 _ (by decide))
  · exact (as_pd hG (by decide) (by decide) (by decide) (by decide) p0).mo (by decide) (by rw [paT, if_neg (by decide)]) (v0 _ (by decide))
  · exact (as_pd hG (by decide) (by decide) (by decide) (by decide) p1).mo (by decide) (if_pos (Or.inr rfl)).symm (v1 _ (by decide))
  · exact (as_pd hG (by decide) (by decide) (by decide) (by decide) (as_pd (k := 2) hG (by decide) (by decide) (by decide) (by decide) p0)).mo (by decide) (by rw [paT, if_neg (by decide)]) (v0 _ (by decide))
  · exact (as_pd hG (by decide) (by decide) (by decide) (by decide) p0).mo (by decide) (by rw [paT, if_neg (by decide)]) (v0 _ (by decide))
set_option maxHeartbeats 4000000 in
theorem c_X6_voice (hG : fl G = false) {d : Nat} {x v y : Int32} (hd : 20 ≤ d) (hw : WF (m 76)) (k1 : 0 ≤ x ∧ x < rd (m 76) 0 → 0 ≤ v ∧ v ≤ 3 → ∀ m', Fr [75, 84] m m' → m' 75 3 = m 75 3 → mTr m' (voT x (its (m 76) x 1) (its (m 76) x 0) v) → Ans [] 79 m' K (voR (m 76) x v y)) (k2 : ¬ ((0 ≤ x ∧ x < rd (m 76) 0) ∧ 0 ≤ v ∧ v ≤ 3) → K (some (.int (-1000000001))) (set1 m 79 (wr (m 79) 1 (rd (m 79) 1 + 1)))) : Cal G mX6_voice d [.ref 75, .int x, .int v, .int y] SH (TA t n i) m K := by
  obtain ⟨d, rfl⟩ : ∃ e, d = e + 1 := ⟨d - 1, by omega⟩
  have h16 := hw.1.1
  refine Cal.of (by decide +kernel) rfl (Nat.le_of_ble_eq_true rfl) (rg_X6_voice_0 hG 75 x v y ⟨rfl, c_X6_isThing hG (by omega) h16.1 h16.2 ⟨_, rfl, fun q => ?_, fun q => ?_⟩⟩)
  · exact c_X6_error hG (by omega) (by decide) ⟨_, rfl, k2 (fun o => b0 q o.1)⟩
  · have q := b1 q
    refine c_X6_in hG (by omega) ⟨_, rfl, fun q2 => ?_, fun q2 => c_X6_error hG (by omega) (by decide) ⟨_, rfl, k2 (fun o => b0 q2 o.2)⟩⟩
    have hv := b1 q2
    have kk := k1 q hv
    have hn : 0 ≤ x ∧ x < 16 := ⟨q.1, Int32.lt_of_lt_of_le q.2 h16.2⟩
    have hk := (hw.1.2 x q.1 q.2).1
    rintro _ rfl _ rfl _ rfl
    generalize hM : up2 (up2 (up2 m 75 15 0) 75 16 x) 75 17 0 = M
    have f0 : Fr [75, 84] m M := by rw [← hM]; exact ((Fr.u2 (by decide)).tr (Fr.u2 (by decide))).tr (Fr.u2 (by decide))
    have a3 : M 75 3 = m 75 3 := by rw [← hM, up2_eq, if_neg (by decide), up2_eq, if_neg (by decide), up2_eq, if_neg (by decide)]
    have a17 : M 75 17 = 0 := by rw [← hM, up2_eq, if_pos rfl]
    have mc : MC x (m 76) M := ⟨by rw [← hM, up2_eq, if_neg (by decide), up2_eq, if_pos rfl], f0 76 (by decide)⟩
    have mt : mTr M [] := ⟨by rw [← hM, up2_eq, if_neg (by decide), up2_eq, if_neg (by decide), up2_eq, if_pos rfl]; rfl, fun j hj => absurd hj (by simp)⟩
    have fin : ∀ (m1 : Mem), Fr [75, 84] M m1 → m1 75 3 = M 75 3 → m1 75 17 = voP x (its (m 76) x 1) v → mTr m1 (voT x (its (m 76) x 1) (its (m 76) x 0) v) → (((m1 75 17) = 0 → K (some (.int (voV x (its (m 76) x 1) (its (m 76) x 0) v y))) m1) ∧ (¬ (m1 75 17) = 0 → Cal G mX6_error d [.ref 75, .int 6] SH (TA t n i) m1 (fun v31 m32 => ∃ r33, v31 = some (.int r33) ∧ K (some (.int r33)) m32))) := by
      intro m1 f1 h3 h17 hr
      have kq := kk m1 (f0.tr f1) (by rw [h3, a3]) hr
      rw [h17]
      unfold voR at kq
      refine ⟨fun c => ?_, fun c => ?_⟩
      · rw [if_pos c] at kq; exact kq.ok Fr.rf rfl
      · rw [if_neg c] at kq
        exact c_X6_error hG (by omega) (by decide) ⟨_, rfl, kq.no Fr.rf rfl (by decide)⟩
    have fin2 : ∀ (m1 : Mem), MF M m1 → ¬ v = 3 → mTr m1 (voT x (its (m 76) x 1) (its (m 76) x 0) v) → (((m1 75 17) = 0 → K (some (.int (voV x (its (m 76) x 1) (its (m 76) x 0) v y))) m1) ∧ (¬ (m1 75 17) = 0 → Cal G mX6_error d [.ref 75, .int 6] SH (TA t n i) m1 (fun v31 m32 => ∃ r33, v31 = some (.int r33) ∧ K (some (.int r33)) m32))) := by
      intro m1 h1 h3 hr
      exact fin m1 h1.1 (h1.2 3 (by decide)) (by rw [h1.2 17 (by decide), a17, voP, if_neg h3]) hr
    refine c_X6_kindNow hG (by omega) hn mc ⟨_, rfl, ?_⟩
    rcases r03 hv.1 hv.2 with rfl | rfl | rfl | rfl
    · exact ⟨fun q => absurd rfl q, fun _ => asLies hG hk d y M [] _ (by omega) mc mt (by have := lzT_n (its (m 76) x 0); simp; omega) (fun m1 h1 hr => ⟨_, rfl, fin2 m1 h1 (by decide) hr⟩)⟩
    · exact ⟨fun _ => ⟨fun q => absurd rfl q, fun _ => asRolls hG hn hk hk d y M [] _ (by omega) mc mt (by have := rlT_n (its (m 76) x 0) (its (m 76) x 0); simp; omega) (fun m1 h1 hr => ⟨_, rfl, fin2 m1 h1 (by decide) hr⟩)⟩, fun q => absurd q (by decide)⟩
    · exact ⟨fun _ => ⟨fun _ => ⟨fun q => absurd rfl q, fun _ => asFalls hG hn hk hk d y M [] _ (by omega) mc mt (by have := faT_n (its (m 76) x 0) (its (m 76) x 0); simp; omega) (fun m1 h1 hr => ⟨_, rfl, fin2 m1 h1 (by decide) hr⟩)⟩, fun q => absurd q (by decide)⟩, fun q => absurd q (by decide)⟩
    · exact ⟨fun _ => ⟨fun _ => ⟨fun _ => asParts hG hn hk hk d y M [] _ (by omega) mc mt (by have := paT_n x (its (m 76) x 1) (its (m 76) x 0) (its (m 76) x 0); simp; omega) a17 (fun m1 h1 hr => ⟨_, rfl, fin m1 h1.1 (h1.2.1 3 (by decide) (by decide)) (by rw [h1.2.2, voP, if_pos rfl]) hr⟩), fun q => absurd q (by decide)⟩, fun q => absurd q (by decide)⟩, fun q => absurd q (by decide)⟩
set_option maxHeartbeats 4000000 in
theorem J_voice (hG : fl G = false) {d : Nat} {x v y : Int32} (hd : 20 ≤ d) (hV : jV m) : JJ G d t n i mX5_voice mX6_voice [.int x, .int v, .int y] m := by
  have hV' := hV
  obtain ⟨⟨⟨hb, ht, hw⟩, h13, hta, hwa⟩, hK, hS, hE, hT⟩ := hV
  refine c_X5_voice hG hd hb hw (fun q1 q2 m1 hf1 hr1 => ?_) (fun h => ⟨_, rfl, c_X6_voice hG hd (by rw [set1_ne (by decide)]; exact hw) (fun a b => absurd ⟨by rw [set1_ne (by decide)] at a; exact a, b⟩ h) (fun _ => ⟨rfl, ?_⟩)⟩)
  · have nl := voT_n x (its (m 76) x 1) (its (m 76) x 0) v
    have key : ∀ (m2 m3 : Mem), Fr [34] m1 m2 → Fr [75, 84] m2 m3 → m3 75 3 = m2 75 3 → mTr m3 (voT x (its (m 76) x 1) (its (m 76) x 0) v) → ∀ m4, Fr [79] m3 m4 → jE m4 → jV m4 := by
      intro m2 m3 f2 f3 h3 hr3 m4 f4 hE4
      have ff : Fr [20, 21, 22, 34, 75, 84, 79] m m4 := (hf1.mo (by simp)).tr ((f2.mo (by simp)).tr ((f3.mo (by simp)).tr (f4.mo (by simp))))
      have e75 : m4 75 3 = m 75 3 := by rw [f4 75 (by decide), h3, f2 75 (by decide), hf1 75 (by decide)]
      refine ⟨hV'.1.fr ff (by decide), hK.fr ff e75 (by decide), hS.fr ff (by decide), hE4, ?_⟩
      refine ⟨(voT x (its (m 76) x 1) (its (m 76) x 0) v).length, by omega, ?_, ?_, fun j hj => ?_⟩
      · rw [f4 75 (by decide)]; exact hr3.1
      · rw [f4 21 (by decide), f3 21 (by decide), f2 21 (by decide)]; exact hr1.1
      · rw [f4 22 (by decide), f3 22 (by decide), f2 22 (by decide), f4 84 (by decide), hr3.2 j hj, hr1.2 j hj]
    have e76 : ∀ m2, Fr [34] m1 m2 → m2 76 = m 76 := fun m2 f2 => by rw [f2 76 (by decide), hf1 76 (by decide)]
    refine ⟨fun e m2 f2 => ⟨_, rfl, ?_⟩, fun ne m2 f2 => ⟨_, rfl, ?_⟩⟩
    · have f2' : Fr [34] m1 m2 := f2.mo (by simp)
      refine c_X6_voice hG hd (by rw [e76 m2 f2']; exact hw) (fun a b m3 f3 h3 hr3 => ?_) (fun h => absurd ⟨by rw [e76 m2 f2']; exact q1, q2⟩ h)
      rw [e76 m2 f2'] at hr3 ⊢
      refine ⟨fun _ m4 f4 => ⟨rfl, key m2 m3 f2' f3 h3 hr3 m4 (f4.mo (by simp)) ?_⟩, fun ne => absurd e ne⟩
      have ff : Fr [20, 21, 22, 75, 84] m m4 := (hf1.mo (by simp)).tr ((f2.mo (by simp)).tr ((f3.mo (by simp)).tr (f4.mo (by simp))))
      exact hE.fr ff (by decide) (by decide)
    · have f2' : Fr [34] m1 (set1 m2 34 (wr (m2 34) (voR (m 76) x v y).1 (rd (m2 34) (voR (m 76) x v y).1 + 1))) := (f2.mo (by simp)).tr (Fr.s1 (by simp))
      have hR : (voR (m 76) x v y).1 = 0 ∨ (1 ≤ (voR (m 76) x v y).1 ∧ (voR (m 76) x v y).1 ≤ 6) := by
        unfold voR
        split
        · exact Or.inl rfl
        · exact Or.inr (by decide)
      have m2e : Fr [20, 21, 22] m m2 := hf1.tr (f2.mo (by simp))
      generalize hm : set1 m2 34 (wr (m2 34) (voR (m 76) x v y).1 (rd (m2 34) (voR (m 76) x v y).1 + 1)) = m2' at *
      refine c_X6_voice hG hd (by rw [e76 m2' f2']; exact hw) (fun a b m3 f3 h3 hr3 => ?_) (fun h => absurd ⟨by rw [e76 m2' f2']; exact q1, q2⟩ h)
      rw [e76 m2' f2'] at hr3 ⊢
      refine ⟨fun e => absurd e ne, fun _ m4 f4 => ⟨rfl, key m2' m3 f2' f3 h3 hr3 _ ((f4.mo (by simp)).tr (Fr.s1 (by simp))) ?_⟩⟩
      refine jE.e2 (m1 := m2) hE (hR.resolve_left ne) (m2e 34 (by decide)) ?_ ?_
      · rw [f4 34 (by simp), f3 34 (by decide), ← hm, set1_eq]
      · rw [f4 79 (by simp), f3 79 (by decide), ← hm, set1_ne (by decide), m2e 79 (by decide)]
  · exact hV'.e2 (by decide) Fr.rf Fr.rf (by rw [set1_ne (by decide)]) (by rw [set1_ne (by decide)])
end

