-- 66.sheet
def jSC : List Nat := [24, 25, 26, 27, 28, 29, 30, 31, 32]
def bOK (b : Int32) : Prop := b = 0 ∨ b = 8 ∨ b = 16 ∨ b = 32
set_option maxHeartbeats 4000000 in
theorem JJ.sht {G : Gm} {d t n i : Nat} {y1 y2 : Mi} {as : List Value} {m : Mem} {R : Int32 × Int32} {g z u : Nat → Int32} (hV : jV m) (hR : R.1 = 0 ∨ (1 ≤ R.1 ∧ R.1 ≤ 6)) (hg : R.1 = 0 → ShZ z ∧ ∀ x, x < 4 → bOK (g x)) (h1 : ∀ K, AnB jSC 34 m K R (fun m' => ShC m' g z u) → Cal G y1 d (.ref 0 :: as) SH (TA t n i) m K) (h2 : ∀ m1 K, (∀ a, 75 ≤ a → m1 a = m a) → AnB [85, 86, 87, 88] 79 m1 K R (fun m' => m' 85 = g ∧ m' 86 = z ∧ m' 87 = u) → Cal G y2 d (.ref 75 :: as) SH (TA t n i) m1 K) : JJ G d t n i y1 y2 as m := by
  have hi : ∀ {m1 : Mem}, Fr jSC m m1 → ∀ a, 75 ≤ a → m1 a = m a := fun h a ha => h a (fun q => by
    have : ∀ x ∈ jSC, x < 75 := by decide
    have := this a q
    omega)
  refine h1 _ ⟨fun e m1 hf hp => ⟨_, rfl, h2 m1 _ (hi hf) ⟨fun _ m2 hf2 hp2 => ⟨rfl, ?_⟩, fun ne => absurd e ne⟩⟩, fun ne => ⟨_, rfl, h2 _ _ (fun a ha => by rw [set1_ne (by omega)]) ⟨fun e => absurd e ne, fun _ => ⟨rfl, ?_⟩⟩⟩⟩
  · obtain ⟨g1, g2⟩ := hg e
    have hff : Fr (jSC ++ [85, 86, 87, 88]) m m2 := (hf.mo (fun a q => List.mem_append_left _ q)).tr (hf2.mo (fun a q => List.mem_append_right _ q))
    have e75 : m2 75 = m 75 := hff 75 (by decide)
    refine ⟨hV.1.fr hff (by decide), hV.2.1.fr hff (by rw [e75]) (by decide), ?_, hV.2.2.2.1.fr hff (by decide) (by decide), hV.2.2.2.2.fr hff (by rw [e75]) (by decide)⟩
    obtain ⟨p1, p2, p3⟩ := hp2
    unfold jS
    rw [p1, p2, p3]
    refine ⟨fun x hx => ?_, g1, g2⟩
    have := hp x hx
    rw [hf2 32 (by decide), hf2 (24 + 2 * x) (by simp; omega), hf2 (24 + 2 * x + 1) (by simp; omega)]
    exact this
  · exact hV.e2 (hR.resolve_left ne) Fr.rf Fr.rf (by rw [set1_ne (by decide)]) (by rw [set1_ne (by decide)])
set_option maxHeartbeats 4000000 in
theorem ShC.up {m m' : Mem} {g z u g' z' u' : Nat → Int32} {xx : Nat} (h : ShC m g z u) (hx : xx < 4) (hf : Fr [32, 24 + 2 * xx, 24 + 2 * xx + 1] m m') (eg : ∀ x, x < 4 → x ≠ xx → g' x = g x ∧ z' x = z x ∧ m' 32 x = m 32 x ∧ ∀ j, j < 24 → u' (24 * x + j) = u (24 * x + j)) (e1 : m' 32 xx = g' xx ∧ m' (24 + 2 * xx) 1 = z' xx ∧ ∀ j, Int32.ofNat j < z' xx → j < 24 → m' (24 + 2 * xx + 1) j = u' (24 * xx + j)) : ShC m' g' z' u' := by
  intro x hx4
  by_cases e : x = xx
  · rw [e]; exact e1
  · obtain ⟨a, b, c, dd⟩ := eg x hx4 e
    obtain ⟨h1, h2, h3⟩ := h x hx4
    rw [a, b, c, hf (24 + 2 * x) (by simp; omega), hf (24 + 2 * x + 1) (by simp; omega)]
    exact ⟨h1, h2, fun j j0 j1 => by rw [h3 j j0 j1, dd j j1]⟩
def shN (b n : Int32) : Int32 := if b = 0 then 0 else n
def shR (x b n : Int32) : Int32 × Int32 := if 0 ≤ x ∧ x ≤ 3 then if b = 0 ∨ b = 8 ∨ b = 16 ∨ b = 32 then if b = 0 then (0, 1) else if 0 ≤ n then if n ≤ 24 then (0, 1) else (1, 0) else (3, 0) else (1, 0) else (1, 0)
section
variable {G : Gm} {d t n i : Nat} {m : Mem} {K : Option Value → Mem → Prop} {f g z u : Nat → Int32} {x y b c : Int32}
set_option maxHeartbeats 4000000 in
theorem c_X5_sheet (hG : fl G = false) (hd : 20 ≤ d) (hs : ShC m g z u) (k : AnB jSC 34 m K (shR x b c) (fun m' => ShC m' (wr g x b) (wr z x (shN b c)) (cpN u (fun _ => 0) (24 * x.toNatClampNeg) 0 24))) : Cal G mX5_sheet d [.ref 0, .int x, .int b, .int c] SH (TA t n i) m K := by
  obtain ⟨d, rfl⟩ : ∃ e, d = e + 1 := ⟨d - 1, by omega⟩
  refine Cal.of (by decide +kernel) rfl (Nat.le_of_ble_eq_true rfl) (rg_X5_sheet_0 hG 0 x b c (c_X5_isSheet hG (by omega) ⟨_, rfl, fun q => ⟨rfl, c_X5_refuse hG (by omega) (by decide) ⟨_, rfl, k.no (by rw [shR, if_neg (b0 q)]) (by decide)⟩⟩, fun q => ?_⟩))
  have hx := b1 q
  rw [shR, if_pos hx] at k
  obtain ⟨xx, h4, rfl⟩ := oN' (N := 3) hx.1 hx.2 (by decide)
  have h4 : xx < 4 := by omega
  obtain ⟨r1, r2, r3, r4⟩ := rowS (t := t) (n := n) (i := i) xx h4
  rw [tn_o (by omega), wr_o (by omega), wr_o (by omega)] at k
  have upok : ∀ (M : Mem) (N : Nat), N ≤ 24 → shN b c = Int32.ofNat N → (b = 0 ∨ b = 8 ∨ b = 16 ∨ b = 32) → (b ≠ 0 → 0 ≤ c ∧ c ≤ 24) → Fr [32, 24 + 2 * xx, 24 + 2 * xx + 1] m M → (∀ y, M 32 y = if y = xx then b else m 32 y) → M (24 + 2 * xx) 1 = Int32.ofNat N → (∀ j, j < N → M (24 + 2 * xx + 1) j = 0) → K (some (.int 1)) M := by
    intro M N hN eN hb hc hf m32 mz mu
    have L4 : ∀ a ∈ [32, 24 + 2 * xx, 24 + 2 * xx + 1], a ∈ jSC := by
      intro a ha
      simp only [List.mem_cons, List.mem_nil_iff, or_false] at ha
      rcases (show xx = 0 ∨ xx = 1 ∨ xx = 2 ∨ xx = 3 by omega) with rfl | rfl | rfl | rfl <;> rcases ha with rfl | rfl | rfl <;> decide
    refine k.ok (hf.mo L4) ?_ ?_
    · refine hs.up h4 hf (fun y hy hne => ⟨if_neg hne, if_neg hne, by rw [m32, if_neg hne], fun j hj => ?_⟩) ⟨?_, ?_, fun j j0 j1 => ?_⟩
      · rw [cpN, if_neg (by omega)]
      · rw [m32, if_pos rfl]; exact (if_pos rfl).symm
      · rw [mz]
        show _ = if xx = xx then _ else _
        rw [if_pos rfl, eN]
      · have j0 : Int32.ofNat j < (if xx = xx then shN b c else z xx) := j0
        rw [if_pos rfl, eN] at j0
        rw [mu j ((o_lt (by omega) (by omega)).mp j0), cpN, if_pos (by omega)]
    · rw [if_pos hb]
      by_cases hb0 : b = 0
      · rw [if_pos hb0]
      · rw [if_neg hb0, if_pos (hc hb0).1, if_pos (hc hb0).2]
  have main : (b = 0 ∨ b = 8 ∨ b = 16 ∨ b = 32) → (b ≠ 0 → 0 ≤ c ∧ c ≤ 24) → WP G (rmD (d + 1) 0 0) mX5_sheet (QC G SH (TA t n i) K) 0 0 84 [(0, .ref 0), (1, .int (Int32.ofNat xx)), (2, .int b), (3, .int c), (4, .int 0)] [] (SH, TA t n i, up2 (upa m 32 (Int32.ofNat xx) b) (24 + 2 * xx) 1 0) := by
    intro hb hc
    have e32 : ∀ (M : Mem), Fr [24 + 2 * xx, 24 + 2 * xx + 1] (up2 (upa m 32 (Int32.ofNat xx) b) (24 + 2 * xx) 1 0) M → Fr [32, 24 + 2 * xx, 24 + 2 * xx + 1] m M ∧ ∀ y, M 32 y = if y = xx then b else m 32 y := by
      intro M hf
      refine ⟨((Fr.ua (by simp)).tr (Fr.u2 (by simp))).tr (hf.mo (by simp)), fun y => ?_⟩
      rw [hf 32 (by simp; omega), up2_ne (by omega), upa_eq, wr_o (by omega)]
    by_cases hb0 : b = 0
    · refine rg_X5_sheet_84 hG 0 _ b c 0 ⟨fun _ => ?_, fun h => absurd hb0 h⟩
      obtain ⟨f1, f2⟩ := e32 _ Fr.rf
      exact upok _ 0 (by omega) (by rw [shN, if_pos hb0]; rfl) hb hc f1 f2 (by rw [up2_eq, if_pos rfl]; rfl) (fun j hj => absurd hj (by omega))
    · obtain ⟨N, hN, rfl⟩ := oN' (N := 24) (hc hb0).1 (hc hb0).2 (by decide)
      have loop : ∀ (e j : Nat), j + e = N → ∀ (M : Mem), Fr [24 + 2 * xx, 24 + 2 * xx + 1] (up2 (upa m 32 (Int32.ofNat xx) b) (24 + 2 * xx) 1 0) M → M (24 + 2 * xx) 1 = Int32.ofNat j → (∀ l, l < j → M (24 + 2 * xx + 1) l = 0) → WP G (rmD (d + 1) 0 0) mX5_sheet (QC G SH (TA t n i) K) 0 0 84 [(0, .ref 0), (1, .int (Int32.ofNat xx)), (2, .int b), (3, .int (Int32.ofNat N)), (4, .int (Int32.ofNat j))] [] (SH, TA t n i, M) := by
        intro e
        induction e with
        | zero =>
          intro j hj M hf ez eu
          refine rg_X5_sheet_84 hG 0 _ b _ _ ⟨fun h => absurd h hb0, fun _ => ⟨fun _ => ?_, fun o => absurd ?_ o⟩⟩
          · obtain ⟨f1, f2⟩ := e32 M hf
            have : j = N := by omega
            subst this
            exact upok M j (by omega) (by rw [shN, if_neg hb0]) hb hc f1 f2 ez eu
          · rw [o_le (by omega) (by omega)]; omega
        | succ e ih =>
          intro j hj M hf ez eu
          refine rg_X5_sheet_84 hG 0 _ b _ _ ⟨fun h => absurd h hb0, fun _ => ⟨fun o => ?_, fun _ => ⟨rfl, 23, rfl, 4, rfl, ib_o h4 (by decide), 24 + 2 * xx, by rw [tn_o (by omega)]; exact r4, r1, c_X2_add hG (by omega) r1 r2 r3 (by decide) (by rw [ez]; exact o_0 j (by omega)) ⟨rfl, ?_⟩⟩⟩⟩
          · rw [o_le (by omega) (by omega)] at o; omega
          rw [ez, if_pos ((o_lt (by omega) (by omega)).mpr (by omega)), o_1]
          refine ih (j + 1) (by omega) _ (hf.tr ((Fr.ua (by simp)).tr (Fr.u2 (by simp)))) (by rw [up2_eq, if_pos rfl]) (fun l hl => ?_)
          rw [up2_ne (by omega), upa_eq, wr_o (by omega)]
          show (if l = j then (0 : Int32) else _) = 0
          by_cases e : l = j
          · rw [if_pos e]
          · rw [if_neg e]; exact eu l (by omega)
      refine loop N 0 (by omega) _ Fr.rf (by rw [up2_eq, if_pos rfl]; rfl) (fun l hl => absurd hl (by omega))
  refine ⟨fun e => ?_, fun e0 => ⟨fun e => ?_, fun e8 => ⟨fun e => ?_, fun e16 => ⟨fun e => ?_, fun e32 => ⟨rfl, c_X5_refuse hG (by omega) (by decide) ⟨_, rfl, k.no (by rw [if_neg (fun o => o.elim e0 (fun o => o.elim e8 (fun o => o.elim e16 e32)))]) (by decide)⟩⟩⟩⟩⟩⟩
  · refine ⟨fun _ => ⟨fun _ => ⟨rfl, 32, rfl, 4, rfl, ib_o h4 (by decide), ?_⟩, fun o => absurd e o⟩, fun o => absurd e o⟩
    rintro _ rfl
    exact ⟨23, rfl, 4, rfl, ib_o h4 (by decide), 24 + 2 * xx, by rw [tn_o (by omega)]; exact r4, r1, c_X2_clear hG (by omega) r1 ⟨rfl, main (Or.inl e) (fun o => absurd e o)⟩⟩
  all_goals
    have hbb : b = 0 ∨ b = 8 ∨ b = 16 ∨ b = 32 := by first | exact Or.inr (Or.inl e) | exact Or.inr (Or.inr (Or.inl e)) | exact Or.inr (Or.inr (Or.inr e))
    rw [if_pos hbb, if_neg e0] at k
    refine ⟨fun o => absurd o e0, fun _ => ⟨fun h => ⟨fun o => absurd o e0, fun _ => ⟨fun h2 => ⟨rfl, 32, rfl, 4, rfl, ib_o h4 (by decide), ?_⟩, fun h2 => ⟨rfl, c_X5_refuse hG (by omega) (by decide) ⟨_, rfl, k.no (by rw [if_pos h, if_neg h2]) (by decide)⟩⟩⟩⟩, fun h => ⟨rfl, c_X5_refuse hG (by omega) (by decide) ⟨_, rfl, k.no (by rw [if_neg h]) (by decide)⟩⟩⟩⟩
    rintro _ rfl
    exact ⟨23, rfl, 4, rfl, ib_o h4 (by decide), 24 + 2 * xx, by rw [tn_o (by omega)]; exact r4, r1, c_X2_clear hG (by omega) r1 ⟨rfl, main hbb (fun _ => ⟨h, h2⟩)⟩⟩
set_option maxHeartbeats 4000000 in
theorem c_X6_sheet (hG : fl G = false) (hd : 20 ≤ d) (k : AnB [85, 86, 87, 88] 79 m K (shR x b c) (fun m' => m' 85 = wr (m 85) x b ∧ m' 86 = wr (m 86) x (shN b c) ∧ m' 87 = cpN (m 87) (fun _ => 0) (24 * x.toNatClampNeg) 0 24)) : Cal G mX6_sheet d [.ref 75, .int x, .int b, .int c] SH (TA t n i) m K := by
  obtain ⟨d, rfl⟩ : ∃ e, d = e + 1 := ⟨d - 1, by omega⟩
  refine Cal.of (by decide +kernel) rfl (Nat.le_of_ble_eq_true rfl) (rg_X6_sheet_0 hG 75 x b c (c_X6_isSheet hG (by omega) ⟨_, rfl, fun q => ⟨rfl, c_X6_error hG (by omega) (by decide) ⟨_, rfl, k.no (by rw [shR, if_neg (b0 q)]) (by decide)⟩⟩, fun q => ?_⟩))
  have hx := b1 q
  rw [shR, if_pos hx] at k
  obtain ⟨xx, h4, rfl⟩ := oN' (N := 3) hx.1 hx.2 (by decide)
  have h4 : xx < 4 := by omega
  rw [tn_o (by omega)] at k
  have main : (b = 0 ∨ b = 8 ∨ b = 16 ∨ b = 32) → (b ≠ 0 → 0 ≤ c ∧ c ≤ 24) → ∀ v, v = shN b c → WP G (rmD (d + 1) 0 0) mX6_sheet (QC G SH (TA t n i) K) 0 0 90 [(0, .ref 75), (1, .int (Int32.ofNat xx)), (4, .int 0)] [] (SH, TA t n i, upa (upa m 85 (Int32.ofNat xx) b) 86 (Int32.ofNat xx) v) := by
    intro hb hc v hv
    subst hv
    have hR : (if b = 0 ∨ b = 8 ∨ b = 16 ∨ b = 32 then if b = 0 then ((0, 1) : Int32 × Int32) else if 0 ≤ c then if c ≤ 24 then (0, 1) else (1, 0) else (3, 0) else (1, 0)) = (0, 1) := by
      rw [if_pos hb]
      by_cases hb0 : b = 0
      · rw [if_pos hb0]
      · rw [if_neg hb0, if_pos (hc hb0).1, if_pos (hc hb0).2]
    generalize hM : upa (upa m 85 (Int32.ofNat xx) b) 86 (Int32.ofNat xx) (shN b c) = M
    have f0 : Fr [85, 86] m M := by rw [← hM]; exact (Fr.ua (by decide)).tr (Fr.ua (by decide))
    have loop : ∀ (e j : Nat), j + e = 24 → WP G (rmD (d + 1) 0 0) mX6_sheet (QC G SH (TA t n i) K) 0 0 90 [(0, .ref 75), (1, .int (Int32.ofNat xx)), (4, .int (Int32.ofNat j))] [] (SH, TA t n i, set1 M 87 (cpN (m 87) (fun _ => 0) (24 * xx) 0 j)) := by
      intro e
      induction e with
      | zero =>
        intro j hj
        have : j = 24 := by omega
        subst this
        refine rg_X6_sheet_90 hG 75 _ _ ⟨fun _ => k.ok ((f0.mo (by simp)).tr (Fr.s1 (by decide))) ⟨?_, ?_, set1_eq⟩ hR, fun o => absurd (Int32.le_refl _) o⟩
        · rw [set1_ne (by decide), ← hM, upa_ne (by decide), upa_eq]
        · rw [set1_ne (by decide), ← hM, upa_eq, upa_ne (by decide)]
      | succ e ih =>
        intro j hj
        refine rg_X6_sheet_90 hG 75 _ _ ⟨fun o => ?_, fun _ => ⟨rfl, 87, rfl, 96, rfl, ?_⟩⟩
        · have := (o_le (a := 24) (by decide) (by omega)).mp o; omega
        rw [e24]
        refine ⟨ib_o (by omega) (by decide), ?_⟩
        rintro _ rfl
        have e2 := cpN_s (g := m 87) (h := fun _ => 0) (dp := 24 * xx) (sp := 0) (k := j) (by omega)
        rw [upa_set, set1_eq, set1_set, e2, o_1]
        exact ih (j + 1) (by omega)
    have := loop 24 0 rfl
    rw [cpN_0, ← f0 87 (by decide), set1_self] at this
    exact this
  have ib := ib_o h4 (by decide : 4 < 2147483648)
  refine ⟨fun e => ?_, fun e0 => ⟨fun e => ?_, fun e8 => ⟨fun e => ?_, fun e16 => ⟨fun e => ?_, fun e32 => ⟨rfl, c_X6_error hG (by omega) (by decide) ⟨_, rfl, k.no (by rw [if_neg (fun o => o.elim e0 (fun o => o.elim e8 (fun o => o.elim e16 e32)))]) (by decide)⟩⟩⟩⟩⟩⟩
  · refine ⟨fun _ => ⟨fun _ => ⟨rfl, 85, rfl, 4, rfl, ib, ?_⟩, fun o => absurd e o⟩, fun o => absurd e o⟩
    rintro _ rfl
    refine ⟨86, rfl, fun o => absurd e o, fun _ => ⟨4, rfl, ib, ?_⟩⟩
    rintro _ rfl
    exact main (Or.inl e) (fun o => absurd e o) 0 (by rw [shN, if_pos e])
  all_goals
    have hbb : b = 0 ∨ b = 8 ∨ b = 16 ∨ b = 32 := by first | exact Or.inr (Or.inl e) | exact Or.inr (Or.inr (Or.inl e)) | exact Or.inr (Or.inr (Or.inr e))
    have kk := k
    rw [if_pos hbb, if_neg e0] at kk
    refine ⟨fun o => absurd o e0, fun _ => ⟨fun h => ⟨fun o => absurd o e0, fun _ => ⟨fun h2 => ⟨rfl, 85, rfl, 4, rfl, ib, ?_⟩, fun h2 => ⟨rfl, c_X6_error hG (by omega) (by decide) ⟨_, rfl, kk.no (by rw [if_pos h, if_neg h2]) (by decide)⟩⟩⟩⟩, fun h => ⟨rfl, c_X6_error hG (by omega) (by decide) ⟨_, rfl, kk.no (by rw [if_neg h]) (by decide)⟩⟩⟩⟩
    rintro _ rfl
    refine ⟨86, rfl, fun _ => ⟨4, rfl, ib, ?_⟩, fun o => absurd o e0⟩
    rintro _ rfl
    exact main hbb (fun _ => ⟨h, h2⟩) c (by rw [shN, if_neg e0])
end

