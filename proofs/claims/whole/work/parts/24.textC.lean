def TXo (sh : List Shp) (ta : Nat → Nat → Option Nat) (b : Nat) : Prop := sh[b]? = some (.inl 3) ∧ ta b 0 = some (b + 1) ∧ ta b 1 = some (b + 3) ∧ sh[b + 1]? = some (.inl 2) ∧ ta (b + 1) 0 = some (b + 2) ∧ sh[b + 2]? = some (.inr (0, 60)) ∧ sh[b + 3]? = some (.inr (0, 60))
def plc (u v : Int32) : Int32 := if u = 0 then (if v = 109 then -1 else if v = 111 then -2 else if v = 117 then -3 else -4) else (if v = 119 then -1 else if v = 107 then -2 else -3)
def enc (u w v : Int32) : Int32 := if w = 0 then v else if w = 1 then plc u v else if w = 2 then -33 else -v
def nmC (u a b c d v : Int32) : Int32 := if u = 0 then (if v = 109 then a else if v = 111 then b else if v = 117 then c else d) else (if v = 119 then a else if v = 107 then b else c)
def TR (m : Mem) (b : Nat) (u : Int32) (wh va : Nat → Int32) (N : Nat) : Prop := m (b + 1) 1 = Int32.ofNat N ∧ ∀ k, k < N → rd (m (b + 2)) (Int32.ofNat k) = enc u (wh k) (va k)
def VS (m : Mem) (b : Nat) (E : List Int32) : Prop := m b 2 = Int32.ofNat E.length ∧ PSt E (m (b + 3))
section
variable {G : Gm} {d : Nat} {sh : List Shp} {ta : Nat → Nat → Option Nat} {m : Mem} {K : Option Value → Mem → Prop}
theorem c_X3_push (hG : fl G = false) (hd : 1 ≤ d) {b : Nat} {x : Int32} {E : List Int32} (h1 : TXo sh ta b) (h2 : VS m b E) (h3 : E.length < 60) (k : ∀ m', Fr [b, b + 3] m m' → VS m' b (x :: E) → K none m') : Cal G mX3_push d [.ref b, .int x] sh ta m K := by
  obtain ⟨a1, a2, a3, a4, a5, a6, a7⟩ := h1
  obtain ⟨v1, v2⟩ := h2
  obtain ⟨d, rfl⟩ : ∃ e, d = e + 1 := ⟨d - 1, by omega⟩
  refine Cal.of (by decide +kernel) rfl (Nat.le_of_ble_eq_true rfl) (rg_X3_push_0 hG b x ?_)
  refine ⟨a1, _, a3, _, a7, fun c => ?_, fun _ => ⟨by rw [v1]; exact ib_o h3 (by decide), ?_⟩⟩
  · exfalso
    rw [v1, o_le (by omega) (by omega)] at c
    omega
  · rintro _ rfl _ rfl
    have hne : b ≠ b + 3 := by omega
    refine k _ ((Fr.ua (by simp)).tr (Fr.u2 (by simp))) ⟨?_, ?_⟩
    · rw [up2_eq, if_pos rfl, upa_ne hne, v1, o_1]; rfl
    · rw [up2_ne (fun e => hne e.symm), upa_eq, v1]
      exact PSt_push v2 (by omega)
theorem c_X3_pop (hG : fl G = false) (hd : 1 ≤ d) {b : Nat} {x : Int32} {E : List Int32} (h1 : TXo sh ta b) (h2 : VS m b (x :: E)) (h3 : E.length < 60) (k : ∀ m', Fr [b, b + 3] m m' → VS m' b E → K (some (.int x)) m') : Cal G mX3_pop d [.ref b] sh ta m K := by
  obtain ⟨a1, a2, a3, a4, a5, a6, a7⟩ := h1
  obtain ⟨v1, v2⟩ := h2
  have e : m b 2 - 1 = Int32.ofNat E.length := by rw [v1]; exact o_s _
  have hne : b ≠ b + 3 := by omega
  obtain ⟨d, rfl⟩ : ∃ e, d = e + 1 := ⟨d - 1, by omega⟩
  refine Cal.of (by decide +kernel) rfl (Nat.le_of_ble_eq_true rfl) (rg_X3_pop_0 hG b ?_)
  refine ⟨a1, fun _ => ?_, fun c => ?_⟩
  · rintro _ rfl
    rw [up2_eq, if_pos rfl, e]
    refine ⟨_, a3, _, a7, ib_o h3 (by decide), ?_⟩
    rw [up2_ne (fun e => hne e.symm), v2.1]
    exact k _ (Fr.u2 (by simp)) ⟨by rw [up2_eq, if_pos rfl], by rw [up2_ne (fun e => hne e.symm)]; exact v2.2⟩
  · exfalso
    apply c
    rw [v1]
    exact (o_lt (a := 0) (by decide) (by simp; omega)).mpr (by simp)
theorem c_X3_named (hG : fl G = false) (hd : 1 ≤ d) {x a b c e : Int32} (h1 : x = -1 ∨ x = -2 ∨ x = -3 ∨ x = -4) (k : K (some (.int (if x = -1 then a else if x = -2 then b else if x = -3 then c else e))) m) : Cal G mX3_named d [.int x, .int a, .int b, .int c, .int e] sh ta m K := by
  obtain ⟨d, rfl⟩ : ∃ e, d = e + 1 := ⟨d - 1, by omega⟩
  refine Cal.of (by decide +kernel) rfl (Nat.le_of_ble_eq_true rfl) (rg_X3_named_0 hG (x) (a) (b) (c) (e) ?_)
  refine ⟨fun c1 => ?_, fun c1 => ?_, fun c1 => ?_, fun c1 => ?_⟩
  · rcases h1 with rfl | rfl | rfl | rfl <;> first | exact k | exact absurd c1 (by decide)
  · rcases h1 with rfl | rfl | rfl | rfl <;> first | exact k | exact absurd c1 (by decide)
  · rcases h1 with rfl | rfl | rfl | rfl <;> first | exact k | exact absurd c1 (by decide)
  · rcases h1 with rfl | rfl | rfl | rfl <;> first | exact k | exact absurd c1 (by decide)
theorem c_X3_joined (hG : fl G = false) (hd : 1 ≤ d) {g x y : Int32} (h1 : sgOK g) (k : K (some (.int (jn g x y))) m) : Cal G mX3_joined d [.int g, .int x, .int y] sh ta m K := by
  obtain ⟨d, rfl⟩ : ∃ e, d = e + 1 := ⟨d - 1, by omega⟩
  refine Cal.of (by decide +kernel) rfl (Nat.le_of_ble_eq_true rfl) (rg_X3_joined_0 hG (g) (x) (y) ?_)
  refine ⟨fun c => ?_, fun c => ?_, fun c => ?_, fun c => ?_, fun c => ?_, fun c => ?_, fun c => ?_, fun c => ?_, fun c => ?_, fun c0 c1 c2 c3 c4 c5 c6 c7 c8 => ?_⟩
  · refine ⟨fun c2 => ?_, fun c2 => ?_⟩
    · rcases h1 with rfl | rfl | rfl | rfl | rfl | rfl | rfl | rfl | rfl | rfl <;> first | contradiction | exact kv k (by simp [jn, *])
    · refine ⟨fun c3 => ?_, fun c3 => ?_⟩
      · rcases h1 with rfl | rfl | rfl | rfl | rfl | rfl | rfl | rfl | rfl | rfl <;> first | contradiction | exact kv k (by simp [jn, *])
      · rcases h1 with rfl | rfl | rfl | rfl | rfl | rfl | rfl | rfl | rfl | rfl <;> first | contradiction | exact kv k (by simp [jn, *])
  · rcases h1 with rfl | rfl | rfl | rfl | rfl | rfl | rfl | rfl | rfl | rfl <;> first | contradiction | exact kv k (by simp [jn, *])
  · rcases h1 with rfl | rfl | rfl | rfl | rfl | rfl | rfl | rfl | rfl | rfl <;> first | contradiction | exact kv k (by simp [jn, *])
  · rcases h1 with rfl | rfl | rfl | rfl | rfl | rfl | rfl | rfl | rfl | rfl <;> first | contradiction | exact kv k (by simp [jn, *])
  · refine ⟨fun c8 => ?_, fun c8 => ?_⟩
    · refine ⟨(by first | decide | grind), ?_⟩
      rcases h1 with rfl | rfl | rfl | rfl | rfl | rfl | rfl | rfl | rfl | rfl <;> first | contradiction | exact kv k (by simp [jn, *])
    · rcases h1 with rfl | rfl | rfl | rfl | rfl | rfl | rfl | rfl | rfl | rfl <;> first | contradiction | exact kv k (by simp [jn, *])
  · refine ⟨fun c11 => ?_, fun c11 => ?_⟩
    · rcases h1 with rfl | rfl | rfl | rfl | rfl | rfl | rfl | rfl | rfl | rfl <;> first | contradiction | exact kv k (by simp [jn, *])
    · rcases h1 with rfl | rfl | rfl | rfl | rfl | rfl | rfl | rfl | rfl | rfl <;> first | contradiction | exact kv k (by simp [jn, *])
  · refine ⟨fun c13 => ?_, fun c13 => ?_⟩
    · rcases h1 with rfl | rfl | rfl | rfl | rfl | rfl | rfl | rfl | rfl | rfl <;> first | contradiction | exact kv k (by simp [jn, *])
    · rcases h1 with rfl | rfl | rfl | rfl | rfl | rfl | rfl | rfl | rfl | rfl <;> first | contradiction | exact kv k (by simp [jn, *])
  · refine ⟨fun c15 => ?_, fun c15 => ?_⟩
    · rcases h1 with rfl | rfl | rfl | rfl | rfl | rfl | rfl | rfl | rfl | rfl <;> first | contradiction | exact kv k (by simp [jn, *])
    · rcases h1 with rfl | rfl | rfl | rfl | rfl | rfl | rfl | rfl | rfl | rfl <;> first | contradiction | exact kv k (by simp [jn, *])
  · refine ⟨fun c17 => ?_, fun c17 => ?_⟩
    · rcases h1 with rfl | rfl | rfl | rfl | rfl | rfl | rfl | rfl | rfl | rfl <;> first | contradiction | exact kv k (by simp [jn, *])
    · refine ⟨fun c18 => ?_, fun c18 => ?_⟩
      · rcases h1 with rfl | rfl | rfl | rfl | rfl | rfl | rfl | rfl | rfl | rfl <;> first | contradiction | exact kv k (by simp [jn, *])
      · rcases h1 with rfl | rfl | rfl | rfl | rfl | rfl | rfl | rfl | rfl | rfl <;> first | contradiction | exact kv k (by simp [jn, *])
  · refine ⟨fun c19 => ?_, fun c19 => ?_⟩
    · refine ⟨(by first | decide | grind), ?_⟩
      rcases h1 with rfl | rfl | rfl | rfl | rfl | rfl | rfl | rfl | rfl | rfl <;> first | contradiction | exact kv k (by simp [jn, *])
    · rcases h1 with rfl | rfl | rfl | rfl | rfl | rfl | rfl | rfl | rfl | rfl <;> first | contradiction | exact kv k (by simp [jn, *])
theorem c_X3_isThere (hG : fl G = false) (hd : 1 ≤ d) {b : Nat} (h1 : TXo sh ta b) (k : K (some (.int (if m (b + 1) 1 ≤ 0 then 0 else 1))) m) : Cal G mX3_isThere d [.ref b] sh ta m K := by
  obtain ⟨a1, a2, a3, a4, a5, a6, a7⟩ := h1
  obtain ⟨d, rfl⟩ : ∃ e, d = e + 1 := ⟨d - 1, by omega⟩
  refine Cal.of (by decide +kernel) rfl (Nat.le_of_ble_eq_true rfl) (rg_X3_isThere_0 hG (b) ?_)
  refine ⟨(by first | assumption | rfl), ?_⟩
  refine ⟨_, (by first | assumption | rfl), ?_⟩
  refine ⟨(by first | assumption | rfl), ?_⟩
  refine ⟨fun c5 => ?_, fun c5 => ?_⟩
  · first | exact k | exact kv k (by grind)
  · first | exact k | exact kv k (by grind)
theorem c_X3_value (hG : fl G = false) (hd : 3 ≤ d) {b : Nat} {u y0 y1 y2 y3 : Int32} {wh va : Nat → Int32} {N : Nat} (h1 : TXo sh ta b) (h2 : u = 0 ∨ u = 1) (h3 : WTx u wh va N) (h4 : 0 < N) (h5 : TR m b u wh va N) (k : ∀ m', Fr [b, b + 3] m m' → K (some (.int ((evs wh va (nmC u y0 y1 y2 y3) N).headD 0))) m') : Cal G mX3_value d [.ref b, .int y0, .int y1, .int y2, .int y3] sh ta m K := by
  obtain ⟨a, ha⟩ := evs_top (nm := nmC u y0 y1 y2 y3) h3 h4
  have hk : ∀ m', Fr [b, b + 3] m m' → K (some (.int a)) m' := by
    intro m' hf
    have := k m' hf
    rwa [ha] at this
  clear k
  obtain ⟨t1, t2⟩ := h5
  have hN60 := h3.1
  have n1 : b + 1 ∉ [b, b + 3] := by simp
  have n2 : b + 2 ∉ [b, b + 3] := by simp
  have hloop : ∀ (r k : Nat), k + r = N → ∀ (m' : Mem), Fr [b, b + 3] m m' → VS m' b (evs wh va (nmC u y0 y1 y2 y3) k) → WP G (rmD d 0 0) mX3_value (QC G sh ta K) 0 0 8 [(0, .ref b), (1, .int y0), (2, .int y1), (3, .int y2), (4, .int y3), (5, .int (Int32.ofNat k))] [] (sh, ta, m') := by
    obtain ⟨d, rfl⟩ : ∃ e, d = e + 1 := ⟨d - 1, by omega⟩
    intro r
    induction r with
    | zero =>
      intro k hkr m' hf hv
      have hkN : k = N := by omega
      subst hkN
      rw [ha] at hv
      refine rg_X3_value_8 hG b y0 y1 y2 y3 (Int32.ofNat k) ⟨h1.1, _, h1.2.1, h1.2.2.2.1, fun _ => ?_, fun c => absurd ?_ c⟩
      · refine c_X3_pop hG (by omega) h1 hv (by simp) (fun m2 hf2 hv2 => ⟨_, rfl, hk m2 (hf.tr hf2)⟩)
      · rw [hf _ n1, t1]; exact Int32.le_refl _
    | succ r ih =>
      intro k hkr m' hf hv
      have hst := h3.2.1 k (by omega)
      have hlen := evs_len (nm := nmC u y0 y1 y2 y3) k (fun j hj => h3.2.1 j (by omega))
      have hdl := dps_le wh k
      have ev := t2 k (by omega)
      have go : ∀ (m2 : Mem), Fr [b, b + 3] m' m2 → VS m2 b (stp (wh k) (va k) (nmC u y0 y1 y2 y3) (evs wh va (nmC u y0 y1 y2 y3) k)) → WP G (rmD (d + 1) 0 0) mX3_value (QC G sh ta K) 0 0 8 [(0, .ref b), (1, .int y0), (2, .int y1), (3, .int y2), (4, .int y3), (5, .int (Int32.ofNat k + 1))] [] (sh, ta, m2) := by
        intro m2 hf2 hv2
        rw [o_1]
        exact ih (k + 1) (by omega) m2 (hf.tr hf2) hv2
      clear ih
      generalize evs wh va (nmC u y0 y1 y2 y3) k = E at *
      refine rg_X3_value_8 hG b y0 y1 y2 y3 (Int32.ofNat k) ⟨h1.1, _, h1.2.1, h1.2.2.2.1, fun c => ?_, fun _ => ?_⟩
      · exfalso
        rw [hf _ n1, t1, o_le (by omega) (by omega)] at c
        omega
      refine c_X2_at hG (by omega) h1.2.2.2.1 h1.2.2.2.2.1 h1.2.2.2.2.2.1 (by rw [hf _ n1, t1]; exact (o_le (by omega) (by decide)).mpr hN60) (by decide) ?_
      rw [hf _ n1, t1, if_pos ⟨o_0 _ (by omega), (o_lt (by omega) (by omega)).mpr (by omega)⟩, hf _ n2, ev]
      refine ⟨_, rfl, ?_⟩
      unfold stOK at hst
      generalize hw : wh k = w at *
      generalize va k = v at *
      rcases hst with ⟨rfl, v0, v9⟩ | ⟨rfl, hnm⟩ | ⟨rfl, hd2⟩ | ⟨rfl, hsg, hd2⟩
      · have e1 : enc u 0 v = v := rfl
        rw [e1]
        refine ⟨fun c => absurd c (Int32.not_lt.mpr v0), fun _ => c_X3_push hG (by omega) h1 hv (by omega) (fun m2 hf2 hv2 => ⟨rfl, go m2 hf2 hv2⟩)⟩
      · have e1 : enc u 1 v = plc u v := rfl
        have e2 : plc u v = -1 ∨ plc u v = -2 ∨ plc u v = -3 ∨ plc u v = -4 := by unfold plc; grind
        have e3 : (if plc u v = -1 then y0 else if plc u v = -2 then y1 else if plc u v = -3 then y2 else y3) = nmC u y0 y1 y2 y3 v := by
          rcases hnm with ⟨rfl, rfl | rfl | rfl | rfl⟩ | ⟨rfl, rfl | rfl | rfl⟩ <;> rfl
        rw [e1]
        refine ⟨fun _ => ⟨fun c => ?_, fun _ => ?_⟩, fun c => ?_⟩
        · exfalso; rcases e2 with e | e | e | e <;> rw [e] at c <;> exact absurd c (by decide)
        · refine c_X3_named hG (by omega) e2 ⟨_, rfl, ?_⟩
          rw [e3]
          exact c_X3_push hG (by omega) h1 hv (by omega) (fun m2 hf2 hv2 => ⟨rfl, go m2 hf2 (by rw [stp1 rfl]; exact hv2)⟩)
        · exfalso; rcases e2 with e | e | e | e <;> rw [e] at c <;> exact absurd (by decide) c
      · have e1 : enc u 2 v = -33 := rfl
        rw [e1]
        refine ⟨fun _ => ⟨fun _ => ⟨fun c => absurd rfl c, fun _ => ?_⟩, fun c => absurd (by decide) c⟩, fun c => absurd (by decide) c⟩
        match E, hlen, hv, go with
        | y :: rr, hlen, hv, go =>
          simp only [List.length_cons] at hlen
          refine c_X3_pop hG (by omega) h1 hv (by omega) (fun m2 hf2 hv2 => ⟨_, rfl, fun c => ?_, fun c => ?_⟩)
          · exact c_X3_push hG (by omega) h1 hv2 (by omega) (fun m3 hf3 hv3 => ⟨rfl, go m3 (hf2.tr hf3) (by simpa [stp, c] using hv3)⟩)
          · exact c_X3_push hG (by omega) h1 hv2 (by omega) (fun m3 hf3 hv3 => ⟨rfl, go m3 (hf2.tr hf3) (by simpa [stp, c] using hv3)⟩)
        | [], hlen, _, _ => simp at hlen; omega
      · have e1 : enc u 3 v = -v := rfl
        have e2 : -v < 0 ∧ -v < -4 ∧ - v ≠ -33 := by rcases hsg with rfl | rfl | rfl | rfl | rfl | rfl | rfl | rfl | rfl | rfl <;> decide
        rw [e1]
        refine ⟨fun _ => ⟨fun _ => ⟨fun _ => ?_, fun c => absurd c e2.2.2⟩, fun c => absurd e2.2.1 c⟩, fun c => absurd e2.1 c⟩
        match E, hlen, hv, go with
        | y :: x :: rr, hlen, hv, go =>
          simp only [List.length_cons] at hlen
          refine c_X3_pop hG (by omega) h1 hv (by simp; omega) (fun m2 hf2 hv2 => ⟨_, rfl, ?_⟩)
          refine c_X3_pop hG (by omega) h1 hv2 (by omega) (fun m3 hf3 hv3 => ⟨_, rfl, ?_⟩)
          rw [Int32.neg_neg]
          refine c_X3_joined hG (by omega) hsg ⟨_, rfl, ?_⟩
          exact c_X3_push hG (by omega) h1 hv3 (by omega) (fun m4 hf4 hv4 => ⟨rfl, go m4 ((hf2.tr hf3).tr hf4) (by simpa [stp] using hv4)⟩)
        | [], hlen, _, _ => simp at hlen; omega
        | [_], hlen, _, _ => simp at hlen; omega
  obtain ⟨d, rfl⟩ : ∃ e, d = e + 1 := ⟨d - 1, by omega⟩
  refine Cal.of (by decide +kernel) rfl (Nat.le_of_ble_eq_true rfl) (rg_X3_value_0 hG b y0 y1 y2 y3 ?_)
  refine ⟨h1.1, ?_⟩
  rintro _ rfl
  refine hloop N 0 (by omega) _ (Fr.u2 (by simp)) ⟨by rw [up2_eq, if_pos rfl]; rfl, trivial⟩
end

