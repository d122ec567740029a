-- 78.parseJ
-- a well-formed row of steps that makes one value: all that is closed under the four ways to make one holds it
def PFx (u : Nat) (F : List (Int32 × Int32)) : Prop := ∀ P : List (Int32 × Int32) → Prop, (∀ v : Int32, 0 ≤ v → v ≤ 9999 → P [(0, v)]) → (∀ v : Int32, nmOK (Int32.ofNat u) v → P [(1, v)]) → (∀ F, P F → P (F ++ [(2, 0)])) → (∀ F H c, P F → P H → sgOK c → P (F ++ (H ++ [(3, c)]))) → P F
set_option maxHeartbeats 4000000 in
theorem PFx.num {u : Nat} (v : Int32) (h0 : 0 ≤ v) (h1 : v ≤ 9999) : PFx u [(0, v)] := fun _ a _ _ _ => a v h0 h1
set_option maxHeartbeats 4000000 in
theorem PFx.nam {u : Nat} (v : Int32) (h : nmOK (Int32.ofNat u) v) : PFx u [(1, v)] := fun _ _ b _ _ => b v h
set_option maxHeartbeats 4000000 in
theorem PFx.neg {u : Nat} (F : List (Int32 × Int32)) (h : PFx u F) : PFx u (F ++ [(2, 0)]) := fun P a b c e => c F (h P a b c e)
set_option maxHeartbeats 4000000 in
theorem PFx.bin {u : Nat} (F H : List (Int32 × Int32)) (c : Int32) (h : PFx u F) (g : PFx u H) (hc : sgOK c) : PFx u (F ++ (H ++ [(3, c)])) := fun P a b x e => e F H c (h P a b x e) (g P a b x e) hc
set_option maxHeartbeats 4000000 in
theorem bTF {A : Prop} (h : true = false) : A := by cases h
set_option maxHeartbeats 4000000 in
theorem bFT {A : Prop} (h : false = true) : A := by cases h
abbrev pRs : Type := Bool × Nat × List (Int32 × Int32)
def psR (n : Nat) (w : Nat → Int32) (u : Nat) (E : List (Int32 × Int32)) (r : pRs) (m : Mem) : Prop := (r.1 = true → psS n w u r.2.1 (E ++ r.2.2) m) ∧ (r.1 = false → psF n w r.2.1 m)
def qsR (f : Nat → Int32) (u o : Nat) (E : List (Int32 × Int32)) (r : pRs) (m : Mem) : Prop := (r.1 = true → qsS f u r.2.1 o (E ++ r.2.2) m) ∧ (r.1 = false → m 76 = f ∧ m 75 5 = Int32.ofNat r.2.1)
def psWR (n u p : Nat) (r : pRs) : Prop := p ≤ r.2.1 ∧ r.2.1 ≤ n ∧ (r.1 = true → p < r.2.1 ∧ r.2.2.length + p ≤ r.2.1 ∧ PFx u r.2.2)
def psWL (n u p : Nat) (r : pRs) : Prop := p ≤ r.2.1 ∧ r.2.1 ≤ n ∧ (r.1 = true → r.2.2.length + p ≤ r.2.1 ∧ ∀ F, PFx u F → PFx u (F ++ r.2.2))
def psC (G : Gm) (n : Nat) (w : Nat → Int32) (u : Nat) (y : Mi) (o D p : Nat) (r : pRs) : Prop := ∀ (d : Nat) (m : Mem) (E : List (Int32 × Int32)) (K : Option Value → Mem → Prop), D ≤ d → E.length ≤ p → psS n w u p E m → (∀ m', Fr [9, 17, 18] m m' → psR n w u E r m' → K none m') → Cal G y d [.ref 9, .int (Int32.ofNat o)] SH (TA 1 (1003 + u) 16) m K
def qsC (G : Gm) (f : Nat → Int32) (u : Nat) (y : Mi) (o D p : Nat) (r : pRs) : Prop := ∀ (d t a i : Nat) (m : Mem) (E : List (Int32 × Int32)) (K : Option Value → Mem → Prop), D ≤ d → E.length ≤ p → qsS f u p o E m → (∀ m', qsF m m' → qsR f u o E r m' → K (some (.int (if r.1 = true then 1 else 0))) m') → Cal G y d [.ref 75] SH (TA t a i) m K
def psp (G : Gm) (n : Nat) (w : Nat → Int32) (u : Nat) (f : Nat → Int32) (y1 y2 : Mi) (o D p : Nat) : Prop := ∃ r, psWR n u p r ∧ psC G n w u y1 o D p r ∧ qsC G f u y2 o D p r
def psWP (G : Gm) (u : Nat) (y : Mi) (o d : Nat) (i : Int32) (m : Mem) (K : Option Value → Mem → Prop) : Prop := WP G (rmD (d + 1) 0 0) y (QC G SH (TA 1 (1003 + u) 16) K) 0 0 7 [(0, .ref 9), (1, .int (Int32.ofNat o)), (2, .int i)] [] (SH, TA 1 (1003 + u) 16, m)
def qsWP (G : Gm) (y : Mi) (d t a i : Nat) (m : Mem) (K : Option Value → Mem → Prop) : Prop := WP G (rmD (d + 1) 0 0) y (QC G SH (TA t a i) K) 0 0 9 [(0, .ref 75)] [] (SH, TA t a i, m)
def psLC (G : Gm) (n : Nat) (w : Nat → Int32) (u : Nat) (y : Mi) (o D p : Nat) (r : pRs) : Prop := ∀ (d : Nat) (m : Mem) (E : List (Int32 × Int32)) (i : Nat) (K : Option Value → Mem → Prop), D ≤ d → E.length ≤ p → i < p → psS n w u p E m → (∀ m', Fr [9, 17, 18] m m' → psR n w u E r m' → K none m') → psWP G u y o d (Int32.ofNat i) m K
def qsLC (G : Gm) (f : Nat → Int32) (u : Nat) (y : Mi) (o D p : Nat) (r : pRs) : Prop := ∀ (d t a i : Nat) (m : Mem) (E : List (Int32 × Int32)) (K : Option Value → Mem → Prop), D ≤ d → E.length ≤ p → qsS f u p o E m → (∀ m', qsF m m' → qsR f u o E r m' → K (some (.int (if r.1 = true then 1 else 0))) m') → qsWP G y d t a i m K
def psL (G : Gm) (n : Nat) (w : Nat → Int32) (u : Nat) (f : Nat → Int32) (y1 y2 : Mi) (o D p : Nat) : Prop := ∃ r, psWL n u p r ∧ psLC G n w u y1 o D p r ∧ qsLC G f u y2 o D p r
-- what follows a sign
def brC (G : Gm) (u : Nat) (l1 y1 : Mi) (o d : Nat) (i c : Int32) (m : Mem) (K : Option Value → Mem → Prop) : Prop := Cal G l1 d [.ref 9, .int (Int32.ofNat o)] SH (TA 1 (1003 + u) 16) (up2 m 9 3 (m 9 3 + 1)) (fun v m2 => v = none ∧ Cal G mX3_addSign d [.ref 16, .int c] SH (TA 1 (1003 + u) 16) m2 (fun v m3 => v = none ∧ psWP G u y1 o d (i + 1) m3 K))
def brM (G : Gm) (l2 y2 : Mi) (d t a i : Nat) (c : Int32) (m : Mem) (K : Option Value → Mem → Prop) : Prop := Cal G l2 d [.ref 75] SH (TA t a i) (up2 m 75 5 (m 75 5 + 1)) (fun v m2 => ∃ r, v = some (.int r) ∧ ((¬ r = 0 → Cal G mX6_step1 d [.ref 75, .int 3, .int c] SH (TA t a i) m2 (fun v m3 => v = none ∧ qsWP G y2 d t a i m3 K)) ∧ (r = 0 → K (some (.int 0)) m2)))
-- what the heads of the loops do
def psH (G : Gm) (n : Nat) (w : Nat → Int32) (u : Nat) (f : Nat → Int32) (y1 y2 l1 l2 : Mi) (o : Nat) (Sg : Int32 → Prop) : Prop :=
  (∀ (d p i : Nat) (m : Mem) (K : Option Value → Mem → Prop), 4 ≤ d → p ≤ n → psT n w p m → m 9 4 = 0 → i < 60 → Sg (lkb n w p) → brC G u l1 y1 o d (Int32.ofNat i) (lkb n w p) m K → psWP G u y1 o d (Int32.ofNat i) m K) ∧
  (∀ (d p : Nat) (i : Int32) (m : Mem) (K : Option Value → Mem → Prop), 4 ≤ d → p ≤ n → psT n w p m → (¬ m 9 4 = 0 ∨ ¬ Sg (lkb n w p)) → K none m → psWP G u y1 o d i m K) ∧
  (∀ (d t a i p : Nat) (m : Mem) (K : Option Value → Mem → Prop), 1 ≤ d → p ≤ n → m 76 = f → m 75 5 = Int32.ofNat p → Sg (lkb n w p) → brM G l2 y2 d t a i (lkb n w p) m K → qsWP G y2 d t a i m K) ∧
  (∀ (d t a i p : Nat) (m : Mem) (K : Option Value → Mem → Prop), 1 ≤ d → p ≤ n → m 76 = f → m 75 5 = Int32.ofNat p → ¬ Sg (lkb n w p) → K (some (.int 1)) m → qsWP G y2 d t a i m K)
set_option maxHeartbeats 4000000 in
theorem psOf_sg {u : Nat} {c : Int32} : psOf u (3, c) = -c := by
  show enc _ 3 c = -c
  unfold enc
  rw [if_neg (by decide), if_neg (by decide), if_neg (by decide)]
set_option maxHeartbeats 4000000 in
theorem frA {m m' : Mem} {x : Int32} {j : Nat} (h : Fr [9, 17, 18] (up2 m 9 j x) m') : Fr [9, 17, 18] m m' := fun z hz => by rw [h z hz, up2_ne (fun e => hz (by rw [e]; decide))]
set_option maxHeartbeats 4000000 in
theorem frB {m m' : Mem} (h : Fr [17, 18] m m') : Fr [9, 17, 18] m m' := h.mo (fun a ha => List.mem_cons_of_mem _ ha)
set_option maxHeartbeats 4000000 in
theorem qfA {m m' : Mem} {x : Int32} (h : qsF (up2 m 75 5 x) m') : qsF m m' := ⟨fun z hz => by rw [h.1 z hz, up2_ne (fun e => hz (by rw [e]; decide))], fun j h5 h6 h7 => by rw [h.2 j h5 h6 h7, up2_eq, if_neg h5]⟩
set_option maxHeartbeats 4000000 in
theorem qsS.inc {f : Nat → Int32} {u p o : Nat} {E : List (Int32 × Int32)} {m : Mem} (h : qsS f u p o E m) : qsS f u (p + 1) o E (up2 m 75 5 (m 75 5 + 1)) := by
  obtain ⟨e6, e5, eo, e7, e8, hE⟩ := h
  exact ⟨e6, by rw [up2_eq, if_pos rfl, e5]; exact o_add p 1, eo, e7, e8, hE⟩
section
variable {G : Gm} {d n p u o D : Nat} {w f : Nat → Int32} {m : Mem} {K : Option Value → Mem → Prop} {y1 y2 l1 l2 : Mi} {Sg : Int32 → Prop}
set_option maxHeartbeats 4000000 in
theorem lk_lt (hS : ∀ c, Sg c → sgOK c) (h : Sg (lkb n w p)) : p < n := by
  refine Decidable.by_contra fun q => ?_
  rw [lkb, if_neg q] at h
  exact absurd (hS _ h) (by unfold sgOK; decide)
set_option maxHeartbeats 4000000 in
theorem psp.loop (hG : fl G = false) (hx : psX n w u f) (H : psH G n w u f y1 y2 l1 l2 o Sg) (hS : ∀ c, Sg c → sgOK c) (hD : 4 ≤ D) {p0 : Nat} (hl : ∀ p, p0 < p → p ≤ n → psp G n w u f l1 l2 o D p) : ∀ k p, n - p ≤ k → p0 < p → p ≤ n → psL G n w u f y1 y2 o D p := by
  have hn := hx.1
  have stop : ∀ p, p ≤ n → ¬ Sg (lkb n w p) → psL G n w u f y1 y2 o D p := by
    intro p hp hs
    refine ⟨(true, p, []), ⟨Nat.le_refl _, hp, fun _ => ⟨by simp, fun F h => by rw [List.append_nil]; exact h⟩⟩, ?_, ?_⟩
    · intro d m E i K hd _ _ hm k
      exact H.2.1 d p _ m K (by omega) hp hm.1 (Or.inr hs) (k m Fr.rf ⟨fun _ => by rw [List.append_nil]; exact hm, fun q => bTF q⟩)
    · intro d t a i m E K hd _ hm k
      exact H.2.2.2 d t a i p m K (by omega) hp hm.1 hm.2.1 hs (k m qsF.rf ⟨fun _ => by rw [List.append_nil]; exact hm, fun q => bTF q⟩)
  intro k
  induction k with
  | zero =>
    intro p hk _ hp
    exact stop p hp (fun q => by have := lk_lt hS q; omega)
  | succ k ih =>
    intro p hk h0 hp
    by_cases hs : Sg (lkb n w p)
    · have hlt := lk_lt hS hs
      obtain ⟨r1, w1, c1, m1⟩ := hl (p + 1) (by omega) (by omega)
      cases hr : r1.1 with
      | false =>
        refine ⟨(false, r1.2.1, []), ⟨by have := w1.1; show p ≤ r1.2.1; omega, w1.2.1, fun q => bFT q⟩, ?_, ?_⟩
        · intro d m E i K hd hE hi hm k
          refine H.1 d p i m K (by omega) hp hm.1 hm.2.1 (by omega) hs (c1 d _ E _ hd (by omega) hm.inc fun m' hf h => ⟨rfl, ?_⟩)
          have hF := h.2 hr
          exact c_sgAdd hG (by omega) hF.2.2 fun m2 hf2 h0 _ => ⟨rfl, H.2.1 d r1.2.1 _ m2 K (by omega) w1.2.1 (hF.1.fr hf2) (Or.inl (hF.fr hf2 h0).2.1) (k m2 ((frA hf).tr (frB hf2)) ⟨fun q => bFT q, fun _ => hF.fr hf2 h0⟩)⟩
        · intro d t a i m E K hd hE hm k
          refine H.2.2.1 d t a i p m K (by omega) hp hm.1 hm.2.1 hs (m1 d t a i _ E _ hd (by omega) hm.inc fun m' hf h => ⟨_, rfl, fun q => absurd (by rw [hr]; rfl) q, fun _ => ?_⟩)
          exact k m' (qfA hf) ⟨fun q => bFT q, fun _ => h.2 hr⟩
      | true =>
        obtain ⟨x1, x2, x3⟩ := w1.2.2 hr
        have x0 := w1.2.1
        obtain ⟨r2, w2, c2, m2⟩ := ih r1.2.1 (by omega) (by omega) x0
        have ea : ∀ E : List (Int32 × Int32), E ++ r1.2.2 ++ [(3, lkb n w p)] ++ r2.2.2 = E ++ (r1.2.2 ++ ([(3, lkb n w p)] ++ r2.2.2)) := fun E => by simp only [List.append_assoc]
        refine ⟨(r2.1, r2.2.1, r1.2.2 ++ ([(3, lkb n w p)] ++ r2.2.2)), ⟨by have := w2.1; show p ≤ r2.2.1; omega, w2.2.1, fun q => ?_⟩, ?_, ?_⟩
        · have y := w2.2.2 q
          refine ⟨?_, fun F hF => ?_⟩
          · have := y.1
            show (r1.2.2 ++ ([(3, lkb n w p)] ++ r2.2.2)).length + p ≤ r2.2.1
            simp only [List.length_append, List.length_cons, List.length_nil] at *
            omega
          · have := y.2 _ (PFx.bin F r1.2.2 (lkb n w p) hF x3 (hS _ hs))
            show PFx u (F ++ (r1.2.2 ++ ([(3, lkb n w p)] ++ r2.2.2)))
            rw [← List.append_assoc, List.append_assoc, List.append_assoc] at this
            rw [← List.append_assoc r1.2.2] at *
            simpa only [List.append_assoc] using this
        · intro d m E i K hd hE hi hm k
          refine H.1 d p i m K (by omega) hp hm.1 hm.2.1 (by omega) hs (c1 d _ E _ hd (by omega) hm.inc fun m' hf h => ⟨rfl, ?_⟩)
          have hP := h.1 hr
          have hL : (E ++ r1.2.2).length < 60 := by rw [List.length_append]; omega
          refine c_sgAdd hG (by omega) (by rw [hP.2.2.1]; exact o_0 _ (by omega)) fun m3 hf3 _ e3 => ⟨rfl, ?_⟩
          have e4 := e3 _ hL hP.2.2.1
          rw [show Int32.ofNat i + 1 = Int32.ofNat (i + 1) from o_add i 1]
          refine c2 d m3 (E ++ r1.2.2 ++ [(3, lkb n w p)]) (i + 1) K hd (by simp only [List.length_append, List.length_cons, List.length_nil] at *; omega) (by omega) (hP.app hf3 ⟨e4.1, by rw [psOf_sg]; exact e4.2.1, e4.2.2⟩) fun m4 hf4 h4 => ?_
          refine k m4 (((frA hf).tr (frB hf3)).tr hf4) ⟨fun q => ?_, h4.2⟩
          have := h4.1 q
          rw [ea] at this
          exact this
        · intro d t a i m E K hd hE hm k
          refine H.2.2.1 d t a i p m K (by omega) hp hm.1 hm.2.1 hs (m1 d t a i _ E _ hd (by omega) hm.inc fun m' hf h => ⟨_, rfl, fun _ => ?_, fun q => absurd q (by rw [hr]; decide)⟩)
          have hP := h.1 hr
          have hL : (E ++ r1.2.2).length < 60 := by rw [List.length_append]; omega
          refine c_step1 hG (by omega) hP hL fun m3 hf3 h3 => ⟨rfl, ?_⟩
          refine m2 d t a i m3 (E ++ r1.2.2 ++ [(3, lkb n w p)]) K hd (by simp only [List.length_append, List.length_cons, List.length_nil] at *; omega) h3 fun m4 hf4 h4 => ?_
          refine k m4 (((qfA hf).tr hf3).tr hf4) ⟨fun q => ?_, h4.2⟩
          have := h4.1 q
          rw [ea] at this
          exact this
    · exact stop p hp hs
set_option maxHeartbeats 4000000 in
theorem psp.join (hG : fl G = false) (hx : psX n w u f) (H : psH G n w u f y1 y2 l1 l2 o Sg) (hD : 4 ≤ D)
    (hc : ∀ (d : Nat) (m : Mem) (K : Option Value → Mem → Prop), Cal G l1 d [.ref 9, .int (Int32.ofNat o)] SH (TA 1 (1003 + u) 16) m (fun v m2 => v = none ∧ psWP G u y1 o d 0 m2 K) → Cal G y1 (d + 1) [.ref 9, .int (Int32.ofNat o)] SH (TA 1 (1003 + u) 16) m K)
    (hm : ∀ (d t a i : Nat) (m : Mem) (K : Option Value → Mem → Prop), Cal G l2 d [.ref 75] SH (TA t a i) m (fun v m2 => ∃ r, v = some (.int r) ∧ ((¬ r = 0 → qsWP G y2 d t a i m2 K) ∧ (r = 0 → K (some (.int 0)) m2))) → Cal G y2 (d + 1) [.ref 75] SH (TA t a i) m K)
    (hl : psp G n w u f l1 l2 o D p) (hL : ∀ p', p < p' → p' ≤ n → psL G n w u f y1 y2 o D p') : psp G n w u f y1 y2 o (D + 1) p := by
  obtain ⟨r1, w1, c1, m1⟩ := hl
  cases hr : r1.1 with
  | false =>
    refine ⟨r1, w1, ?_, ?_⟩
    · intro d m E K hd hE hm k
      obtain ⟨d, rfl⟩ : ∃ e, d = e + 1 := ⟨d - 1, by omega⟩
      refine hc d m K (c1 d m E _ (by omega) hE hm fun m' hf h => ⟨rfl, ?_⟩)
      have hF := h.2 hr
      exact H.2.1 d r1.2.1 _ m' K (by omega) w1.2.1 hF.1 (Or.inl hF.2.1) (k m' hf h)
    · intro d t a i m E K hd hE hm' k
      obtain ⟨d, rfl⟩ : ∃ e, d = e + 1 := ⟨d - 1, by omega⟩
      refine hm d t a i m K (m1 d t a i m E _ (by omega) hE hm' fun m' hf h => ⟨_, rfl, fun q => absurd (by rw [hr]; rfl) q, fun e => ?_⟩)
      have := k m' hf h
      rw [e] at this
      exact this
  | true =>
    obtain ⟨x1, x2, x3⟩ := w1.2.2 hr
    have x0 := w1.2.1
    obtain ⟨r2, w2, c2, m2⟩ := hL r1.2.1 x1 x0
    have ea : ∀ E : List (Int32 × Int32), E ++ r1.2.2 ++ r2.2.2 = E ++ (r1.2.2 ++ r2.2.2) := fun E => List.append_assoc _ _ _
    refine ⟨(r2.1, r2.2.1, r1.2.2 ++ r2.2.2), ⟨by have := w2.1; show p ≤ r2.2.1; omega, w2.2.1, fun q => ?_⟩, ?_, ?_⟩
    · have y := w2.2.2 q
      have y0 := w2.1
      refine ⟨by show p < r2.2.1; omega, ?_, y.2 _ x3⟩
      show (r1.2.2 ++ r2.2.2).length + p ≤ r2.2.1
      rw [List.length_append]
      omega
    · intro d m E K hd hE hm k
      obtain ⟨d, rfl⟩ : ∃ e, d = e + 1 := ⟨d - 1, by omega⟩
      refine hc d m K (c1 d m E _ (by omega) hE hm fun m' hf h => ⟨rfl, ?_⟩)
      refine c2 d m' (E ++ r1.2.2) 0 K (by omega) (by rw [List.length_append]; omega) (by omega) (h.1 hr) fun m4 hf4 h4 => ?_
      refine k m4 (hf.tr hf4) ⟨fun q => ?_, h4.2⟩
      have := h4.1 q
      rw [ea] at this
      exact this
    · intro d t a i m E K hd hE hm' k
      obtain ⟨d, rfl⟩ : ∃ e, d = e + 1 := ⟨d - 1, by omega⟩
      refine hm d t a i m K (m1 d t a i m E _ (by omega) hE hm' fun m' hf h => ⟨_, rfl, fun _ => ?_, fun q => absurd q (by rw [hr]; decide)⟩)
      refine m2 d t a i m' (E ++ r1.2.2) K (by omega) (by rw [List.length_append]; omega) (h.1 hr) fun m4 hf4 h4 => ?_
      refine k m4 (hf.tr hf4) ⟨fun q => ?_, h4.2⟩
      have := h4.1 q
      rw [ea] at this
      exact this
end

