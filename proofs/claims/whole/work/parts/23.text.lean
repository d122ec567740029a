theorem o_le {a b : Nat} (ha : a < 2147483648) (hb : b < 2147483648) : Int32.ofNat a ≤ Int32.ofNat b ↔ a ≤ b := by
  rw [Int32.le_iff_toInt_le, Int32.toInt_ofNat_of_lt (by omega), Int32.toInt_ofNat_of_lt (by omega)]
  omega
theorem o_lt {a b : Nat} (ha : a < 2147483648) (hb : b < 2147483648) : Int32.ofNat a < Int32.ofNat b ↔ a < b := by
  rw [Int32.lt_iff_toInt_lt, Int32.toInt_ofNat_of_lt (by omega), Int32.toInt_ofNat_of_lt (by omega)]
  omega
theorem o_eq {a b : Nat} (ha : a < 2147483648) (hb : b < 2147483648) : Int32.ofNat a = Int32.ofNat b ↔ a = b := by
  rw [← Int32.toInt_inj, Int32.toInt_ofNat_of_lt (by omega), Int32.toInt_ofNat_of_lt (by omega)]
  omega
theorem o_1 (k : Nat) : Int32.ofNat k + 1 = Int32.ofNat (k + 1) := (Int32.ofNat_add k 1).symm
theorem o_m (k : Nat) : Int32.ofNat (k + 1) + (-1) = Int32.ofNat k := by
  rw [Int32.ofNat_add, Int32.add_assoc]
  exact Int32.add_zero _
theorem o_s (k : Nat) : Int32.ofNat (k + 1) - 1 = Int32.ofNat k := by
  rw [Int32.sub_eq_add_neg]; exact o_m k
theorem o_0 (k : Nat) (h : k < 2147483648) : 0 ≤ Int32.ofNat k := (o_le (a := 0) (by decide) h).mpr (Nat.zero_le _)
theorem tn_o {k : Nat} (h : k < 2147483648) : (Int32.ofNat k).toNatClampNeg = k := by
  show (Int32.ofNat k).toInt.toNat = k
  rw [Int32.toInt_ofNat_of_lt (by omega)]
  omega
theorem dn1 (x : Int32) : x / -1 = -x := by
  apply Int32.toInt_inj.mp
  rw [Int32.toInt_div, show (-1 : Int32).toInt = -1 from rfl, Int32.toInt_neg, Int.tdiv_neg, Int.tdiv_one]
theorem mn1 (x : Int32) : x - x / -1 * -1 = 0 := by
  rw [dn1, show (-x) * -1 = x by rw [Int32.mul_neg, Int32.mul_one, Int32.neg_neg], Int32.sub_self]
/-- what two numbers joined by a sign come to -/
def jn (c x y : Int32) : Int32 := if c = 43 then x + y else if c = 45 then x - y else if c = 42 then x * y else if c = 47 then (if y = 0 then 0 else x / y) else if c = 37 then (if y = 0 then 0 else x - x / y * y) else if c = 60 then (if x < y then 1 else 0) else if c = 62 then (if y < x then 1 else 0) else if c = 61 then (if x = y then 1 else 0) else if c = 38 then (if x = 0 ∨ y = 0 then 0 else 1) else (if x = 0 ∧ y = 0 then 0 else 1)
def sgOK (c : Int32) : Prop := c = 43 ∨ c = 45 ∨ c = 42 ∨ c = 47 ∨ c = 37 ∨ c = 60 ∨ c = 62 ∨ c = 61 ∨ c = 38 ∨ c = 124
def nmOK (u v : Int32) : Prop := (u = 0 ∧ (v = 109 ∨ v = 111 ∨ v = 117 ∨ v = 99)) ∨ (u = 1 ∧ (v = 119 ∨ v = 107 ∨ v = 109))
def stp (w v : Int32) (nm : Int32 → Int32) (s : List Int32) : List Int32 :=
  if w = 0 then v :: s else if w = 1 then nm v :: s else if w = 2 then (match s with
    | a :: r => (if a = 0 then 1 else 0) :: r
    | [] => []) else (match s with
    | y :: x :: r => jn v x y :: r
    | z => z)
theorem stp0 {w v : Int32} {nm : Int32 → Int32} {s : List Int32} (h : w = 0) : stp w v nm s = v :: s := by subst h; simp [stp]
theorem stp1 {w v : Int32} {nm : Int32 → Int32} {s : List Int32} (h : w = 1) : stp w v nm s = nm v :: s := by subst h; simp [stp]
def evs (wh va : Nat → Int32) (nm : Int32 → Int32) (k : Nat) : List Int32 := match k with
  | 0 => []
  | j + 1 => stp (wh j) (va j) nm (evs wh va nm j)
def dps (wh : Nat → Int32) (k : Nat) : Nat := match k with
  | 0 => 0
  | j + 1 => if wh j = 0 ∨ wh j = 1 then dps wh j + 1 else if wh j = 2 then dps wh j else dps wh j - 1
def stOK (u : Int32) (wh va : Nat → Int32) (k : Nat) : Prop := (wh k = 0 ∧ 0 ≤ va k ∧ va k ≤ 9999) ∨ (wh k = 1 ∧ nmOK u (va k)) ∨ (wh k = 2 ∧ 1 ≤ dps wh k) ∨ (wh k = 3 ∧ sgOK (va k) ∧ 2 ≤ dps wh k)
def WTx (u : Int32) (wh va : Nat → Int32) (n : Nat) : Prop := n ≤ 60 ∧ (∀ k, k < n → stOK u wh va k) ∧ (0 < n → dps wh n = 1)
theorem dps_le (wh : Nat → Int32) : ∀ k, dps wh k ≤ k
  | 0 => Nat.le_refl _
  | k + 1 => by
    have := dps_le wh k
    simp only [dps]
    split
    · omega
    · split <;> omega
theorem evs_len {u : Int32} {wh va : Nat → Int32} {nm : Int32 → Int32} : ∀ k, (∀ j, j < k → stOK u wh va j) → (evs wh va nm k).length = dps wh k
  | 0, _ => rfl
  | k + 1, h => by
    have ih := evs_len (nm := nm) k (fun j hj => h j (by omega))
    have hk := h k (by omega)
    simp only [evs, dps, stp]
    rcases hk with ⟨hw, -⟩ | ⟨hw, -⟩ | ⟨hw, hd⟩ | ⟨hw, -, hd⟩
    · simp [hw, ih]
    · simp [hw, ih]
    · rw [hw]
      simp only [show ¬ (2 : Int32) = 0 by decide, show ¬ (2 : Int32) = 1 by decide, if_false, if_true, or_self]
      cases hs : evs wh va nm k with
      | nil => rw [hs] at ih; simp at ih; omega
      | cons a r => rw [hs] at ih; simpa using ih
    · rw [hw]
      simp only [show ¬ (3 : Int32) = 0 by decide, show ¬ (3 : Int32) = 1 by decide, show ¬ (3 : Int32) = 2 by decide, if_false, or_self]
      match hs : evs wh va nm k with
      | [] => rw [hs] at ih; simp at ih; omega
      | [a] => rw [hs] at ih; simp at ih; omega
      | y :: x :: r => rw [hs] at ih; simp at ih ⊢; omega
/-- a stack, the undermost at place 0 -/
def PSt (s : List Int32) (g : Nat → Int32) : Prop := match s with
  | [] => True
  | a :: r => rd g (Int32.ofNat r.length) = a ∧ PSt r g
theorem PSt_wr {x : Int32} {g : Nat → Int32} : ∀ {s : List Int32} {j : Nat}, PSt s g → s.length ≤ j → j < 1000 → PSt s (wr g (Int32.ofNat j) x)
  | [], _, _, _, _ => trivial
  | a :: r, j, h, hj, hb => by
    simp only [List.length_cons] at hj
    refine ⟨?_, PSt_wr h.2 (by omega) hb⟩
    rw [rd_wr (o_0 _ (by omega)) (o_0 _ (by omega)), if_neg (fun e => by rw [o_eq (by omega) (by omega)] at e; omega)]
    exact h.1
theorem PSt_push {x : Int32} {g : Nat → Int32} {s : List Int32} (h : PSt s g) (hs : s.length < 1000) : PSt (x :: s) (wr g (Int32.ofNat s.length) x) := by
  refine ⟨?_, PSt_wr h (Nat.le_refl _) hs⟩
  rw [rd_wr (o_0 _ (by omega)) (o_0 _ (by omega)), if_pos rfl]
/-- the text of a use in a row of numbers: where it begins, its steps -/
def tT (u : Int32) : Int32 := 168 + 125 * u
def tW (f : Nat → Int32) (u : Int32) (k : Nat) : Int32 := rd f (tT u + 1 + 2 * Int32.ofNat k)
def tV (f : Nat → Int32) (u : Int32) (k : Nat) : Int32 := rd f (tT u + 2 + 2 * Int32.ofNat k)
def tN (f : Nat → Int32) (u : Int32) : Int32 := rd f (tT u)
def WX (f : Nat → Int32) (u : Int32) : Prop := ∃ n : Nat, tN f u = Int32.ofNat n ∧ WTx u (tW f u) (tV f u) n
def tE (f : Nat → Int32) (u : Int32) (nm : Int32 → Int32) : Int32 := (evs (tW f u) (tV f u) nm (tN f u).toNatClampNeg).headD 0
section
variable {G : Gm} {d t n i : Nat} {m : Mem} {K : Option Value → Mem → Prop}
theorem c_X6_joined (hG : fl G = false) (hd : 1 ≤ d) {g x y : Int32} (h1 : sgOK g) (k : K (some (.int (jn g x y))) m) : Cal G mX6_joined d [.int g, .int x, .int y] SH (TA t n i) m K := by
  have hq := dn1 x
  have hm : x - -x * -1 = 0 := by have := mn1 x; rw [dn1] at this; exact this
  obtain ⟨d, rfl⟩ : ∃ e, d = e + 1 := ⟨d - 1, by omega⟩
  refine Cal.of (by decide +kernel) rfl (Nat.le_of_ble_eq_true rfl) (rg_X6_joined_0 hG (g) (x) (y) ?_)
  refine ⟨fun c1 => ?_, fun c1 => ?_, fun c1 => ?_, fun c1 => ?_, fun c1 => ?_, fun c1 => ?_, fun c1 => ?_, fun c1 => ?_, fun c1 => ?_, fun c1 => ?_, fun c1 => ?_, fun c1 => ?_, fun c1 => ?_, fun c1 => ?_, fun c1 => ?_, fun c1 => ?_, fun c1 => ?_, fun c1 => ?_, fun c1 => ?_, fun c1 => ?_, fun c1 => ?_, fun c1 => ?_, fun c1 => ?_, fun c1 => ?_, fun c1 => ?_, fun c1 => ?_, fun c1 => ?_⟩
  · refine ⟨fun c2 => ?_, fun c2 => ?_⟩
    · rcases h1 with rfl | rfl | rfl | rfl | rfl | rfl | rfl | rfl | rfl | rfl <;> first | exact absurd c1 (by decide) | exact kv k (by simp [jn, *])
    · refine ⟨fun c3 => ?_, fun c3 => ?_⟩
      · rcases h1 with rfl | rfl | rfl | rfl | rfl | rfl | rfl | rfl | rfl | rfl <;> first | exact absurd c1 (by decide) | exact kv k (by simp [jn, *])
      · rcases h1 with rfl | rfl | rfl | rfl | rfl | rfl | rfl | rfl | rfl | rfl <;> first | exact absurd c1 (by decide) | exact kv k (by simp [jn, *])
  · refine ⟨fun c4 => ?_, fun c4 => ?_⟩
    · rcases h1 with rfl | rfl | rfl | rfl | rfl | rfl | rfl | rfl | rfl | rfl <;> first | exact absurd c1 (by decide) | exact kv k (by simp [jn, *])
    · refine ⟨fun c5 => ?_, fun c5 => ?_⟩
      · refine ⟨(by first | decide | grind), ?_⟩
        rcases h1 with rfl | rfl | rfl | rfl | rfl | rfl | rfl | rfl | rfl | rfl <;> first | exact absurd c1 (by decide) | exact kv k (by simp [jn, *])
      · rcases h1 with rfl | rfl | rfl | rfl | rfl | rfl | rfl | rfl | rfl | rfl <;> first | exact absurd c1 (by decide) | exact kv k (by simp [jn, *])
  · refine ⟨fun c7 => ?_, fun c7 => ?_⟩
    · rcases h1 with rfl | rfl | rfl | rfl | rfl | rfl | rfl | rfl | rfl | rfl <;> first | exact absurd c1 (by decide) | exact kv k (by simp [jn, *])
    · refine ⟨fun c8 => ?_, fun c8 => ?_⟩
      · rcases h1 with rfl | rfl | rfl | rfl | rfl | rfl | rfl | rfl | rfl | rfl <;> first | exact absurd c1 (by decide) | exact kv k (by simp [jn, *])
      · rcases h1 with rfl | rfl | rfl | rfl | rfl | rfl | rfl | rfl | rfl | rfl <;> first | exact absurd c1 (by decide) | exact kv k (by simp [jn, *])
  · refine ⟨fun c9 => ?_, fun c9 => ?_⟩
    · rcases h1 with rfl | rfl | rfl | rfl | rfl | rfl | rfl | rfl | rfl | rfl <;> first | exact absurd c1 (by decide) | exact kv k (by simp [jn, *])
    · refine ⟨fun c10 => ?_, fun c10 => ?_⟩
      · rcases h1 with rfl | rfl | rfl | rfl | rfl | rfl | rfl | rfl | rfl | rfl <;> first | exact absurd c1 (by decide) | exact kv k (by simp [jn, *])
      · rcases h1 with rfl | rfl | rfl | rfl | rfl | rfl | rfl | rfl | rfl | rfl <;> first | exact absurd c1 (by decide) | exact kv k (by simp [jn, *])
  · refine ⟨fun c11 => ?_, fun c11 => ?_⟩
    · rcases h1 with rfl | rfl | rfl | rfl | rfl | rfl | rfl | rfl | rfl | rfl <;> first | exact absurd c1 (by decide) | exact kv k (by simp [jn, *])
    · refine ⟨fun c12 => ?_, fun c12 => ?_⟩
      · rcases h1 with rfl | rfl | rfl | rfl | rfl | rfl | rfl | rfl | rfl | rfl <;> first | exact absurd c1 (by decide) | exact kv k (by simp [jn, *])
      · rcases h1 with rfl | rfl | rfl | rfl | rfl | rfl | rfl | rfl | rfl | rfl <;> first | exact absurd c1 (by decide) | exact kv k (by simp [jn, *])
  · refine ⟨fun c13 => ?_, fun c13 => ?_⟩
    · rcases h1 with rfl | rfl | rfl | rfl | rfl | rfl | rfl | rfl | rfl | rfl <;> first | exact absurd c1 (by decide) | exact kv k (by simp [jn, *])
    · refine ⟨fun c14 => ?_, fun c14 => ?_⟩
      · rcases h1 with rfl | rfl | rfl | rfl | rfl | rfl | rfl | rfl | rfl | rfl <;> first | exact absurd c1 (by decide) | exact kv k (by simp [jn, *])
      · rcases h1 with rfl | rfl | rfl | rfl | rfl | rfl | rfl | rfl | rfl | rfl <;> first | exact absurd c1 (by decide) | exact kv k (by simp [jn, *])
  · rcases h1 with rfl | rfl | rfl | rfl | rfl | rfl | rfl | rfl | rfl | rfl <;> first | exact absurd c1 (by decide) | exact kv k (by simp [jn, *])
  · rcases h1 with rfl | rfl | rfl | rfl | rfl | rfl | rfl | rfl | rfl | rfl <;> first | exact absurd c1 (by decide) | exact kv k (by simp [jn, *])
  · refine ⟨fun c15 => ?_, fun c15 => ?_⟩
    · rcases h1 with rfl | rfl | rfl | rfl | rfl | rfl | rfl | rfl | rfl | rfl <;> first | exact absurd c1 (by decide) | exact kv k (by simp [jn, *])
    · refine ⟨fun c16 => ?_, fun c16 => ?_⟩
      · rcases h1 with rfl | rfl | rfl | rfl | rfl | rfl | rfl | rfl | rfl | rfl <;> first | exact absurd c1 (by decide) | exact kv k (by simp [jn, *])
      · rcases h1 with rfl | rfl | rfl | rfl | rfl | rfl | rfl | rfl | rfl | rfl <;> first | exact absurd c1 (by decide) | exact kv k (by simp [jn, *])
  · rcases h1 with rfl | rfl | rfl | rfl | rfl | rfl | rfl | rfl | rfl | rfl <;> first | exact absurd c1 (by decide) | exact kv k (by simp [jn, *])
  · refine ⟨fun c17 => ?_, fun c17 => ?_⟩
    · rcases h1 with rfl | rfl | rfl | rfl | rfl | rfl | rfl | rfl | rfl | rfl <;> first | exact absurd c1 (by decide) | exact kv k (by simp [jn, *])
    · refine ⟨fun c18 => ?_, fun c18 => ?_⟩
      · rcases h1 with rfl | rfl | rfl | rfl | rfl | rfl | rfl | rfl | rfl | rfl <;> first | exact absurd c1 (by decide) | exact kv k (by simp [jn, *])
      · rcases h1 with rfl | rfl | rfl | rfl | rfl | rfl | rfl | rfl | rfl | rfl <;> first | exact absurd c1 (by decide) | exact kv k (by simp [jn, *])
  · refine ⟨fun c19 => ?_, fun c19 => ?_⟩
    · refine ⟨fun c20 => ?_, fun c20 => ?_⟩
      · refine ⟨(by first | decide | grind), ?_⟩
        rcases h1 with rfl | rfl | rfl | rfl | rfl | rfl | rfl | rfl | rfl | rfl <;> first | exact absurd c1 (by decide) | exact kv k (by simp [jn, *])
      · rcases h1 with rfl | rfl | rfl | rfl | rfl | rfl | rfl | rfl | rfl | rfl <;> first | exact absurd c1 (by decide) | exact kv k (by simp [jn, *])
    · rcases h1 with rfl | rfl | rfl | rfl | rfl | rfl | rfl | rfl | rfl | rfl <;> first | exact absurd c1 (by decide) | exact kv k (by simp [jn, *])
  · refine ⟨fun c22 => ?_, fun c22 => ?_⟩
    · rcases h1 with rfl | rfl | rfl | rfl | rfl | rfl | rfl | rfl | rfl | rfl <;> first | exact absurd c1 (by decide) | exact kv k (by simp [jn, *])
    · refine ⟨fun c23 => ?_, fun c23 => ?_⟩
      · rcases h1 with rfl | rfl | rfl | rfl | rfl | rfl | rfl | rfl | rfl | rfl <;> first | exact absurd c1 (by decide) | exact kv k (by simp [jn, *])
      · rcases h1 with rfl | rfl | rfl | rfl | rfl | rfl | rfl | rfl | rfl | rfl <;> first | exact absurd c1 (by decide) | exact kv k (by simp [jn, *])
  · refine ⟨fun c24 => ?_, fun c24 => ?_⟩
    · rcases h1 with rfl | rfl | rfl | rfl | rfl | rfl | rfl | rfl | rfl | rfl <;> first | exact absurd c1 (by decide) | exact kv k (by simp [jn, *])
    · refine ⟨fun c25 => ?_, fun c25 => ?_⟩
      · rcases h1 with rfl | rfl | rfl | rfl | rfl | rfl | rfl | rfl | rfl | rfl <;> first | exact absurd c1 (by decide) | exact kv k (by simp [jn, *])
      · rcases h1 with rfl | rfl | rfl | rfl | rfl | rfl | rfl | rfl | rfl | rfl <;> first | exact absurd c1 (by decide) | exact kv k (by simp [jn, *])
  · refine ⟨fun c26 => ?_, fun c26 => ?_⟩
    · rcases h1 with rfl | rfl | rfl | rfl | rfl | rfl | rfl | rfl | rfl | rfl <;> first | exact absurd c1 (by decide) | exact kv k (by simp [jn, *])
    · refine ⟨fun c27 => ?_, fun c27 => ?_⟩
      · rcases h1 with rfl | rfl | rfl | rfl | rfl | rfl | rfl | rfl | rfl | rfl <;> first | exact absurd c1 (by decide) | exact kv k (by simp [jn, *])
      · rcases h1 with rfl | rfl | rfl | rfl | rfl | rfl | rfl | rfl | rfl | rfl <;> first | exact absurd c1 (by decide) | exact kv k (by simp [jn, *])
  · refine ⟨fun c28 => ?_, fun c28 => ?_⟩
    · rcases h1 with rfl | rfl | rfl | rfl | rfl | rfl | rfl | rfl | rfl | rfl <;> first | exact absurd c1 (by decide) | exact kv k (by simp [jn, *])
    · refine ⟨fun c29 => ?_, fun c29 => ?_⟩
      · rcases h1 with rfl | rfl | rfl | rfl | rfl | rfl | rfl | rfl | rfl | rfl <;> first | exact absurd c1 (by decide) | exact kv k (by simp [jn, *])
      · rcases h1 with rfl | rfl | rfl | rfl | rfl | rfl | rfl | rfl | rfl | rfl <;> first | exact absurd c1 (by decide) | exact kv k (by simp [jn, *])
  · refine ⟨fun c30 => ?_, fun c30 => ?_⟩
    · rcases h1 with rfl | rfl | rfl | rfl | rfl | rfl | rfl | rfl | rfl | rfl <;> first | exact absurd c1 (by decide) | exact kv k (by simp [jn, *])
    · refine ⟨fun c31 => ?_, fun c31 => ?_⟩
      · rcases h1 with rfl | rfl | rfl | rfl | rfl | rfl | rfl | rfl | rfl | rfl <;> first | exact absurd c1 (by decide) | exact kv k (by simp [jn, *])
      · rcases h1 with rfl | rfl | rfl | rfl | rfl | rfl | rfl | rfl | rfl | rfl <;> first | exact absurd c1 (by decide) | exact kv k (by simp [jn, *])
  · refine ⟨fun c32 => ?_, fun c32 => ?_⟩
    · rcases h1 with rfl | rfl | rfl | rfl | rfl | rfl | rfl | rfl | rfl | rfl <;> first | exact absurd c1 (by decide) | exact kv k (by simp [jn, *])
    · refine ⟨fun c33 => ?_, fun c33 => ?_⟩
      · rcases h1 with rfl | rfl | rfl | rfl | rfl | rfl | rfl | rfl | rfl | rfl <;> first | exact absurd c1 (by decide) | exact kv k (by simp [jn, *])
      · rcases h1 with rfl | rfl | rfl | rfl | rfl | rfl | rfl | rfl | rfl | rfl <;> first | exact absurd c1 (by decide) | exact kv k (by simp [jn, *])
  · refine ⟨fun c34 => ?_, fun c34 => ?_⟩
    · rcases h1 with rfl | rfl | rfl | rfl | rfl | rfl | rfl | rfl | rfl | rfl <;> first | exact absurd c1 (by decide) | exact kv k (by simp [jn, *])
    · refine ⟨fun c35 => ?_, fun c35 => ?_⟩
      · rcases h1 with rfl | rfl | rfl | rfl | rfl | rfl | rfl | rfl | rfl | rfl <;> first | exact absurd c1 (by decide) | exact kv k (by simp [jn, *])
      · rcases h1 with rfl | rfl | rfl | rfl | rfl | rfl | rfl | rfl | rfl | rfl <;> first | exact absurd c1 (by decide) | exact kv k (by simp [jn, *])
  · refine ⟨fun c36 => ?_, fun c36 => ?_⟩
    · rcases h1 with rfl | rfl | rfl | rfl | rfl | rfl | rfl | rfl | rfl | rfl <;> first | exact absurd c1 (by decide) | exact kv k (by simp [jn, *])
    · refine ⟨fun c37 => ?_, fun c37 => ?_⟩
      · rcases h1 with rfl | rfl | rfl | rfl | rfl | rfl | rfl | rfl | rfl | rfl <;> first | exact absurd c1 (by decide) | exact kv k (by simp [jn, *])
      · rcases h1 with rfl | rfl | rfl | rfl | rfl | rfl | rfl | rfl | rfl | rfl <;> first | exact absurd c1 (by decide) | exact kv k (by simp [jn, *])
  · refine ⟨fun c38 => ?_, fun c38 => ?_⟩
    · rcases h1 with rfl | rfl | rfl | rfl | rfl | rfl | rfl | rfl | rfl | rfl <;> first | exact absurd c1 (by decide) | exact kv k (by simp [jn, *])
    · refine ⟨fun c39 => ?_, fun c39 => ?_⟩
      · rcases h1 with rfl | rfl | rfl | rfl | rfl | rfl | rfl | rfl | rfl | rfl <;> first | exact absurd c1 (by decide) | exact kv k (by simp [jn, *])
      · rcases h1 with rfl | rfl | rfl | rfl | rfl | rfl | rfl | rfl | rfl | rfl <;> first | exact absurd c1 (by decide) | exact kv k (by simp [jn, *])
  · refine ⟨fun c40 => ?_, fun c40 => ?_⟩
    · rcases h1 with rfl | rfl | rfl | rfl | rfl | rfl | rfl | rfl | rfl | rfl <;> first | exact absurd c1 (by decide) | exact kv k (by simp [jn, *])
    · refine ⟨fun c41 => ?_, fun c41 => ?_⟩
      · rcases h1 with rfl | rfl | rfl | rfl | rfl | rfl | rfl | rfl | rfl | rfl <;> first | exact absurd c1 (by decide) | exact kv k (by simp [jn, *])
      · rcases h1 with rfl | rfl | rfl | rfl | rfl | rfl | rfl | rfl | rfl | rfl <;> first | exact absurd c1 (by decide) | exact kv k (by simp [jn, *])
  · refine ⟨fun c42 => ?_, fun c42 => ?_⟩
    · rcases h1 with rfl | rfl | rfl | rfl | rfl | rfl | rfl | rfl | rfl | rfl <;> first | exact absurd c1 (by decide) | exact kv k (by simp [jn, *])
    · refine ⟨fun c43 => ?_, fun c43 => ?_⟩
      · rcases h1 with rfl | rfl | rfl | rfl | rfl | rfl | rfl | rfl | rfl | rfl <;> first | exact absurd c1 (by decide) | exact kv k (by simp [jn, *])
      · rcases h1 with rfl | rfl | rfl | rfl | rfl | rfl | rfl | rfl | rfl | rfl <;> first | exact absurd c1 (by decide) | exact kv k (by simp [jn, *])
  · refine ⟨fun c44 => ?_, fun c44 => ?_⟩
    · rcases h1 with rfl | rfl | rfl | rfl | rfl | rfl | rfl | rfl | rfl | rfl <;> first | exact absurd c1 (by decide) | exact kv k (by simp [jn, *])
    · refine ⟨fun c45 => ?_, fun c45 => ?_⟩
      · rcases h1 with rfl | rfl | rfl | rfl | rfl | rfl | rfl | rfl | rfl | rfl <;> first | exact absurd c1 (by decide) | exact kv k (by simp [jn, *])
      · rcases h1 with rfl | rfl | rfl | rfl | rfl | rfl | rfl | rfl | rfl | rfl <;> first | exact absurd c1 (by decide) | exact kv k (by simp [jn, *])
  · refine ⟨fun c46 => ?_, fun c46 => ?_⟩
    · rcases h1 with rfl | rfl | rfl | rfl | rfl | rfl | rfl | rfl | rfl | rfl <;> first | exact absurd c1 (by decide) | exact kv k (by simp [jn, *])
    · rcases h1 with rfl | rfl | rfl | rfl | rfl | rfl | rfl | rfl | rfl | rfl <;> first | exact absurd c1 (by decide) | exact kv k (by simp [jn, *])
  · refine ⟨fun c47 => ?_, fun c47 => ?_⟩
    · rcases h1 with rfl | rfl | rfl | rfl | rfl | rfl | rfl | rfl | rfl | rfl <;> first | exact absurd c1 (by decide) | exact kv k (by simp [jn, *])
    · rcases h1 with rfl | rfl | rfl | rfl | rfl | rfl | rfl | rfl | rfl | rfl <;> first | exact absurd c1 (by decide) | exact kv k (by simp [jn, *])
  · refine ⟨fun c48 => ?_, fun c48 => ?_⟩
    · rcases h1 with rfl | rfl | rfl | rfl | rfl | rfl | rfl | rfl | rfl | rfl <;> first | exact absurd c1 (by decide) | exact kv k (by simp [jn, *])
    · rcases h1 with rfl | rfl | rfl | rfl | rfl | rfl | rfl | rfl | rfl | rfl <;> first | exact absurd c1 (by decide) | exact kv k (by simp [jn, *])
theorem c_X6_hasText (hG : fl G = false) (hd : 1 ≤ d) {u : Int32} (h1 : u = 0 ∨ u = 1) (k : K (some (.int (if tN (m 76) u ≤ 0 then 0 else 1))) m) : Cal G mX6_hasText d [.ref 75, .int u] SH (TA t n i) m K := by
  obtain ⟨d, rfl⟩ : ∃ e, d = e + 1 := ⟨d - 1, by omega⟩
  refine Cal.of (by decide +kernel) rfl (Nat.le_of_ble_eq_true rfl) (rg_X6_hasText_0 hG (75) (u) ?_)
  refine ⟨(by first | assumption | rfl), ?_⟩
  refine ⟨_, (by first | assumption | rfl), ?_⟩
  refine ⟨_, (by first | assumption | rfl), ?_⟩
  refine ⟨(by (first | assumption | (apply ib502 <;> grind [tN, tT]) | (apply ib16 <;> grind [tN, tT]) | (apply ib80 <;> grind [tN, tT]) | (apply ib672 <;> grind [tN, tT]) | (apply ib64 <;> grind [tN, tT]) | (apply ib128 <;> grind [tN, tT]) | (apply ib124 <;> grind [tN, tT]) | (apply ib96 <;> grind [tN, tT]) | (apply ib24 <;> grind [tN, tT]) | (apply ib60 <;> grind [tN, tT]) | (apply ib30 <;> grind [tN, tT]) | (apply ib28 <;> grind [tN, tT]) | (apply ib7 <;> grind [tN, tT]) | (apply ib4 <;> grind [tN, tT]) | (apply ib3 <;> grind [tN, tT]) | (exact inb (by grind [tN, tT]) (by grind [tN, tT]) (by omega)))), ?_⟩
  refine ⟨fun c7 => ?_, fun c7 => ?_⟩
  · first | exact k | exact kv k (by grind [tN, tT])
  · first | exact k | exact kv k (by grind [tN, tT])
theorem evs_top {u : Int32} {wh va : Nat → Int32} {nm : Int32 → Int32} {n : Nat} (h : WTx u wh va n) (hn : 0 < n) : ∃ a, evs wh va nm n = [a] := by
  have h1 := evs_len (nm := nm) n h.2.1
  rw [h.2.2 hn] at h1
  match hs : evs wh va nm n with
  | [] => rw [hs] at h1; cases h1
  | [a] => exact ⟨a, rfl⟩
  | a :: b :: r => rw [hs] at h1; simp at h1
theorem ib_T {u : Int32} (hu : u = 0 ∨ u = 1) : InB (tT u) 502 := by rcases hu with rfl | rfl <;> exact ib502 (by decide) (by decide)
theorem ib_T1 {u : Int32} (hu : u = 0 ∨ u = 1) {k : Nat} (hk : k < 60) : InB (tT u + 1 + 2 * Int32.ofNat k) 502 := by
  have h1 := o_0 k (by omega)
  have h2 : Int32.ofNat k < 60 := (o_lt (b := 60) (by omega) (by decide)).mpr hk
  generalize Int32.ofNat k = z at *
  rcases hu with rfl | rfl <;> exact ib502 (by simp only [tT]; grind) (by simp only [tT]; grind)
theorem ib_T2 {u : Int32} (hu : u = 0 ∨ u = 1) {k : Nat} (hk : k < 60) : InB (tT u + 2 + 2 * Int32.ofNat k) 502 := by
  have h1 := o_0 k (by omega)
  have h2 : Int32.ofNat k < 60 := (o_lt (b := 60) (by omega) (by decide)).mpr hk
  generalize Int32.ofNat k = z at *
  rcases hu with rfl | rfl <;> exact ib502 (by simp only [tT]; grind) (by simp only [tT]; grind)
theorem ib_o {k n : Nat} (hk : k < n) (hn : n < 2147483648) : InB (Int32.ofNat k) n := inb (o_0 k (by omega)) ((o_lt (by omega) hn).mpr hk) hn
theorem nmOK_ib {u v : Int32} (h : nmOK u v) : InB v 128 := by
  rcases h with ⟨-, rfl | rfl | rfl | rfl⟩ | ⟨-, rfl | rfl | rfl⟩ <;> exact ib128 (by decide) (by decide)
theorem c_X6_worked (hG : fl G = false) (hd : 2 ≤ d) {u : Int32} (h1 : u = 0 ∨ u = 1) (h2 : WX (m 76) u) (h3 : tN (m 76) u ≠ 0) (k : ∀ m', Fr [82] m m' → K (some (.int (tE (m 76) u (rd (m 81))))) m') : Cal G mX6_worked d [.ref 75, .int u] SH (TA t n i) m K := by
  obtain ⟨N, hN, hw⟩ := h2
  have hN0 : 0 < N := by
    rcases Nat.eq_zero_or_pos N with e | e
    · exact absurd (by rw [hN, e]; rfl) h3
    · exact e
  obtain ⟨a, ha⟩ := evs_top (nm := rd (m 81)) hw hN0
  have hk : ∀ m', Fr [82] m m' → K (some (.int a)) m' := by
    intro m' hf
    have := k m' hf
    rwa [tE, hN, tn_o (by have := hw.1; omega), ha] at this
  clear k
  have hloop : ∀ (r k : Nat), k + r = N → ∀ (m' : Mem) (x3 : Int32), Fr [82] m m' → x3 = Int32.ofNat (evs (tW (m 76) u) (tV (m 76) u) (rd (m 81)) k).length → PSt (evs (tW (m 76) u) (tV (m 76) u) (rd (m 81)) k) (m' 82) → WP G (rmD d 0 0) mX6_worked (QC G SH (TA t n i) K) 0 0 14 [(0, .ref 75), (2, .int (tT u)), (3, .int x3), (4, .int (Int32.ofNat k))] [] (SH, TA t n i, m') := by
    obtain ⟨d, rfl⟩ : ∃ e, d = e + 1 := ⟨d - 1, by omega⟩
    have hN60 := hw.1
    intro r
    induction r with
    | zero =>
      intro k hkr m' x3 hf h3 hs
      have hkN : k = N := by omega
      subst hkN
      have h76 : m' 76 = m 76 := hf 76 (by decide)
      refine rg_X6_worked_14 hG 75 (tT u) x3 (Int32.ofNat k) ⟨rfl, _, rfl, _, rfl, ib_T h1, fun _ => ⟨_, rfl, _, rfl, ib64 (by decide) (by decide), ?_⟩, fun c => absurd ?_ c⟩
      · rw [ha] at hs
        have := hs.1
        show K (some (.int (rd (m' 82) (Int32.ofNat 0)))) m'
        rw [show Int32.ofNat 0 = Int32.ofNat ([] : List Int32).length from rfl, this]
        exact hk m' hf
      · rw [h76]
        show tN (m 76) u ≤ _
        rw [hN]
        exact Int32.le_refl _
    | succ r ih =>
      intro k hkr m' x3 hf h3 hs
      have h76 : m' 76 = m 76 := hf 76 (by decide)
      have h81 : m' 81 = m 81 := hf 81 (by decide)
      have hk60 : k < 60 := by omega
      have hst := hw.2.1 k (by omega)
      have hlen := evs_len (nm := rd (m 81)) k (fun j hj => hw.2.1 j (by omega))
      have hdl := dps_le (tW (m 76) u) k
      have hL : x3 = Int32.ofNat (dps (tW (m 76) u) k) := by rw [h3, hlen]
      have go : ∀ (m2 : Mem) (y3 : Int32), Fr [82] m' m2 → y3 = Int32.ofNat (evs (tW (m 76) u) (tV (m 76) u) (rd (m 81)) (k + 1)).length → PSt (evs (tW (m 76) u) (tV (m 76) u) (rd (m 81)) (k + 1)) (m2 82) → WP G (rmD (d + 1) 0 0) mX6_worked (QC G SH (TA t n i) K) 0 0 14 [(0, .ref 75), (2, .int (tT u)), (3, .int y3), (4, .int (Int32.ofNat k + 1))] [] (SH, TA t n i, m2) := by
        intro m2 y3 hf2 hy hs2
        rw [o_1]
        exact ih (k + 1) (by omega) m2 y3 (hf.tr hf2) hy hs2
      clear ih
      have hib : InB x3 64 := by rw [hL]; exact ib_o (by omega) (by decide)
      have hE : evs (tW (m 76) u) (tV (m 76) u) (rd (m 81)) (k + 1) = stp (tW (m 76) u k) (tV (m 76) u k) (rd (m 81)) (evs (tW (m 76) u) (tV (m 76) u) (rd (m 81)) k) := rfl
      rw [hE] at go
      generalize hEv : evs (tW (m 76) u) (tV (m 76) u) (rd (m 81)) k = E at *
      have hst := hst
      refine rg_X6_worked_14 hG 75 (tT u) x3 (Int32.ofNat k) ?_
      refine ⟨rfl, _, rfl, _, rfl, ib_T h1, fun c => ?_, fun _ => ⟨ib_T1 h1 hk60, ib_T2 h1 hk60, ?_⟩⟩
      · exfalso
        rw [h76] at c
        have c : tN (m 76) u ≤ Int32.ofNat k := c
        rw [hN, o_le (by omega) (by omega)] at c
        omega
      rw [h76]
      show (tW (m 76) u k = 0 → _) ∧ (¬ tW (m 76) u k = 0 → _)
      change stOK u (tW (m 76) u) (tV (m 76) u) k at hst
      have eW : tW (m 76) u k = rd (m 76) (tT u + 1 + 2 * Int32.ofNat k) := rfl
      have eV : tV (m 76) u k = rd (m 76) (tT u + 2 + 2 * Int32.ofNat k) := rfl
      simp only [← eW, ← eV]
      unfold stOK at hst
      generalize tW (m 76) u k = w at *
      generalize tV (m 76) u k = v at *
      have hpush : ∀ x : Int32, PSt (x :: E) (upa m' 82 x3 x 82) := by
        intro x
        rw [upa_eq, h3]
        exact PSt_push hs (by omega)
      have hx3 : x3 + 1 = Int32.ofNat (E.length + 1) := by rw [h3, o_1]
      refine ⟨fun w0 => ⟨_, rfl, fun z => absurd w0 z, fun _ => ⟨_, rfl, hib, ?_⟩⟩, fun w0 => ⟨fun w1 => ⟨fun w2 => ?_, fun w2 => ?_⟩, fun w1 => ⟨_, rfl, fun _ => ⟨_, rfl, _, rfl, ?_, _, rfl, hib, ?_⟩, fun z => absurd z w0⟩⟩⟩
      · rintro _ rfl
        refine go _ _ (Fr.ua (by decide)) ?_ ?_
        · rw [stp0 w0]; exact hx3
        · rw [stp0 w0]; exact hpush v
      · obtain ⟨rfl, hsg, hd2⟩ : w = 3 ∧ sgOK v ∧ 2 ≤ dps (tW (m 76) u) k := by
          rcases hst with ⟨z, -⟩ | ⟨z, -⟩ | ⟨z, -⟩ | z
          · exact absurd z w0
          · exact absurd z w1
          · exact absurd z w2
          · exact z
        match E, hlen, hs, hpush, go, h3, hx3, hEv with
        | y :: x :: rr, hlen, hs, hpush, go, h3, hx3, hEv =>
          simp only [List.length_cons] at hlen h3
          have e1 : x3 + (-1) = Int32.ofNat (rr.length + 1) := by rw [h3, o_m]
          have e2 : x3 + (-1) - 1 = Int32.ofNat rr.length := by rw [e1, o_s]
          have i1 : InB (Int32.ofNat (rr.length + 1)) 64 := ib_o (by omega) (by decide)
          have i2 : InB (Int32.ofNat rr.length) 64 := ib_o (by omega) (by decide)
          rw [e2, e1]
          refine ⟨_, rfl, _, rfl, i2, i1, c_X6_joined hG (by omega) hsg ⟨_, rfl, i2, ?_⟩⟩
          rintro _ rfl
          have g1 : rd (m' 82) (Int32.ofNat (rr.length + 1)) = y := hs.1
          have g2 : rd (m' 82) (Int32.ofNat rr.length) = x := hs.2.1
          rw [g1, g2]
          refine go _ _ (Fr.ua (by decide)) ?_ ?_
          · simp [stp]
          · show PSt (jn v x y :: rr) _
            rw [upa_eq]
            exact PSt_push hs.2.2 (by omega)
        | [], hlen, _, _, _, _, _, _ => simp at hlen; omega
        | [_], hlen, _, _, _, _, _, _ => simp at hlen; omega
      · obtain ⟨rfl, hd2⟩ : w = 2 ∧ 1 ≤ dps (tW (m 76) u) k := by
          rcases hst with ⟨z, -⟩ | ⟨z, -⟩ | z | ⟨z, -⟩
          · exact absurd z w0
          · exact absurd z w1
          · exact z
          · rw [z] at w2; exact absurd w2 (by decide)
        match E, hlen, hs, hpush, go, h3, hx3, hEv with
        | y :: rr, hlen, hs, hpush, go, h3, hx3, hEv =>
          simp only [List.length_cons] at hlen h3
          have e1 : x3 - 1 = Int32.ofNat rr.length := by rw [h3, o_s]
          have i1 : InB (Int32.ofNat rr.length) 64 := ib_o (by omega) (by decide)
          have g1 : rd (m' 82) (Int32.ofNat rr.length) = y := hs.1
          have fin : ∀ z : Int32, z = (if y = 0 then 1 else 0) → ∀ m2, m2 = upa m' 82 (Int32.ofNat rr.length) z → WP G (rmD (d + 1) 0 0) mX6_worked (QC G SH (TA t n i) K) 0 0 14 [(0, .ref 75), (2, .int (tT u)), (3, .int x3), (4, .int (Int32.ofNat k + 1))] [] (SH, TA t n i, m2) := by
            rintro z hz _ rfl
            refine go _ _ (Fr.ua (by decide)) ?_ ?_
            · simp [stp, h3]
            · show PSt ((if y = 0 then 1 else 0) :: rr) _
              rw [upa_eq, ← hz]
              exact PSt_push hs.2 (by omega)
          rw [e1]
          exact ⟨_, rfl, _, rfl, i1, fun c => ⟨i1, fin 0 (by rw [g1] at c; rw [if_neg c])⟩, fun c => ⟨i1, fin 1 (by rw [g1] at c; rw [if_pos c])⟩⟩
        | [], hlen, _, _, _, _, _, _ => simp at hlen; omega
      · rcases hst with ⟨z, -⟩ | ⟨-, z⟩ | ⟨z, -⟩ | ⟨z, -⟩
        · exact absurd z w0
        · exact nmOK_ib z
        · rw [z] at w1; exact absurd w1 (by decide)
        · rw [z] at w1; exact absurd w1 (by decide)
      · rintro _ rfl
        rw [h81]
        refine go _ _ (Fr.ua (by decide)) ?_ ?_
        · rw [stp1 w1]; exact hx3
        · rw [stp1 w1]; exact hpush _
  obtain ⟨d, rfl⟩ : ∃ e, d = e + 1 := ⟨d - 1, by omega⟩
  refine Cal.of (by decide +kernel) rfl (Nat.le_of_ble_eq_true rfl) (rg_X6_worked_0 hG 75 u ?_)
  exact hloop N 0 (by omega) m 0 Fr.rf rfl trivial
end

