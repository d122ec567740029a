-- 49.changed
-- one change of two things, and what it would haul
def chS (w : Nat → Int32) (N : Nat) (f : Nat → Int32) (i j : Int32) (p : Int32 × Int32) : Int32 × Int32 := if its f i 3 < 0 ∨ its f j 3 < 0 then p else if hls w (swA f i j) 0 0 N ≤ p.2 then p else (100 * i + j, hls w (swA f i j) 0 0 N)
def chJ (w : Nat → Int32) (N : Nat) (f : Nat → Int32) (i : Nat) (p : Int32 × Int32) (j : Nat) (k : Nat) : Int32 × Int32 := match k with
  | 0 => p
  | e + 1 => chJ w N f i (chS w N f (Int32.ofNat i) (Int32.ofNat j) p) (j + 1) e
def chI (w : Nat → Int32) (N : Nat) (f : Nat → Int32) (n : Nat) (p : Int32 × Int32) (i : Nat) (k : Nat) : Int32 × Int32 := match k with
  | 0 => p
  | e + 1 => chI w N f n (chJ w N f i p (i + 1) (n - (i + 1))) (i + 1) e
def chP (z u : Nat → Int32) (x : Int32) (f : Nat → Int32) : Int32 × Int32 := chI (fun j => u (24 * x.toNatClampNeg + j)) (rwN z u x) f (rd f 0).toNatClampNeg (-1, hls (fun j => u (24 * x.toNatClampNeg + j)) f 0 0 (rwN z u x)) 0 (rd f 0).toNatClampNeg
def chR (g z u : Nat → Int32) (x : Int32) (f : Nat → Int32) : Int32 × Int32 := if lkS g x = 0 then if (chP z u x f).1 = -1 then (2, 0) else (0, (chP z u x f).1) else (lkS g x, 0)
-- the best change is none yet, or two things in order
set_option maxHeartbeats 4000000 in
theorem chS_ok {w : Nat → Int32} {N : Nat} {f : Nat → Int32} {i j : Nat} {p : Int32 × Int32} (hi : i < 16) (hj : j < 16) (h : p.1 = -1 ∨ 0 ≤ p.1) : (chS w N f (Int32.ofNat i) (Int32.ofNat j) p).1 = -1 ∨ 0 ≤ (chS w N f (Int32.ofNat i) (Int32.ofNat j) p).1 := by
  unfold chS
  split
  · exact h
  · split
    · exact h
    · right
      show 0 ≤ 100 * Int32.ofNat i + Int32.ofNat j
      rw [show (100 : Int32) = Int32.ofNat 100 from rfl, o_mul, ← Int32.ofNat_add]
      exact o_0 _ (by omega)

