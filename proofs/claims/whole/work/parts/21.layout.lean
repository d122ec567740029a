def SH : List Shp := [.inl 5, .inl 2, .inr (0, 60), .inl 2, .inr (0, 60), .inl 2, .inr (0, 24), .inl 2, .inr (0, 24), .inl 1, .inl 2, .inr (0, 0), .inl 3, .inl 2, .inr (0, 60), .inr (0, 60), .inl 3, .inl 2, .inr (0, 60), .inr (0, 60), .inl 4, .inl 2, .inr (0, 30), .inr (1, 4), .inl 2, .inr (0, 24), .inl 2, .inr (0, 24), .inl 2, .inr (0, 24), .inl 2, .inr (0, 24), .inr (0, 4), .inr (0, 3), .inr (0, 7), .inl 0, .inl 3, .inl 2, .inr (0, 60), .inr (0, 60), .inl 3, .inl 2, .inr (0, 60), .inr (0, 60), .inr (0, 16), .inr (0, 16), .inr (0, 16), .inr (0, 16), .inr (0, 16), .inr (0, 80), .inr (0, 16), .inl 0, .inl 3, .inl 2, .inr (0, 60), .inr (0, 60), .inl 3, .inl 2, .inr (0, 60), .inr (0, 60), .inr (0, 16), .inr (0, 16), .inr (0, 16), .inr (0, 16), .inr (0, 16), .inr (0, 80), .inr (0, 16), .inl 0, .inr (0, 16), .inr (0, 16), .inr (0, 16), .inr (0, 16), .inr (0, 16), .inr (0, 80), .inr (0, 16), .inl 6, .inr (0, 502), .inr (0, 502), .inr (0, 672), .inr (0, 7), .inr (0, 124), .inr (0, 128), .inr (0, 64), .inr (0, 3), .inr (0, 30), .inr (0, 4), .inr (0, 4), .inr (0, 96), .inr (0, 24)]
def TAL (t n i : Nat) : List (List (Option Nat)) := [[some 35, some 51, some 67, some 1, some 3, some 5, some 7, some 9, some 16, some 20, some 23, some 32, some 33, some 34], [some 2], [], [some 4], [], [some 6], [], [some 8], [], [some t, some n, some i], [some 11], [], [some 13, some 15], [some 14], [], [], [some 17, some 19], [some 18], [], [], [some 21], [some 22], [], [some 24, some 26, some 28, some 30], [some 25], [], [some 27], [], [some 29], [], [some 31], [], [], [], [], [some 36, some 40, some 44, some 45, some 46, some 47, some 48, some 49, some 50], [some 37, some 39], [some 38], [], [], [some 41, some 43], [some 42], [], [], [], [], [], [], [], [], [], [some 52, some 56, some 60, some 61, some 62, some 63, some 64, some 65, some 66], [some 53, some 55], [some 54], [], [], [some 57, some 59], [some 58], [], [], [], [], [], [], [], [], [], [some 36, some 40, some 68, some 69, some 70, some 71, some 72, some 73, some 74], [], [], [], [], [], [], [], [some 76, some 77, some 78, none, some 79, none, none, none, none, some 80, some 81, some 82, some 83, none, some 84, none, none, none, some 85, some 86, some 87, some 88], [], [], [], [], [], [], [], [], [], [], [], [], []]
def TA (t n i : Nat) : Nat → Nat → Option Nat := fun k j => ((TAL t n i).getD k []).getD j none
theorem s0 : SH[0]? = some (.inl 5) := rfl
theorem s1 : SH[1]? = some (.inl 2) := rfl
theorem s2 : SH[2]? = some (.inr (0, 60)) := rfl
theorem s3 : SH[3]? = some (.inl 2) := rfl
theorem s4 : SH[4]? = some (.inr (0, 60)) := rfl
theorem s5 : SH[5]? = some (.inl 2) := rfl
theorem s6 : SH[6]? = some (.inr (0, 24)) := rfl
theorem s7 : SH[7]? = some (.inl 2) := rfl
theorem s8 : SH[8]? = some (.inr (0, 24)) := rfl
theorem s9 : SH[9]? = some (.inl 1) := rfl
theorem s10 : SH[10]? = some (.inl 2) := rfl
theorem s11 : SH[11]? = some (.inr (0, 0)) := rfl
theorem s12 : SH[12]? = some (.inl 3) := rfl
theorem s13 : SH[13]? = some (.inl 2) := rfl
theorem s14 : SH[14]? = some (.inr (0, 60)) := rfl
theorem s15 : SH[15]? = some (.inr (0, 60)) := rfl
theorem s16 : SH[16]? = some (.inl 3) := rfl
theorem s17 : SH[17]? = some (.inl 2) := rfl
theorem s18 : SH[18]? = some (.inr (0, 60)) := rfl
theorem s19 : SH[19]? = some (.inr (0, 60)) := rfl
theorem s20 : SH[20]? = some (.inl 4) := rfl
theorem s21 : SH[21]? = some (.inl 2) := rfl
theorem s22 : SH[22]? = some (.inr (0, 30)) := rfl
theorem s23 : SH[23]? = some (.inr (1, 4)) := rfl
theorem s24 : SH[24]? = some (.inl 2) := rfl
theorem s25 : SH[25]? = some (.inr (0, 24)) := rfl
theorem s26 : SH[26]? = some (.inl 2) := rfl
theorem s27 : SH[27]? = some (.inr (0, 24)) := rfl
theorem s28 : SH[28]? = some (.inl 2) := rfl
theorem s29 : SH[29]? = some (.inr (0, 24)) := rfl
theorem s30 : SH[30]? = some (.inl 2) := rfl
theorem s31 : SH[31]? = some (.inr (0, 24)) := rfl
theorem s32 : SH[32]? = some (.inr (0, 4)) := rfl
theorem s33 : SH[33]? = some (.inr (0, 3)) := rfl
theorem s34 : SH[34]? = some (.inr (0, 7)) := rfl
theorem s35 : SH[35]? = some (.inl 0) := rfl
theorem s36 : SH[36]? = some (.inl 3) := rfl
theorem s37 : SH[37]? = some (.inl 2) := rfl
theorem s38 : SH[38]? = some (.inr (0, 60)) := rfl
theorem s39 : SH[39]? = some (.inr (0, 60)) := rfl
theorem s40 : SH[40]? = some (.inl 3) := rfl
theorem s41 : SH[41]? = some (.inl 2) := rfl
theorem s42 : SH[42]? = some (.inr (0, 60)) := rfl
theorem s43 : SH[43]? = some (.inr (0, 60)) := rfl
theorem s44 : SH[44]? = some (.inr (0, 16)) := rfl
theorem s45 : SH[45]? = some (.inr (0, 16)) := rfl
theorem s46 : SH[46]? = some (.inr (0, 16)) := rfl
theorem s47 : SH[47]? = some (.inr (0, 16)) := rfl
theorem s48 : SH[48]? = some (.inr (0, 16)) := rfl
theorem s49 : SH[49]? = some (.inr (0, 80)) := rfl
theorem s50 : SH[50]? = some (.inr (0, 16)) := rfl
theorem s51 : SH[51]? = some (.inl 0) := rfl
theorem s52 : SH[52]? = some (.inl 3) := rfl
theorem s53 : SH[53]? = some (.inl 2) := rfl
theorem s54 : SH[54]? = some (.inr (0, 60)) := rfl
theorem s55 : SH[55]? = some (.inr (0, 60)) := rfl
theorem s56 : SH[56]? = some (.inl 3) := rfl
theorem s57 : SH[57]? = some (.inl 2) := rfl
theorem s58 : SH[58]? = some (.inr (0, 60)) := rfl
theorem s59 : SH[59]? = some (.inr (0, 60)) := rfl
theorem s60 : SH[60]? = some (.inr (0, 16)) := rfl
theorem s61 : SH[61]? = some (.inr (0, 16)) := rfl
theorem s62 : SH[62]? = some (.inr (0, 16)) := rfl
theorem s63 : SH[63]? = some (.inr (0, 16)) := rfl
theorem s64 : SH[64]? = some (.inr (0, 16)) := rfl
theorem s65 : SH[65]? = some (.inr (0, 80)) := rfl
theorem s66 : SH[66]? = some (.inr (0, 16)) := rfl
theorem s67 : SH[67]? = some (.inl 0) := rfl
theorem s68 : SH[68]? = some (.inr (0, 16)) := rfl
theorem s69 : SH[69]? = some (.inr (0, 16)) := rfl
theorem s70 : SH[70]? = some (.inr (0, 16)) := rfl
theorem s71 : SH[71]? = some (.inr (0, 16)) := rfl
theorem s72 : SH[72]? = some (.inr (0, 16)) := rfl
theorem s73 : SH[73]? = some (.inr (0, 80)) := rfl
theorem s74 : SH[74]? = some (.inr (0, 16)) := rfl
theorem s75 : SH[75]? = some (.inl 6) := rfl
theorem s76 : SH[76]? = some (.inr (0, 502)) := rfl
theorem s77 : SH[77]? = some (.inr (0, 502)) := rfl
theorem s78 : SH[78]? = some (.inr (0, 672)) := rfl
theorem s79 : SH[79]? = some (.inr (0, 7)) := rfl
theorem s80 : SH[80]? = some (.inr (0, 124)) := rfl
theorem s81 : SH[81]? = some (.inr (0, 128)) := rfl
theorem s82 : SH[82]? = some (.inr (0, 64)) := rfl
theorem s83 : SH[83]? = some (.inr (0, 3)) := rfl
theorem s84 : SH[84]? = some (.inr (0, 30)) := rfl
theorem s85 : SH[85]? = some (.inr (0, 4)) := rfl
theorem s86 : SH[86]? = some (.inr (0, 4)) := rfl
theorem s87 : SH[87]? = some (.inr (0, 96)) := rfl
theorem s88 : SH[88]? = some (.inr (0, 24)) := rfl
theorem t0_0 {t n i : Nat} : TA t n i 0 0 = some 35 := rfl
theorem t0_1 {t n i : Nat} : TA t n i 0 1 = some 51 := rfl
theorem t0_2 {t n i : Nat} : TA t n i 0 2 = some 67 := rfl
theorem t0_3 {t n i : Nat} : TA t n i 0 3 = some 1 := rfl
theorem t0_4 {t n i : Nat} : TA t n i 0 4 = some 3 := rfl
theorem t0_5 {t n i : Nat} : TA t n i 0 5 = some 5 := rfl
theorem t0_6 {t n i : Nat} : TA t n i 0 6 = some 7 := rfl
theorem t0_7 {t n i : Nat} : TA t n i 0 7 = some 9 := rfl
theorem t0_8 {t n i : Nat} : TA t n i 0 8 = some 16 := rfl
theorem t0_9 {t n i : Nat} : TA t n i 0 9 = some 20 := rfl
theorem t0_10 {t n i : Nat} : TA t n i 0 10 = some 23 := rfl
theorem t0_11 {t n i : Nat} : TA t n i 0 11 = some 32 := rfl
theorem t0_12 {t n i : Nat} : TA t n i 0 12 = some 33 := rfl
theorem t0_13 {t n i : Nat} : TA t n i 0 13 = some 34 := rfl
theorem t1_0 {t n i : Nat} : TA t n i 1 0 = some 2 := rfl
theorem t3_0 {t n i : Nat} : TA t n i 3 0 = some 4 := rfl
theorem t5_0 {t n i : Nat} : TA t n i 5 0 = some 6 := rfl
theorem t7_0 {t n i : Nat} : TA t n i 7 0 = some 8 := rfl
theorem t10_0 {t n i : Nat} : TA t n i 10 0 = some 11 := rfl
theorem t12_0 {t n i : Nat} : TA t n i 12 0 = some 13 := rfl
theorem t12_1 {t n i : Nat} : TA t n i 12 1 = some 15 := rfl
theorem t13_0 {t n i : Nat} : TA t n i 13 0 = some 14 := rfl
theorem t16_0 {t n i : Nat} : TA t n i 16 0 = some 17 := rfl
theorem t16_1 {t n i : Nat} : TA t n i 16 1 = some 19 := rfl
theorem t17_0 {t n i : Nat} : TA t n i 17 0 = some 18 := rfl
theorem t20_0 {t n i : Nat} : TA t n i 20 0 = some 21 := rfl
theorem t21_0 {t n i : Nat} : TA t n i 21 0 = some 22 := rfl
theorem t23_0 {t n i : Nat} : TA t n i 23 0 = some 24 := rfl
theorem t23_1 {t n i : Nat} : TA t n i 23 1 = some 26 := rfl
theorem t23_2 {t n i : Nat} : TA t n i 23 2 = some 28 := rfl
theorem t23_3 {t n i : Nat} : TA t n i 23 3 = some 30 := rfl
theorem t24_0 {t n i : Nat} : TA t n i 24 0 = some 25 := rfl
theorem t26_0 {t n i : Nat} : TA t n i 26 0 = some 27 := rfl
theorem t28_0 {t n i : Nat} : TA t n i 28 0 = some 29 := rfl
theorem t30_0 {t n i : Nat} : TA t n i 30 0 = some 31 := rfl
theorem t35_0 {t n i : Nat} : TA t n i 35 0 = some 36 := rfl
theorem t35_1 {t n i : Nat} : TA t n i 35 1 = some 40 := rfl
theorem t35_2 {t n i : Nat} : TA t n i 35 2 = some 44 := rfl
theorem t35_3 {t n i : Nat} : TA t n i 35 3 = some 45 := rfl
theorem t35_4 {t n i : Nat} : TA t n i 35 4 = some 46 := rfl
theorem t35_5 {t n i : Nat} : TA t n i 35 5 = some 47 := rfl
theorem t35_6 {t n i : Nat} : TA t n i 35 6 = some 48 := rfl
theorem t35_7 {t n i : Nat} : TA t n i 35 7 = some 49 := rfl
theorem t35_8 {t n i : Nat} : TA t n i 35 8 = some 50 := rfl
theorem t36_0 {t n i : Nat} : TA t n i 36 0 = some 37 := rfl
theorem t36_1 {t n i : Nat} : TA t n i 36 1 = some 39 := rfl
theorem t37_0 {t n i : Nat} : TA t n i 37 0 = some 38 := rfl
theorem t40_0 {t n i : Nat} : TA t n i 40 0 = some 41 := rfl
theorem t40_1 {t n i : Nat} : TA t n i 40 1 = some 43 := rfl
theorem t41_0 {t n i : Nat} : TA t n i 41 0 = some 42 := rfl
theorem t51_0 {t n i : Nat} : TA t n i 51 0 = some 52 := rfl
theorem t51_1 {t n i : Nat} : TA t n i 51 1 = some 56 := rfl
theorem t51_2 {t n i : Nat} : TA t n i 51 2 = some 60 := rfl
theorem t51_3 {t n i : Nat} : TA t n i 51 3 = some 61 := rfl
theorem t51_4 {t n i : Nat} : TA t n i 51 4 = some 62 := rfl
theorem t51_5 {t n i : Nat} : TA t n i 51 5 = some 63 := rfl
theorem t51_6 {t n i : Nat} : TA t n i 51 6 = some 64 := rfl
theorem t51_7 {t n i : Nat} : TA t n i 51 7 = some 65 := rfl
theorem t51_8 {t n i : Nat} : TA t n i 51 8 = some 66 := rfl
theorem t52_0 {t n i : Nat} : TA t n i 52 0 = some 53 := rfl
theorem t52_1 {t n i : Nat} : TA t n i 52 1 = some 55 := rfl
theorem t53_0 {t n i : Nat} : TA t n i 53 0 = some 54 := rfl
theorem t56_0 {t n i : Nat} : TA t n i 56 0 = some 57 := rfl
theorem t56_1 {t n i : Nat} : TA t n i 56 1 = some 59 := rfl
theorem t57_0 {t n i : Nat} : TA t n i 57 0 = some 58 := rfl
theorem t67_0 {t n i : Nat} : TA t n i 67 0 = some 36 := rfl
theorem t67_1 {t n i : Nat} : TA t n i 67 1 = some 40 := rfl
theorem t67_2 {t n i : Nat} : TA t n i 67 2 = some 68 := rfl
theorem t67_3 {t n i : Nat} : TA t n i 67 3 = some 69 := rfl
theorem t67_4 {t n i : Nat} : TA t n i 67 4 = some 70 := rfl
theorem t67_5 {t n i : Nat} : TA t n i 67 5 = some 71 := rfl
theorem t67_6 {t n i : Nat} : TA t n i 67 6 = some 72 := rfl
theorem t67_7 {t n i : Nat} : TA t n i 67 7 = some 73 := rfl
theorem t67_8 {t n i : Nat} : TA t n i 67 8 = some 74 := rfl
theorem t75_0 {t n i : Nat} : TA t n i 75 0 = some 76 := rfl
theorem t75_1 {t n i : Nat} : TA t n i 75 1 = some 77 := rfl
theorem t75_2 {t n i : Nat} : TA t n i 75 2 = some 78 := rfl
theorem t75_4 {t n i : Nat} : TA t n i 75 4 = some 79 := rfl
theorem t75_9 {t n i : Nat} : TA t n i 75 9 = some 80 := rfl
theorem t75_10 {t n i : Nat} : TA t n i 75 10 = some 81 := rfl
theorem t75_11 {t n i : Nat} : TA t n i 75 11 = some 82 := rfl
theorem t75_12 {t n i : Nat} : TA t n i 75 12 = some 83 := rfl
theorem t75_14 {t n i : Nat} : TA t n i 75 14 = some 84 := rfl
theorem t75_18 {t n i : Nat} : TA t n i 75 18 = some 85 := rfl
theorem t75_19 {t n i : Nat} : TA t n i 75 19 = some 86 := rfl
theorem t75_20 {t n i : Nat} : TA t n i 75 20 = some 87 := rfl
theorem t75_21 {t n i : Nat} : TA t n i 75 21 = some 88 := rfl
theorem t9_0 {t n i : Nat} : TA t n i 9 0 = some t := rfl
theorem t9_1 {t n i : Nat} : TA t n i 9 1 = some n := rfl
theorem t9_2 {t n i : Nat} : TA t n i 9 2 = some i := rfl
theorem ib4 {x : Int32} (h0 : 0 ≤ x) (h : x < 4) : InB x 4 := inb h0 h (by decide)
theorem ib7 {x : Int32} (h0 : 0 ≤ x) (h : x < 7) : InB x 7 := inb h0 h (by decide)
theorem ib16 {x : Int32} (h0 : 0 ≤ x) (h : x < 16) : InB x 16 := inb h0 h (by decide)
theorem ib24 {x : Int32} (h0 : 0 ≤ x) (h : x < 24) : InB x 24 := inb h0 h (by decide)
theorem ib28 {x : Int32} (h0 : 0 ≤ x) (h : x < 28) : InB x 28 := inb h0 h (by decide)
theorem ib30 {x : Int32} (h0 : 0 ≤ x) (h : x < 30) : InB x 30 := inb h0 h (by decide)
theorem ib60 {x : Int32} (h0 : 0 ≤ x) (h : x < 60) : InB x 60 := inb h0 h (by decide)
theorem ib64 {x : Int32} (h0 : 0 ≤ x) (h : x < 64) : InB x 64 := inb h0 h (by decide)
theorem ib80 {x : Int32} (h0 : 0 ≤ x) (h : x < 80) : InB x 80 := inb h0 h (by decide)
theorem ib96 {x : Int32} (h0 : 0 ≤ x) (h : x < 96) : InB x 96 := inb h0 h (by decide)
theorem ib124 {x : Int32} (h0 : 0 ≤ x) (h : x < 124) : InB x 124 := inb h0 h (by decide)
theorem ib128 {x : Int32} (h0 : 0 ≤ x) (h : x < 128) : InB x 128 := inb h0 h (by decide)
theorem ib502 {x : Int32} (h0 : 0 ≤ x) (h : x < 502) : InB x 502 := inb h0 h (by decide)
theorem ib672 {x : Int32} (h0 : 0 ≤ x) (h : x < 672) : InB x 672 := inb h0 h (by decide)
theorem ib3 {x : Int32} (h0 : 0 ≤ x) (h : x < 3) : InB x 3 := inb h0 h (by decide)
theorem SH_len : SH.length = 89 := rfl
theorem rd_wr {f : Nat → Int32} {i j x : Int32} (hi : 0 ≤ i) (hj : 0 ≤ j) : rd (wr f i x) j = if i = j then x else rd f j := by
  unfold rd wr
  by_cases h : i = j
  · rw [if_pos h, if_pos (by rw [h])]
  · rw [if_neg h, if_neg (fun e => h (tn_inj hi hj e.symm))]
theorem up2_ne {m : Mem} {k j a : Nat} {x : Int32} (h : a ≠ k) : up2 m k j x a = m a := by funext z; simp [up2, h]
theorem up2_eq {m : Mem} {k j b : Nat} {x : Int32} : up2 m k j x k b = if b = j then x else m k b := by simp [up2]
theorem upa_ne {m : Mem} {k a : Nat} {i x : Int32} (h : a ≠ k) : upa m k i x a = m a := up2_ne h
theorem upa_eq {m : Mem} {k : Nat} {i x : Int32} : upa m k i x k = wr (m k) i x := by funext z; simp [upa, up2, wr]
def set1 (m : Mem) (k : Nat) (f : Nat → Int32) : Mem := fun a => if a = k then f else m a
theorem set1_eq {m : Mem} {k : Nat} {f : Nat → Int32} : set1 m k f k = f := if_pos rfl
theorem set1_ne {m : Mem} {k a : Nat} {f : Nat → Int32} (h : a ≠ k) : set1 m k f a = m a := if_neg h
theorem upa_set {m : Mem} {k : Nat} {i x : Int32} : upa m k i x = set1 m k (wr (m k) i x) := by
  funext a
  by_cases h : a = k
  · rw [h, upa_eq, set1_eq]
  · rw [upa_ne h, set1_ne h]
theorem set1_set {m : Mem} {k : Nat} {f g : Nat → Int32} : set1 (set1 m k f) k g = set1 m k g := by
  funext a
  by_cases h : a = k <;> simp [set1, h]
theorem set1_self {m : Mem} {k : Nat} : set1 m k (m k) = m := by
  funext a
  by_cases h : a = k <;> simp [set1, h]
/-- all objects but those of the list stay -/
def Fr (L : List Nat) (m m' : Mem) : Prop := ∀ a, a ∉ L → m' a = m a
theorem Fr.rf {L : List Nat} {m : Mem} : Fr L m m := fun _ _ => rfl
theorem Fr.tr {L : List Nat} {m m' m'' : Mem} (h : Fr L m m') (g : Fr L m' m'') : Fr L m m'' := fun a ha => (g a ha).trans (h a ha)
theorem Fr.mo {L L' : List Nat} {m m' : Mem} (h : Fr L m m') (hs : ∀ a ∈ L, a ∈ L') : Fr L' m m' := fun a ha => h a (fun q => ha (hs a q))
theorem Fr.s1 {L : List Nat} {m : Mem} {k : Nat} {f : Nat → Int32} (h : k ∈ L) : Fr L m (set1 m k f) := fun a ha => set1_ne (fun e => ha (e ▸ h))
theorem Fr.ua {L : List Nat} {m : Mem} {k : Nat} {i x : Int32} (h : k ∈ L) : Fr L m (upa m k i x) := fun a ha => upa_ne (fun e => ha (e ▸ h))
theorem Fr.u2 {L : List Nat} {m : Mem} {k j : Nat} {x : Int32} (h : k ∈ L) : Fr L m (up2 m k j x) := fun a ha => up2_ne (fun e => ha (e ▸ h))
/-- counting down to a bound: what holds at the bound, and at i if at i + 1, holds up to it -/
theorem i32_down {P : Int32 → Prop} {N : Int32} (h0 : P N) (hs : ∀ i, i < N → P (i + 1) → P i) : ∀ i, i ≤ N → P i := by
  have key : ∀ (k : Nat) (i : Int32), (N.toInt - i.toInt).toNat = k → i ≤ N → P i := by
    intro k
    induction k with
    | zero =>
      intro i hk hi
      have h1 := Int32.le_iff_toInt_le.mp hi
      have : i = N := Int32.toInt_inj.mp (by omega)
      exact this ▸ h0
    | succ k ih =>
      intro i hk hi
      have hlt : i < N := Int32.lt_iff_toInt_lt.mpr (by omega)
      have h2 : (i + 1).toInt = i.toInt + 1 := by
        have := Int32.toInt_lt N
        have := Int32.le_toInt i
        rw [Int32.toInt_add, show (1 : Int32).toInt = 1 from rfl, Int.bmod_eq_of_le (by omega) (by omega)]
      exact hs i hlt (ih (i + 1) (by omega) (Int32.le_iff_toInt_le.mpr (by omega)))
  intro i hi
  exact key _ i rfl hi
