-- 61.bits
set_option maxHeartbeats 4000000 in
theorem fd_eq (l : Int64) : ∀ k, k < 8 → (l.toUInt64 >>> ((8 * Int32.ofNat k : Int32).toInt64.toUInt64 &&& Int64.toUInt64 63)).toInt64.toInt32 &&& 255 = ((l >>> ((8 * Int32.ofNat k : Int32).toInt64 &&& 63)) &&& 255).toInt32 := by
  have key : ∀ (j : Nat), j ≤ 56 → ∀ (s : UInt64) (t : Int64), s.toNat = j → t.toBitVec = BitVec.ofNat 64 j → (l.toUInt64 >>> s).toInt64.toInt32 &&& 255 = ((l >>> t) &&& 255).toInt32 := by
    intro j hj s t hs ht
    apply Int32.toBitVec_inj.mp
    apply BitVec.eq_of_getLsbD_eq
    intro i hi
    have e2 : t.toBitVec.smod 64 = BitVec.ofNat 64 j := by
      rw [ht]
      have : ∀ j, j ≤ 56 → (BitVec.ofNat 64 j).smod 64 = BitVec.ofNat 64 j := by decide
      exact this j hj
    have e255 : ∀ i, i < 32 → (255#32).getLsbD i = decide (i < 8) ∧ (255#64).getLsbD i = decide (i < 8) := by decide
    have L : ((l.toUInt64 >>> s).toInt64.toInt32 &&& 255).toBitVec.getLsbD i = (l.toBitVec.getLsbD (j + i) && decide (i < 8)) := by
      show (((l.toBitVec >>> (s.toBitVec % 64)).signExtend 32) &&& 255#32).getLsbD i = _
      rw [BitVec.getLsbD_and, (e255 i hi).1, BitVec.getLsbD_signExtend]
      have e1 : (s.toBitVec % 64).toNat = j := by
        show s.toNat % 64 = j
        rw [hs]; omega
      rw [BitVec.ushiftRight_eq', e1, BitVec.getLsbD_ushiftRight]
      simp [hi, show i < 64 by omega]
    have R : ((l >>> t) &&& 255).toInt32.toBitVec.getLsbD i = (l.toBitVec.getLsbD (j + i) && decide (i < 8)) := by
      show ((l.toBitVec.sshiftRight' (t.toBitVec.smod 64) &&& 255#64).signExtend 32).getLsbD i = _
      rw [BitVec.getLsbD_signExtend, if_pos (show i < 64 by omega), BitVec.getLsbD_and, (e255 i hi).2, e2]
      show (decide (i < 32) && ((l.toBitVec.sshiftRight (BitVec.ofNat 64 j).toNat).getLsbD i && decide (i < 8))) = _
      rw [BitVec.toNat_ofNat, Nat.mod_eq_of_lt (by omega), BitVec.getLsbD_sshiftRight]
      by_cases h8 : i < 8
      · simp [hi, h8, show j + i < 64 by omega]; omega
      · simp [h8]
    rw [L, R]
  intro k hk
  refine key (8 * k) (by omega) _ _ ?_ ?_
  · have : ∀ k, k < 8 → ((8 * Int32.ofNat k : Int32).toInt64.toUInt64 &&& Int64.toUInt64 63).toNat = 8 * k := by decide
    exact this k hk
  · have : ∀ k, k < 8 → ((8 * Int32.ofNat k : Int32).toInt64 &&& 63).toBitVec = BitVec.ofNat 64 (8 * k) := by decide
    exact this k hk
set_option maxHeartbeats 4000000 in
theorem and255 (a : Int32) : 0 ≤ a &&& 255 ∧ a &&& 255 ≤ 255 := by
  have hn : (a &&& 255).toBitVec.toNat ≤ 255 := by
    show (a.toBitVec &&& 255#32).toNat ≤ 255
    rw [BitVec.toNat_and]
    exact Nat.and_le_right
  have e : (a &&& 255).toInt = ((a &&& 255).toBitVec.toNat : Int) := BitVec.toInt_eq_toNat_of_lt (by omega)
  rw [Int32.le_iff_toInt_le, Int32.le_iff_toInt_le, e, show (0 : Int32).toInt = 0 from rfl, show (255 : Int32).toInt = 255 from rfl]
  omega
set_option maxHeartbeats 4000000 in
theorem sh_16 (v : Int32) : (v <<< (16 &&& 31)) >>> (16 &&& 31) = v.toInt16.toInt32 := by
  apply Int32.toBitVec_inj.mp
  apply BitVec.eq_of_getLsbD_eq
  intro i hi
  show ((v.toBitVec <<< (BitVec.ofNat 32 16)).sshiftRight 16).getLsbD i = ((v.toBitVec.signExtend 16).signExtend 32).getLsbD i
  rw [BitVec.getLsbD_sshiftRight, BitVec.getLsbD_signExtend]
  simp [hi, BitVec.msb_eq_getLsbD_last, BitVec.getLsbD_signExtend]
  split <;> rename_i h
  · rw [if_pos (by omega)]
    simp [show ¬ 32 ≤ i by omega, show 16 + i < 32 by omega, show i < 16 by omega]
  · rw [if_neg (by omega)]
    simp [BitVec.getElem_signExtend, show ¬ 32 ≤ i by omega]
set_option maxHeartbeats 4000000 in
theorem sh_8 (v : Int32) : (v <<< (24 &&& 31)) >>> (24 &&& 31) = v.toInt8.toInt32 := by
  apply Int32.toBitVec_inj.mp
  apply BitVec.eq_of_getLsbD_eq
  intro i hi
  show ((v.toBitVec <<< (BitVec.ofNat 32 24)).sshiftRight 24).getLsbD i = ((v.toBitVec.signExtend 8).signExtend 32).getLsbD i
  rw [BitVec.getLsbD_sshiftRight, BitVec.getLsbD_signExtend]
  simp [hi, BitVec.msb_eq_getLsbD_last, BitVec.getLsbD_signExtend]
  split <;> rename_i h
  · rw [if_pos (by omega)]
    simp [show ¬ 32 ≤ i by omega, show 24 + i < 32 by omega, show i < 8 by omega]
  · rw [if_neg (by omega)]
    simp [BitVec.getElem_signExtend, show ¬ 32 ≤ i by omega]
set_option maxHeartbeats 4000000 in
theorem sh_0 (v : Int32) : (v <<< (0 &&& 31)) >>> (0 &&& 31) = v := by
  apply Int32.toBitVec_inj.mp
  apply BitVec.eq_of_getLsbD_eq
  intro i hi
  show ((v.toBitVec <<< (BitVec.ofNat 32 0)).sshiftRight 0).getLsbD i = v.toBitVec.getLsbD i
  simp

