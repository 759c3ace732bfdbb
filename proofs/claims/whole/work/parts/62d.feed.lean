/-! the law: bytes are fed -/
section FEED
theorem by_bits (w : BitVec 32) (s : Nat) (hs : s ≤ 24) : (((w >>> s).signExtend 8).signExtend 32) &&& 255#32 = (w.sshiftRight s) &&& 255#32 := by
  apply BitVec.eq_of_getLsbD_eq
  intro i hi
  rw [BitVec.getLsbD_and, BitVec.getLsbD_and]
  by_cases h8 : i < 8
  · rw [BitVec.getLsbD_signExtend, BitVec.getLsbD_sshiftRight, BitVec.getLsbD_signExtend, BitVec.getLsbD_ushiftRight]
    simp [h8, hi, show s + i < 32 by omega, show ¬ 32 ≤ i by omega]
  · have : (255#32).getLsbD i = false := by
      have : ∀ i, i < 32 → ¬ i < 8 → (255#32).getLsbD i = false := by decide
      exact this i hi h8
    rw [this, Bool.and_false, Bool.and_false]
theorem by_tw (w : BitVec 32) : ((w.signExtend 8).signExtend 32).signExtend 8 = w.signExtend 8 := by
  apply BitVec.eq_of_getLsbD_eq
  intro i hi
  rw [BitVec.getLsbD_signExtend, BitVec.getLsbD_signExtend]
  simp [hi, show i < 32 by omega]
def fdS (s : Nat) : Prop := s = 24 ∨ s = 16 ∨ s = 8 ∨ s = 0
theorem fd_a (x : Int32) {s : Nat} (h : fdS s) : (x >>> (nI s &&& 31)).toBitVec = x.toBitVec.sshiftRight s := by
  rcases h with rfl | rfl | rfl | rfl <;> rfl
theorem fd_b (x : Int32) {s : Nat} (h : fdS s) : ((x.toUInt32 >>> ((nI s).toUInt32 &&& Int32.toUInt32 31)).toInt32).toBitVec = x.toBitVec >>> s := by
  rcases h with rfl | rfl | rfl | rfl <;> rfl
theorem i32_bv {a b : Int32} (h : a.toBitVec = b.toBitVec) : a = b := Int32.toBitVec_inj.mp h
theorem fd_byte (x : Int32) {s : Nat} (h : fdS s) : ∃ b : Nat, b < 256 ∧ vp_nar .byte (((x.toUInt32 >>> ((nI s).toUInt32 &&& Int32.toUInt32 31)).toInt32).toInt8.toInt32) &&& 255 = nI b ∧ (x >>> (nI s &&& 31)) &&& 255 = nI b := by
  have hs : s ≤ 24 := by rcases h with rfl | rfl | rfl | rfl <;> decide
  have e1 : vp_nar .byte (((x.toUInt32 >>> ((nI s).toUInt32 &&& Int32.toUInt32 31)).toInt32).toInt8.toInt32) &&& 255 = (x >>> (nI s &&& 31)) &&& 255 := by
    apply i32_bv
    rw [Int32.toBitVec_and, Int32.toBitVec_and, fd_a x h]
    rw [show ∀ y, vp_nar .byte y = y.toInt8.toInt32 from fun _ => rfl, Int8.toBitVec_toInt32, Int32.toBitVec_toInt8, Int8.toBitVec_toInt32, Int32.toBitVec_toInt8, by_tw, fd_b x h]
    exact by_bits _ s hs
  have e2 : ((x >>> (nI s &&& 31)) &&& 255).toBitVec.toNat < 256 := by
    rw [Int32.toBitVec_and, BitVec.toNat_and]
    exact Nat.lt_of_le_of_lt Nat.and_le_right (by decide)
  refine ⟨((x >>> (nI s &&& 31)) &&& 255).toBitVec.toNat, e2, ?_, ?_⟩
  · rw [e1]; apply i32_bv; apply BitVec.eq_of_toNat_eq
    show _ = (BitVec.ofNat 32 _).toNat
    rw [BitVec.toNat_ofNat, Nat.mod_eq_of_lt (by omega)]
  · apply i32_bv; apply BitVec.eq_of_toNat_eq
    show _ = (BitVec.ofNat 32 _).toNat
    rw [BitVec.toNat_ofNat, Nat.mod_eq_of_lt (by omega)]
end FEED
