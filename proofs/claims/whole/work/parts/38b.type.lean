/-! the steps of the law: type -/
theorem x_byte_b (x : BitVec 64) (s : Nat) (hs : s + 8 ≤ 64) : BitVec.truncate 8 (BitVec.truncate 32 (x >>> s)) = BitVec.truncate 8 (BitVec.truncate 32 (x.sshiftRight s)) := by
  apply BitVec.eq_of_getLsbD_eq
  intro i hi
  simp only [BitVec.truncate_eq_setWidth, BitVec.getLsbD_setWidth, BitVec.getLsbD_ushiftRight, BitVec.getLsbD_sshiftRight]
  have h1 : s + i < 64 := by omega
  simp [h1, hi, show i < 32 by omega, show ¬ 64 ≤ i by omega]
theorem x_and255 (y : Int32) : y &&& 255 = y.toInt8.toInt32 &&& 255 := by
  apply Int32.toBitVec_inj.mp
  simp only [Int32.toBitVec_and, Int8.toBitVec_toInt32, Int32.toBitVec_toInt8]
  apply BitVec.eq_of_getLsbD_eq
  intro i hi
  have e : (255 : Int32).toBitVec = BitVec.ofNat 32 255 := rfl
  rw [e]
  simp only [BitVec.getLsbD_and, BitVec.getLsbD_signExtend, BitVec.getLsbD_setWidth, hi]
  by_cases c : i < 8
  · simp [c]
  · have e2 : (BitVec.ofNat 32 255).getLsbD i = false := by
      have : ∀ j : Fin 32, ¬ j.val < 8 → (BitVec.ofNat 32 255).getLsbD j.val = false := by decide
      exact this ⟨i, hi⟩ c
    rw [e2]
    simp
