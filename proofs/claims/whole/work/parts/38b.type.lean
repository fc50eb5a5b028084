/-! the steps of the law: type -/
theorem x_byte_b (x : BitVec 64) (s : Nat) (hs : s + 8 ≤ 64) : BitVec.truncate 8 (BitVec.truncate 32 (x >>> s)) = BitVec.truncate 8 (BitVec.truncate 32 (x.sshiftRight s)) := by
  apply BitVec.eq_of_getLsbD_eq
  intro i hi
  simp only [BitVec.truncate_eq_setWidth, BitVec.getLsbD_setWidth, BitVec.getLsbD_ushiftRight, BitVec.getLsbD_sshiftRight]
  have h1 : s + i < 64 := by omega
  simp [h1, hi, show i < 32 by omega, show ¬ 64 ≤ i by omega]
theorem x_and255 (y : Int32) : y &&& 255 = y.toInt8.toInt32 &&& 255 := by
  apply Int32.toBitVec_inj.mp
  simp only [Int32.toBitVec_and, Int8.toBitVec_toInt32, Int32.toBitVec_toInt8]
  apply BitVec.eq_of_getLsbD_eq
  intro i hi
  have e : (255 : Int32).toBitVec = BitVec.ofNat 32 255 := rfl
  rw [e]
  simp only [BitVec.getLsbD_and, BitVec.getLsbD_signExtend, BitVec.getLsbD_setWidth, hi]
  by_cases c : i < 8
  · simp [c]
  · have e2 : (BitVec.ofNat 32 255).getLsbD i = false := by
      have : ∀ j : Fin 32, ¬ j.val < 8 → (BitVec.ofNat 32 255).getLsbD j.val = false := by decide
      exact this ⟨i, hi⟩ c
    rw [e2]
    simp
theorem x_type_sh (a : Int64) (s : Nat) (hs : ∃ k : Nat, k < 8 ∧ s = 8 * k) : ((a.toUInt64 >>> ((nI s).toInt64.toUInt64 &&& Int64.toUInt64 63)).toInt64).toBitVec = a.toBitVec >>> s ∧ (a >>> ((nI s).toInt64 &&& 63)).toBitVec = a.toBitVec.sshiftRight s := by
  obtain ⟨k, hk, rfl⟩ := hs
  have e : k = 0 ∨ k = 1 ∨ k = 2 ∨ k = 3 ∨ k = 4 ∨ k = 5 ∨ k = 6 ∨ k = 7 := by omega
  rcases e with rfl | rfl | rfl | rfl | rfl | rfl | rfl | rfl <;> exact ⟨rfl, rfl⟩
theorem x_se {w v : Nat} (x : BitVec w) (h : v ≤ w) : x.signExtend v = x.setWidth v := by
  apply BitVec.eq_of_getLsbD_eq
  intro i hi
  simp only [BitVec.getLsbD_signExtend, BitVec.getLsbD_setWidth, hi]
  simp [show i < w by omega]
theorem x_type_byte (a : Int64) (s : Nat) (hs : ∃ k : Nat, k < 8 ∧ s = 8 * k) : ((a.toUInt64 >>> ((nI s).toInt64.toUInt64 &&& Int64.toUInt64 63)).toInt64).toInt32 &&& 255 = ((a >>> ((nI s).toInt64 &&& 63)).toInt32).toInt8.toInt32 &&& 255 := by
  obtain ⟨e1, e2⟩ := x_type_sh a s hs
  generalize ((a.toUInt64 >>> ((nI s).toInt64.toUInt64 &&& Int64.toUInt64 63)).toInt64) = A at e1 ⊢
  generalize (a >>> ((nI s).toInt64 &&& 63)) = B at e2 ⊢
  obtain ⟨k, hk, rfl⟩ := hs
  rw [x_and255 A.toInt32]
  congr 2
  apply Int8.toBitVec_inj.mp
  have h := x_byte_b a.toBitVec (8 * k) (by omega)
  rw [← e1, ← e2] at h
  simp only [Int32.toBitVec_toInt8, Int64.toBitVec_toInt32, x_se (w := 64) (v := 32) _ (by decide), x_se (w := 32) (v := 8) _ (by decide)]
  exact h
theorem x_toInt8_id (y : Int32) : y.toInt8.toInt32.toInt8.toInt32 = y.toInt8.toInt32 := by
  congr 1
  apply Int8.toBitVec_inj.mp
  simp only [Int32.toBitVec_toInt8, Int8.toBitVec_toInt32, x_se (w := 32) (v := 8) _ (by decide)]
  apply BitVec.eq_of_getLsbD_eq
  intro i hi
  simp only [BitVec.getLsbD_signExtend, BitVec.getLsbD_setWidth, hi, show i < 32 by omega]
  simp
