/-! ===== bytes ===== -/
theorem bit255 : ∀ i, i < 32 → (255#32).getLsbD i = decide (i < 8) := by decide
theorem i8_and (x : Int32) : (Int32.toInt8 x).toInt32 &&& 255 = x &&& 255 := by
  apply Int32.toBitVec_inj.mp
  apply BitVec.eq_of_getLsbD_eq
  intro i hi
  rw [Int32.toBitVec_and, Int32.toBitVec_and, BitVec.getLsbD_and, BitVec.getLsbD_and]
  rw [show (255 : Int32).toBitVec = 255#32 from rfl, bit255 i hi]
  by_cases h : i < 8
  · simp [h, hi, BitVec.getElem_signExtend, BitVec.getLsbD_signExtend, show i < 32 from hi]
  · simp [h]
