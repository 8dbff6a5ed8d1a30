/-! ===== bytes ===== -/
theorem bit255 : ∀ i, i < 32 → (255#32).getLsbD i = decide (i < 8) := by decide
theorem i8_and (x : Int32) : (Int32.toInt8 x).toInt32 &&& 255 = x &&& 255 := by
  apply Int32.toBitVec_inj.mp
  apply BitVec.eq_of_getLsbD_eq
  intro i hi
  rw [Int32.toBitVec_and, Int32.toBitVec_and, BitVec.getLsbD_and, BitVec.getLsbD_and]
  rw [show (255 : Int32).toBitVec = 255#32 from rfl, bit255 i hi]
  by_cases h : i < 8
  · simp [h, hi, BitVec.getElem_signExtend, BitVec.getLsbD_signExtend, show i < 32 from hi]
  · simp [h]
theorem by8_and (v s : Int32) : by8 v s &&& 255 = (v >>> (s &&& 31)) &&& 255 := by
  unfold by8
  rw [show ∀ y : Int32, vp_nar .byte y = (Int32.toInt8 y).toInt32 from fun _ => rfl, i8_and, i8_and]
theorem bd255 (x : Int32) : bd (x &&& 255) 255 := by
  have h1 : (x &&& 255).toBitVec.toNat ≤ 255 := by
    rw [Int32.toBitVec_and, show (255 : Int32).toBitVec = 255#32 from rfl, BitVec.toNat_and]
    exact Nat.and_le_right
  refine ⟨(x &&& 255).toBitVec.toNat, h1, ?_⟩
  exact (Int32.ofNat_bitVecToNat (x &&& 255).toBitVec).symm
