/-! feed, end, load -/
theorem sh_24 (v : Int32) : b8 (v >>> 24) = b8 (us v 24) := by
  unfold b8 us
  congr 1
  apply Int8.toBitVec_inj.mp
  apply BitVec.eq_of_getLsbD_eq
  intro i hi
  have e1 : (v >>> (24 : Int32)).toBitVec = v.toBitVec.sshiftRight 24 := rfl
  have e2 : (v.toUInt32 >>> (Int32.toUInt32 24 &&& Int32.toUInt32 31)).toInt32.toBitVec = v.toBitVec >>> 24 := rfl
  have e3 : ∀ x : Int32, x.toInt8.toBitVec = x.toBitVec.signExtend 8 := fun _ => rfl
  rw [e3, e3, e1, e2]
  simp only [BitVec.getLsbD_signExtend, BitVec.getLsbD_sshiftRight, BitVec.getLsbD_ushiftRight]
  trace_state
  sorry
