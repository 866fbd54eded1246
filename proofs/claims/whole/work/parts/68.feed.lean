/-! feed -/
theorem ub8 (b : BitVec 8) : (⟨⟨b.setWidth 32⟩⟩ : Int32) = ub ⟨⟨b.signExtend 32⟩⟩ ∧ (-128) ≤ (⟨⟨b.signExtend 32⟩⟩ : Int32) ∧ (⟨⟨b.signExtend 32⟩⟩ : Int32) ≤ 127 := by
  have key : ∀ n : Fin 256, (⟨⟨(BitVec.ofNat 8 n).setWidth 32⟩⟩ : Int32) = ub ⟨⟨(BitVec.ofNat 8 n).signExtend 32⟩⟩ ∧ (-128) ≤ (⟨⟨(BitVec.ofNat 8 n).signExtend 32⟩⟩ : Int32) ∧ (⟨⟨(BitVec.ofNat 8 n).signExtend 32⟩⟩ : Int32) ≤ 127 := by decide +kernel
  have e : b = BitVec.ofNat 8 b.toNat := by simp
  rw [e]
  exact key ⟨b.toNat, b.isLt⟩
def cby (w : Int64) (k : Nat) : Int32 := ((w.toUInt64 >>> ((nI k * 8).toInt64.toUInt64 &&& Int64.toUInt64 63)).toInt64).toInt32.toInt8.toInt32
def rby (w : Int64) (k : Nat) : Int32 := ((w >>> ((8 * nI k).toInt64 &&& 63)) &&& 255).toInt32
theorem cby_b (w : Int64) {k : Nat} (hk : k < 8) : cby w k = ⟨⟨((w.toBitVec >>> (8 * k)).setWidth 8).signExtend 32⟩⟩ := by
  have e : (nI k * 8).toInt64.toUInt64 &&& Int64.toUInt64 63 = UInt64.ofNat (8 * k) := by
    have key : ∀ k : Fin 8, (nI k * 8).toInt64.toUInt64 &&& Int64.toUInt64 63 = UInt64.ofNat (8 * k.val) := by decide +kernel
    exact key ⟨k, hk⟩
  unfold cby
  rw [e]
  apply Int32.toBitVec_inj.1
  show ((((w.toBitVec >>> ((UInt64.ofNat (8 * k)).toBitVec % 64)).signExtend 32).signExtend 8).signExtend 32) = ((w.toBitVec >>> (8 * k)).setWidth 8).signExtend 32
  have e2 : w.toBitVec >>> ((UInt64.ofNat (8 * k)).toBitVec % 64) = w.toBitVec >>> (8 * k) := by
    have : ((UInt64.ofNat (8 * k)).toBitVec % 64).toNat = 8 * k := by
      simp [BitVec.toNat_umod]
      omega
    rw [BitVec.ushiftRight_eq', this]
  rw [e2]
  congr 1
  apply BitVec.eq_of_getLsbD_eq
  intro i hi
  have h1 : i < 32 := by omega
  have h2 : i < 64 := by omega
  simp only [BitVec.getLsbD_signExtend, BitVec.getLsbD_setWidth, BitVec.getLsbD_ushiftRight, hi, h1, h2, decide_true, Bool.true_and, if_true]
theorem rby_b (w : Int64) {k : Nat} (hk : k < 8) : rby w k = ⟨⟨((w.toBitVec >>> (8 * k)).setWidth 8).setWidth 32⟩⟩ := by
  have e : (8 * nI k).toInt64 &&& 63 = Int64.ofNat (8 * k) := by
    have key : ∀ k : Fin 8, (8 * nI k).toInt64 &&& 63 = Int64.ofNat (8 * k.val) := by decide +kernel
    exact key ⟨k, hk⟩
  unfold rby
  rw [e]
  apply Int32.toBitVec_inj.1
  show ((w.toBitVec.sshiftRight' ((Int64.ofNat (8 * k)).toBitVec.smod 64)) &&& 255#64).signExtend 32 = ((w.toBitVec >>> (8 * k)).setWidth 8).setWidth 32
  have e2 : ((Int64.ofNat (8 * k)).toBitVec.smod 64).toNat = 8 * k := by
    have key : ∀ k : Fin 8, ((Int64.ofNat (8 * k.val)).toBitVec.smod 64).toNat = 8 * k.val := by decide +kernel
    exact key ⟨k, hk⟩
  rw [BitVec.sshiftRight_eq', e2]
  apply BitVec.eq_of_getLsbD_eq
  intro i hi
  have h255 : (255#64).getLsbD i = decide (i < 8) := by
    have key : ∀ i : Fin 32, (255#64).getLsbD i = decide (i.val < 8) := by decide +kernel
    exact key ⟨i, hi⟩
  by_cases c : i < 8
  · have h2 : i < 64 := by omega
    have h3 : 8 * k + i < 64 := by omega
    have h4 : ¬ 64 ≤ i := by omega
    simp only [BitVec.getLsbD_signExtend, BitVec.getLsbD_sshiftRight, BitVec.getLsbD_and, BitVec.getLsbD_setWidth, BitVec.getLsbD_ushiftRight, hi, h255, c, h2, h3, h4, decide_true, decide_false, Bool.true_and, Bool.and_true, Bool.not_false, if_true]
  · have h2 : i < 64 := by omega
    simp only [BitVec.getLsbD_signExtend, BitVec.getLsbD_and, BitVec.getLsbD_setWidth, hi, h255, c, h2, decide_true, decide_false, Bool.true_and, Bool.and_false, Bool.false_and, if_true]
theorem by_ub (w : Int64) {k : Nat} (hk : k < 8) : rby w k = ub (cby w k) ∧ (-128) ≤ cby w k ∧ cby w k ≤ 127 := by
  rw [rby_b w hk, cby_b w hk]
  exact ub8 _
