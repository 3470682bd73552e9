/-! Bits. The rows ts_ and wb_ are from kit/laws/BITS.to-paste (given for pasting); what follows them is ours. -/
theorem wb_tb (n : Nat) : (lN n).toBitVec = BitVec.ofNat 64 n := rfl
theorem wb_inj {a b : Int64} (h : a.toBitVec = b.toBitVec) : a = b := Int64.toBitVec_inj.mp h
theorem wb_tn {n : Nat} (h : n < 2 ^ 64) : (lN n).toBitVec.toNat = n := by rw [wb_tb, BitVec.toNat_ofNat, Nat.mod_eq_of_lt h]
theorem wb_of (x : Int64) : ∃ n, n < 2 ^ 64 ∧ x = lN n := ⟨x.toBitVec.toNat, x.toBitVec.isLt, wb_inj (by rw [wb_tb]; simp)⟩
theorem wb_of32 (x : Int32) : ∃ n, n < 2 ^ 32 ∧ x = nI n := ⟨x.toBitVec.toNat, x.toBitVec.isLt, Int32.toBitVec_inj.mp (by show _ = BitVec.ofNat 32 _; simp)⟩
theorem wb_c : ∀ k, k < 64 → ((nI k).toInt64 &&& 63) = lN k := by decide +kernel
theorem wb_cu : ∀ k, k < 64 → ((nI k).toInt64.toUInt64 &&& Int64.toUInt64 63) = UInt64.ofNat k := by decide +kernel
theorem wb_sm : ∀ k, k < 64 → (BitVec.ofNat 64 k).smod 64 = BitVec.ofNat 64 k := by decide +kernel
theorem wb_pw {a b : Nat} (h : a ≤ b) : 2 ^ b = 2 ^ a * 2 ^ (b - a) := by rw [← Nat.pow_add]; congr 1; omega
theorem wb_lt2 {a b : Nat} (h : a < b) : 2 ^ a < 2 ^ b := Nat.pow_lt_pow_right (by decide) h
theorem wb_mod (n : Nat) : lN n = lN (n % 2 ^ 64) := wb_inj (by rw [wb_tb, wb_tb]; apply BitVec.eq_of_toNat_eq; rw [BitVec.toNat_ofNat, BitVec.toNat_ofNat, Nat.mod_mod])
theorem wb_shr {n k : Nat} (hn : n < 2 ^ 64) (hk : k < 64) : ((lN n).toUInt64 >>> ((nI k).toInt64.toUInt64 &&& Int64.toUInt64 63)).toInt64 = lN (n / 2 ^ k) := by
  rw [wb_cu k hk]
  apply wb_inj
  apply BitVec.eq_of_toNat_eq
  show ((lN n).toUInt64 >>> UInt64.ofNat k).toNat = (BitVec.ofNat 64 _).toNat
  have h1 : (UInt64.ofNat k).toNat = k := by
    show (BitVec.ofNat 64 k).toNat = k
    rw [BitVec.toNat_ofNat, Nat.mod_eq_of_lt (by omega)]
  have h2 : (lN n).toUInt64.toNat = n := wb_tn hn
  rw [UInt64.toNat_shiftRight, h1, h2, Nat.mod_eq_of_lt hk, Nat.shiftRight_eq_div_pow, BitVec.toNat_ofNat, Nat.mod_eq_of_lt (Nat.lt_of_le_of_lt (Nat.div_le_self _ _) hn)]
theorem wb_shl (n : Nat) {k : Nat} (hk : k < 64) : lN n <<< ((nI k).toInt64 &&& 63) = lN (n * 2 ^ k) := by
  rw [wb_c k hk]
  apply wb_inj
  rw [Int64.toBitVec_shiftLeft, wb_tb, wb_tb, wb_tb, wb_sm k hk]
  apply BitVec.eq_of_toNat_eq
  rw [BitVec.shiftLeft_eq', BitVec.toNat_shiftLeft, BitVec.toNat_ofNat, BitVec.toNat_ofNat, BitVec.toNat_ofNat, Nat.mod_eq_of_lt (show k < 2 ^ 64 by omega), Nat.shiftLeft_eq, Nat.mul_mod, Nat.mod_mod, ← Nat.mul_mod]
/-! a set of events as a long -/
def hb (m : Int64) (n : Nat) : Bool := m.toBitVec.getLsbD n
def bitN (n : Nat) : Int64 := (1 : Int64) <<< ((nI n).toInt64 &&& 63)
theorem hb_big {m : Int64} {n : Nat} (h : 64 ≤ n) : hb m n = false := BitVec.getLsbD_of_ge _ _ h
theorem hb_ext {a b : Int64} (h : ∀ n, n < 64 → hb a n = hb b n) : a = b := by
  apply wb_inj
  apply BitVec.eq_of_getLsbD_eq
  intro i hi
  exact h i hi
theorem hb_or (a b : Int64) (n : Nat) : hb (a ||| b) n = (hb a n || hb b n) := by simp [hb]
theorem hb_and (a b : Int64) (n : Nat) : hb (a &&& b) n = (hb a n && hb b n) := by simp [hb]
theorem hb_xor (a b : Int64) (n : Nat) : hb (a ^^^ b) n = (hb a n ^^ hb b n) := by simp [hb]
theorem hb_lN (m n : Nat) : hb (lN m) n = (decide (n < 64) && m.testBit n) := by
  unfold hb
  rw [wb_tb, BitVec.getLsbD_ofNat]
theorem hb_0 (n : Nat) : hb 0 n = false := by
  have : (0 : Int64) = lN 0 := rfl
  rw [this, hb_lN]
  simp
theorem hb_m1 {n : Nat} (h : n < 64) : hb (-1) n = true := by
  have e : ((-1 : Int64)).toBitVec = BitVec.allOnes 64 := by decide
  unfold hb
  rw [e, BitVec.getLsbD_allOnes]
  simpa using h
theorem hb_not {m : Int64} {n : Nat} (h : n < 64) : hb (m ^^^ (-1)) n = !(hb m n) := by
  rw [hb_xor, hb_m1 h]
  cases hb m n <;> rfl
theorem bitN_lN {k : Nat} (h : k < 64) : bitN k = lN (2 ^ k) := by
  have e := wb_shl 1 h
  rw [Nat.one_mul] at e
  exact e
theorem hb_bit {k n : Nat} (h : k < 64) : hb (bitN k) n = decide (n = k) := by
  rw [bitN_lN h, hb_lN, Nat.testBit_two_pow]
  by_cases e : n = k
  · subst e
    simp [h]
  · have e' : ¬ k = n := fun q => e q.symm
    simp [e, e']
theorem hb_1 (n : Nat) : hb 1 n = decide (n = 0) := by
  have e := hb_bit (k := 0) (n := n) (by decide)
  have e1 : bitN 0 = 1 := by decide
  rw [e1] at e
  exact e
theorem and1 (y : Int64) : y &&& 1 = if hb y 0 = true then 1 else 0 := by
  apply hb_ext
  intro n hn
  rw [hb_and, hb_1]
  by_cases e : n = 0
  · subst e
    cases hy : hb y 0 <;> simp [hb_0, hb_1]
  · cases hy : hb y 0 <;> simp [hb_0, hb_1, e]
theorem hb_ushr {m : Int64} {k n : Nat} (hk : k < 64) : hb (m.toUInt64 >>> ((nI k).toInt64.toUInt64 &&& Int64.toUInt64 63)).toInt64 n = hb m (k + n) := by
  rw [wb_cu k hk]
  unfold hb
  have e : ((m.toUInt64 >>> UInt64.ofNat k).toInt64).toBitVec = m.toBitVec >>> k := by
    show (m.toUInt64 >>> UInt64.ofNat k).toBitVec = _
    rw [UInt64.toBitVec_shiftRight]
    show m.toBitVec >>> ((UInt64.ofNat k).toBitVec % 64) = _
    apply BitVec.eq_of_toNat_eq
    have h2 : ((UInt64.ofNat k).toBitVec % 64).toNat = k := by
      have : ∀ j, j < 64 → ((UInt64.ofNat j).toBitVec % 64).toNat = j := by decide +kernel
      exact this k hk
    simp [BitVec.toNat_ushiftRight, h2, Nat.mod_eq_of_lt hk]
  rw [e, BitVec.getLsbD_ushiftRight]
theorem hb_sshr {m : Int64} {k : Nat} (hk : k < 64) : hb (m >>> ((nI k).toInt64 &&& 63)) 0 = hb m k := by
  rw [wb_c k hk]
  unfold hb
  rw [Int64.toBitVec_shiftRight, wb_tb, wb_sm k hk]
  show (m.toBitVec.sshiftRight (BitVec.ofNat 64 k).toNat).getLsbD 0 = _
  have e : (BitVec.ofNat 64 k).toNat = k := by
    rw [BitVec.toNat_ofNat]
    exact Nat.mod_eq_of_lt (by omega)
  rw [e, BitVec.getLsbD_sshiftRight]
  simp [hk]
/-- MeshRoom.isIn's test, MeshRoomModel.has's test -/
theorem isIn_bit {m : Int64} {k : Nat} (hk : k < 64) : lg_cmp ((m.toUInt64 >>> ((nI k).toInt64.toUInt64 &&& Int64.toUInt64 63)).toInt64 &&& 1) 0 = 0 ↔ hb m k = false := by
  rw [lg_cmp_eq, and1, hb_ushr hk, Nat.add_zero]
  cases hb m k <;> simp
theorem has_bit {m : Int64} {k : Nat} (hk : k < 64) : lg_cmp ((m >>> ((nI k).toInt64 &&& 63)) &&& 1) 1 = 0 ↔ hb m k = true := by
  rw [lg_cmp_eq, and1, hb_sshr hk]
  cases hb m k <;> simp
