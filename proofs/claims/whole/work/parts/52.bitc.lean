theorem p256_8 (z : Nat) : p256 8 z = ((z % 16 + (z / 16) % 16) + 256 * ((z / 256 % 16 + (z / 256 / 16) % 16) + 256 * ((z / 256 / 256 % 16 + (z / 256 / 256 / 16) % 16) + 256 * ((z / 256 / 256 / 256 % 16 + (z / 256 / 256 / 256 / 16) % 16) + 256 * ((z / 256 / 256 / 256 / 256 % 16 + (z / 256 / 256 / 256 / 256 / 16) % 16) + 256 * ((z / 256 / 256 / 256 / 256 / 256 % 16 + (z / 256 / 256 / 256 / 256 / 256 / 16) % 16) + 256 * ((z / 256 / 256 / 256 / 256 / 256 / 256 % 16 + (z / 256 / 256 / 256 / 256 / 256 / 256 / 16) % 16) + 256 * ((z / 256 / 256 / 256 / 256 / 256 / 256 / 256 % 16 + (z / 256 / 256 / 256 / 256 / 256 / 256 / 256 / 16) % 16) + 256 * 0)))))))) := by simp only [p256]
theorem p256_4 (z : Nat) : p256 4 z = ((z % 16 + (z / 16) % 16) + 256 * ((z / 256 % 16 + (z / 256 / 16) % 16) + 256 * ((z / 256 / 256 % 16 + (z / 256 / 256 / 16) % 16) + 256 * ((z / 256 / 256 / 256 % 16 + (z / 256 / 256 / 256 / 16) % 16) + 256 * 0)))) := by simp only [p256]
theorem s256_8 (z : Nat) : s256 8 z = ((z % 16 + (z / 16) % 16) + ((z / 256 % 16 + (z / 256 / 16) % 16) + ((z / 256 / 256 % 16 + (z / 256 / 256 / 16) % 16) + ((z / 256 / 256 / 256 % 16 + (z / 256 / 256 / 256 / 16) % 16) + ((z / 256 / 256 / 256 / 256 % 16 + (z / 256 / 256 / 256 / 256 / 16) % 16) + ((z / 256 / 256 / 256 / 256 / 256 % 16 + (z / 256 / 256 / 256 / 256 / 256 / 16) % 16) + ((z / 256 / 256 / 256 / 256 / 256 / 256 % 16 + (z / 256 / 256 / 256 / 256 / 256 / 256 / 16) % 16) + ((z / 256 / 256 / 256 / 256 / 256 / 256 / 256 % 16 + (z / 256 / 256 / 256 / 256 / 256 / 256 / 256 / 16) % 16) + 0)))))))) := by simp only [s256]
theorem s256_4 (z : Nat) : s256 4 z = ((z % 16 + (z / 16) % 16) + ((z / 256 % 16 + (z / 256 / 16) % 16) + ((z / 256 / 256 % 16 + (z / 256 / 256 / 16) % 16) + ((z / 256 / 256 / 256 % 16 + (z / 256 / 256 / 256 / 16) % 16) + 0)))) := by simp only [s256]
theorem st8 (z : Nat) (h : Dg 8 z) : (p256 8 z < 2 ^ 60 ∧ p256 8 z + p256 8 z / 256 < 2 ^ 62 ∧ p256 8 z + p256 8 z / 256 + (p256 8 z + p256 8 z / 256) / 65536 < 2 ^ 63) ∧ (p256 8 z + p256 8 z / 256 + (p256 8 z + p256 8 z / 256) / 65536 + (p256 8 z + p256 8 z / 256 + (p256 8 z + p256 8 z / 256) / 65536) / 4294967296) % 128 = s256 8 z := by
  obtain ⟨a0, b0, a1, b1, a2, b2, a3, b3, a4, b4, a5, b5, a6, b6, a7, b7, h⟩ := h
  rw [s256_8]
  exact key8 (z % 16 + (z / 16) % 16) (z / 256 % 16 + (z / 256 / 16) % 16) (z / 256 / 256 % 16 + (z / 256 / 256 / 16) % 16) (z / 256 / 256 / 256 % 16 + (z / 256 / 256 / 256 / 16) % 16) (z / 256 / 256 / 256 / 256 % 16 + (z / 256 / 256 / 256 / 256 / 16) % 16) (z / 256 / 256 / 256 / 256 / 256 % 16 + (z / 256 / 256 / 256 / 256 / 256 / 16) % 16) (z / 256 / 256 / 256 / 256 / 256 / 256 % 16 + (z / 256 / 256 / 256 / 256 / 256 / 256 / 16) % 16) (z / 256 / 256 / 256 / 256 / 256 / 256 / 256 % 16 + (z / 256 / 256 / 256 / 256 / 256 / 256 / 256 / 16) % 16) (p256 8 z) (Nat.add_le_add a0 b0) (Nat.add_le_add a1 b1) (Nat.add_le_add a2 b2) (Nat.add_le_add a3 b3) (Nat.add_le_add a4 b4) (Nat.add_le_add a5 b5) (Nat.add_le_add a6 b6) (Nat.add_le_add a7 b7) (p256_8 z)
theorem st8w (z : Nat) (h : Dg 4 z) : (p256 4 z < 2 ^ 28 ∧ p256 4 z + p256 4 z / 256 < 2 ^ 30) ∧ (p256 4 z + p256 4 z / 256 + (p256 4 z + p256 4 z / 256) / 65536 < 2 ^ 31) ∧ (p256 4 z + p256 4 z / 256 + (p256 4 z + p256 4 z / 256) / 65536) % 64 = s256 4 z := by
  obtain ⟨a0, b0, a1, b1, a2, b2, a3, b3, h⟩ := h
  rw [s256_4]
  exact key4 (z % 16 + (z / 16) % 16) (z / 256 % 16 + (z / 256 / 16) % 16) (z / 256 / 256 % 16 + (z / 256 / 256 / 16) % 16) (z / 256 / 256 / 256 % 16 + (z / 256 / 256 / 256 / 16) % 16) (p256 4 z) (Nat.add_le_add a0 b0) (Nat.add_le_add a1 b1) (Nat.add_le_add a2 b2) (Nat.add_le_add a3 b3) (p256_4 z)
theorem p16_lt2 : ∀ (n x : Nat), 15 * p16 n x + 6 ≤ 6 * 16 ^ n
  | 0, _ => by simp [p16]
  | n + 1, x => by
    have := p16_lt2 n (x / 16)
    rw [Nat.pow_succ]
    show 15 * ((x % 4 + (x / 4) % 4) + 16 * p16 n (x / 16)) + 6 ≤ _
    omega
/-! ===== Long.bitCount, Integer.bitCount ===== -/
def tnL (x : Int64) : Nat := x.toBitVec.toNat
def usL (x : Int64) (y : Int32) : Int64 := (x.toUInt64 >>> (y.toInt64.toUInt64 &&& Int64.toUInt64 63)).toInt64
theorem tnL_lt (x : Int64) : tnL x < 2 ^ 64 := x.toBitVec.isLt
theorem tnL_and (x y : Int64) : tnL (x &&& y) = tnL x &&& tnL y := by
  unfold tnL
  rw [Int64.toBitVec_and, BitVec.toNat_and]
theorem tnL_add {x y : Int64} (h : tnL x + tnL y < 2 ^ 64) : tnL (x + y) = tnL x + tnL y := by
  unfold tnL at *
  rw [Int64.toBitVec_add, BitVec.toNat_add, Nat.mod_eq_of_lt h]
theorem tnL_sub {x y : Int64} (h : tnL y ≤ tnL x) : tnL (x - y) = tnL x - tnL y := by
  have h1 := tnL_lt x
  have h2 := tnL_lt y
  unfold tnL at *
  rw [Int64.toBitVec_sub, BitVec.toNat_sub]
  omega
theorem tnL_us {x : Int64} {y : Int32} {k : Nat} (h : (y.toInt64.toUInt64 &&& Int64.toUInt64 63).toNat % 64 = k) : tnL (usL x y) = tnL x / 2 ^ k := by
  unfold tnL usL
  rw [UInt64.toBitVec_toInt64]
  show (x.toUInt64 >>> (y.toInt64.toUInt64 &&& Int64.toUInt64 63)).toNat = _
  rw [UInt64.toNat_shiftRight, h, Nat.shiftRight_eq_div_pow]
  rfl
theorem tnL_127 (x : Int64) : x.toInt32 &&& 127 = nI (tnL x % 128) := by
  apply Int32.toBitVec_inj.mp
  apply BitVec.eq_of_toNat_eq
  rw [Int32.toBitVec_and, BitVec.toNat_and, Int64.toBitVec_toInt32, BitVec.signExtend_eq_setWidth_of_le _ (by omega), BitVec.toNat_setWidth]
  rw [show (127 : Int32).toBitVec.toNat = 2 ^ 7 - 1 by decide, Nat.and_two_pow_sub_one_eq_mod]
  show _ = (BitVec.ofNat 32 (tnL x % 128)).toNat
  rw [BitVec.toNat_ofNat]
  unfold tnL
  omega
def bl1 (x : Int64) : Int64 := x - (usL x 1 &&& 6148914691236517205)
def bl2 (x : Int64) : Int64 := (x &&& 3689348814741910323) + (usL x 2 &&& 3689348814741910323)
def bl3 (x : Int64) : Int64 := (x + usL x 4) &&& 1085102592571150095
def bl4 (x : Int64) : Int64 := x + usL x 8
def bl5 (x : Int64) : Int64 := x + usL x 16
def bl6 (x : Int64) : Int64 := x + usL x 32
def blI (x : Int64) : Int32 := (bl6 (bl5 (bl4 (bl3 (bl2 (bl1 x)))))).toInt32 &&& 127
theorem blI_pop (x : Int64) : blI x = nI (popR 64 (tnL x)) := by
  have hx := tnL_lt x
  have e1 : tnL (bl1 x) = p4 32 (tnL x) := by
    obtain ⟨h1, h2⟩ := st1 32 (tnL x) (by omega)
    have ea : tnL (usL x 1 &&& 6148914691236517205) = tnL x / 2 &&& mA 32 := by
      rw [tnL_and, tnL_us (k := 1) (by decide), show tnL 6148914691236517205 = mA 32 by decide +kernel]
    unfold bl1
    rw [tnL_sub (by rw [ea]; exact h2), ea, h1]
  have e2 : tnL (bl2 (bl1 x)) = p16 16 (p4 32 (tnL x)) := by
    have hs := st2 16 (p4 32 (tnL x))
    have hl := p16_lt 16 (p4 32 (tnL x))
    have ea : tnL (bl1 x &&& 3689348814741910323) = p4 32 (tnL x) &&& m3 16 := by
      rw [tnL_and, e1, show tnL 3689348814741910323 = m3 16 by decide +kernel]
    have eb : tnL (usL (bl1 x) 2 &&& 3689348814741910323) = p4 32 (tnL x) / 4 &&& m3 16 := by
      rw [tnL_and, tnL_us (k := 2) (by decide), e1, show tnL 3689348814741910323 = m3 16 by decide +kernel]
    unfold bl2
    rw [tnL_add (by rw [ea, eb, hs]; omega), ea, eb, hs]
  have hD := Dg_p16 8 (p4 32 (tnL x))
  have hz : 15 * p16 16 (p4 32 (tnL x)) + 6 ≤ 6 * 16 ^ 16 := p16_lt2 16 _
  have hsum := s256_s16 8 (p4 32 (tnL x))
  have hsum2 := s16_s4 16 (tnL x)
  have hsum3 := s4_pop 32 (tnL x)
  rw [show 2 * 8 = 16 from rfl] at hD hsum
  rw [show 2 * 16 = 32 from rfl] at hsum2
  rw [show 2 * 32 = 64 from rfl] at hsum3
  generalize hzz : p16 16 (p4 32 (tnL x)) = z at *
  have e3 : tnL (bl3 (bl2 (bl1 x))) = p256 8 z := by
    have ea : tnL (usL (bl2 (bl1 x)) 4) = z / 16 := by rw [tnL_us (k := 4) (by decide), e2]
    unfold bl3
    rw [tnL_and, tnL_add (by rw [ea, e2]; omega), ea, e2, show tnL 1085102592571150095 = mF 8 by decide +kernel]
    exact st3 8 z hD
  obtain ⟨⟨l1, l2, l3⟩, l4⟩ := st8 z hD
  have e4 : tnL (bl4 (bl3 (bl2 (bl1 x)))) = p256 8 z + p256 8 z / 256 := by
    have ea : tnL (usL (bl3 (bl2 (bl1 x))) 8) = p256 8 z / 256 := by rw [tnL_us (k := 8) (by decide), e3]
    unfold bl4
    rw [tnL_add (by rw [ea, e3]; exact Nat.lt_trans l2 (by decide)), ea, e3]
  have e5 : tnL (bl5 (bl4 (bl3 (bl2 (bl1 x))))) = p256 8 z + p256 8 z / 256 + (p256 8 z + p256 8 z / 256) / 65536 := by
    have ea : tnL (usL (bl4 (bl3 (bl2 (bl1 x)))) 16) = (p256 8 z + p256 8 z / 256) / 65536 := by rw [tnL_us (k := 16) (by decide), e4]
    unfold bl5
    rw [tnL_add (by rw [ea, e4]; exact Nat.lt_trans l3 (by decide)), ea, e4]
  have e6 : tnL (bl6 (bl5 (bl4 (bl3 (bl2 (bl1 x)))))) = p256 8 z + p256 8 z / 256 + (p256 8 z + p256 8 z / 256) / 65536 + (p256 8 z + p256 8 z / 256 + (p256 8 z + p256 8 z / 256) / 65536) / 4294967296 := by
    have ea : tnL (usL (bl5 (bl4 (bl3 (bl2 (bl1 x))))) 32) = (p256 8 z + p256 8 z / 256 + (p256 8 z + p256 8 z / 256) / 65536) / 4294967296 := by rw [tnL_us (k := 32) (by decide), e5]
    unfold bl6
    rw [tnL_add (by rw [ea, e5]; generalize p256 8 z + p256 8 z / 256 + (p256 8 z + p256 8 z / 256) / 65536 = u at l3; omega), ea, e5]
  unfold blI
  rw [tnL_127, e6, l4, hsum, hsum2, hsum3]
theorem sj_bitCountL (X : aX) (x : Int64) (h : aH) : Sp X 0 kJ13_bitCount_95d88 [.long x] h (An (some (.int (nI (popR 64 (tnL x))))) h) := by
  rw [← blI_pop]
  unfold Sp
  show G X 0 kJ13_bitCount_95d88 0 [.long x, .double 0] [] h _
  iterate 8 (refine G.st rfl rfl ?_)
  show G X 0 kJ13_bitCount_95d88 10 [.long (bl1 x), .double 0] [] h _
  generalize he : bl1 x = y
  iterate 10 (refine G.st rfl rfl ?_)
  show G X 0 kJ13_bitCount_95d88 24 [.long (bl2 y), .double 0] [] h _
  generalize he2 : bl2 y = z
  iterate 8 (refine G.st rfl rfl ?_)
  show G X 0 kJ13_bitCount_95d88 34 [.long (bl3 z), .double 0] [] h _
  generalize he3 : bl3 z = u
  iterate 6 (refine G.st rfl rfl ?_)
  show G X 0 kJ13_bitCount_95d88 41 [.long (bl4 u), .double 0] [] h _
  generalize he4 : bl4 u = v
  iterate 6 (refine G.st rfl rfl ?_)
  show G X 0 kJ13_bitCount_95d88 48 [.long (bl5 v), .double 0] [] h _
  generalize he5 : bl5 v = w
  iterate 6 (refine G.st rfl rfl ?_)
  show G X 0 kJ13_bitCount_95d88 55 [.long (bl6 w), .double 0] [] h _
  generalize he6 : bl6 w = a
  iterate 4 (refine G.st rfl rfl ?_)
  refine G.ret rfl rfl ⟨?_, rfl⟩
  unfold blI
  rw [he, he2, he3, he4, he5, he6]
def tnI (x : Int32) : Nat := x.toBitVec.toNat
theorem tnI_lt (x : Int32) : tnI x < 2 ^ 32 := x.toBitVec.isLt
theorem tnI_and (x y : Int32) : tnI (x &&& y) = tnI x &&& tnI y := by
  unfold tnI
  rw [Int32.toBitVec_and, BitVec.toNat_and]
theorem tnI_add {x y : Int32} (h : tnI x + tnI y < 2 ^ 32) : tnI (x + y) = tnI x + tnI y := by
  unfold tnI at *
  rw [Int32.toBitVec_add, BitVec.toNat_add, Nat.mod_eq_of_lt h]
theorem tnI_sub {x y : Int32} (h : tnI y ≤ tnI x) : tnI (x - y) = tnI x - tnI y := by
  have h1 := tnI_lt x
  have h2 := tnI_lt y
  unfold tnI at *
  rw [Int32.toBitVec_sub, BitVec.toNat_sub]
  omega
theorem tnI_us {x : Int32} {y : Int32} {k : Nat} (h : (y.toUInt32 &&& Int32.toUInt32 31).toNat % 32 = k) : tnI (usI x y) = tnI x / 2 ^ k := by
  unfold tnI usI
  rw [UInt32.toBitVec_toInt32]
  show (x.toUInt32 >>> (y.toUInt32 &&& Int32.toUInt32 31)).toNat = _
  rw [UInt32.toNat_shiftRight, h, Nat.shiftRight_eq_div_pow]
  rfl
theorem tnI_eq {x y : Int32} (h : tnI x = tnI y) : x = y := Int32.toBitVec_inj.mp (BitVec.eq_of_toNat_eq h)
theorem tnI_nI {n : Nat} (h : n < 2 ^ 32) : tnI (nI n) = n := by
  show (BitVec.ofNat 32 n).toNat = n
  rw [BitVec.toNat_ofNat, Nat.mod_eq_of_lt h]
theorem bcI_pop (x : Int32) : bcI x = nI (popR 32 (tnI x)) := by
  have hx := tnI_lt x
  have e1 : tnI (bc1 x) = p4 16 (tnI x) := by
    obtain ⟨h1, h2⟩ := st1 16 (tnI x) (by omega)
    have ea : tnI (usI x 1 &&& 1431655765) = tnI x / 2 &&& mA 16 := by
      rw [tnI_and, tnI_us (k := 1) (by decide), show tnI 1431655765 = mA 16 by decide +kernel]
    unfold bc1
    rw [tnI_sub (by rw [ea]; exact h2), ea, h1]
  have e2 : tnI (bc2 (bc1 x)) = p16 8 (p4 16 (tnI x)) := by
    have hs := st2 8 (p4 16 (tnI x))
    have hl := p16_lt 8 (p4 16 (tnI x))
    have ea : tnI (bc1 x &&& 858993459) = p4 16 (tnI x) &&& m3 8 := by
      rw [tnI_and, e1, show tnI 858993459 = m3 8 by decide +kernel]
    have eb : tnI (usI (bc1 x) 2 &&& 858993459) = p4 16 (tnI x) / 4 &&& m3 8 := by
      rw [tnI_and, tnI_us (k := 2) (by decide), e1, show tnI 858993459 = m3 8 by decide +kernel]
    unfold bc2
    rw [tnI_add (by rw [ea, eb, hs]; omega), ea, eb, hs]
  have hD := Dg_p16 4 (p4 16 (tnI x))
  have hz : 15 * p16 8 (p4 16 (tnI x)) + 6 ≤ 6 * 16 ^ 8 := p16_lt2 8 _
  have hsum := s256_s16 4 (p4 16 (tnI x))
  have hsum2 := s16_s4 8 (tnI x)
  have hsum3 := s4_pop 16 (tnI x)
  rw [show 2 * 4 = 8 from rfl] at hD hsum
  rw [show 2 * 8 = 16 from rfl] at hsum2
  rw [show 2 * 16 = 32 from rfl] at hsum3
  generalize hzz : p16 8 (p4 16 (tnI x)) = z at *
  have e3 : tnI (bc3 (bc2 (bc1 x))) = p256 4 z := by
    have ea : tnI (usI (bc2 (bc1 x)) 4) = z / 16 := by rw [tnI_us (k := 4) (by decide), e2]
    unfold bc3
    rw [tnI_and, tnI_add (by rw [ea, e2]; omega), ea, e2, show tnI 252645135 = mF 4 by decide +kernel]
    exact st3 4 z hD
  obtain ⟨⟨l1, l2⟩, l3, l4⟩ := st8w z hD
  have e4 : tnI (bc4 (bc3 (bc2 (bc1 x)))) = p256 4 z + p256 4 z / 256 := by
    have ea : tnI (usI (bc3 (bc2 (bc1 x))) 8) = p256 4 z / 256 := by rw [tnI_us (k := 8) (by decide), e3]
    unfold bc4
    rw [tnI_add (by rw [ea, e3]; exact Nat.lt_trans l2 (by decide)), ea, e3]
  have e5 : tnI (bc5 (bc4 (bc3 (bc2 (bc1 x))))) = p256 4 z + p256 4 z / 256 + (p256 4 z + p256 4 z / 256) / 65536 := by
    have ea : tnI (usI (bc4 (bc3 (bc2 (bc1 x)))) 16) = (p256 4 z + p256 4 z / 256) / 65536 := by rw [tnI_us (k := 16) (by decide), e4]
    unfold bc5
    rw [tnI_add (by rw [ea, e4]; exact Nat.lt_trans l3 (by decide)), ea, e4]
  have hlt : popR 32 (tnI x) < 2 ^ 32 := by
    rw [← hsum3, ← hsum2, ← hsum, ← l4]
    exact Nat.lt_trans (Nat.mod_lt _ (by decide)) (by decide)
  apply tnI_eq
  unfold bcI
  rw [tnI_and, e5, show tnI 63 = 2 ^ 6 - 1 by decide, Nat.and_two_pow_sub_one_eq_mod, tnI_nI hlt, show 2 ^ 6 = 64 from rfl, l4, hsum, hsum2, hsum3]
