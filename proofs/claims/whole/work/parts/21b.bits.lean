theorem ush_k : ((((1 : Int32).toInt64.toUInt64 &&& Int64.toUInt64 63) % 64).toBitVec.toNat = 1) ∧ ((((2 : Int32).toInt64.toUInt64 &&& Int64.toUInt64 63) % 64).toBitVec.toNat = 2) ∧ ((((4 : Int32).toInt64.toUInt64 &&& Int64.toUInt64 63) % 64).toBitVec.toNat = 4) ∧ ((((8 : Int32).toInt64.toUInt64 &&& Int64.toUInt64 63) % 64).toBitVec.toNat = 8) ∧ ((((16 : Int32).toInt64.toUInt64 &&& Int64.toUInt64 63) % 64).toBitVec.toNat = 16) ∧ ((((32 : Int32).toInt64.toUInt64 &&& Int64.toUInt64 63) % 64).toBitVec.toNat = 32) := by decide +kernel
theorem msk : nL (6148914691236517205 : Int64) = MK 85 8 ∧ nL (3689348814741910323 : Int64) = MK 51 8 ∧ nL (1085102592571150095 : Int64) = MK 15 8 := by decide +kernel
theorem yk2_lt (p : Nat → Bool) : YK t2 p 0 8 + YK t2 p 0 8 / 16 < 18446744073709551616 := by
  have h0 := (tf _ (by8_lt p 0)).2.2.1
  have h1 := (tf _ (by8_lt p 8)).2.2.1
  have h2 := (tf _ (by8_lt p 16)).2.2.1
  have h3 := (tf _ (by8_lt p 24)).2.2.1
  have h4 := (tf _ (by8_lt p 32)).2.2.1
  have h5 := (tf _ (by8_lt p 40)).2.2.1
  have h6 := (tf _ (by8_lt p 48)).2.2.1
  have h7 := (tf _ (by8_lt p 56)).2.2.1
  simp only [YK, Nat.zero_add, Nat.reduceAdd]
  generalize t2 (by8 p 0) = s0 at *
  generalize t2 (by8 p 8) = s1 at *
  generalize t2 (by8 p 16) = s2 at *
  generalize t2 (by8 p 24) = s3 at *
  generalize t2 (by8 p 32) = s4 at *
  generalize t2 (by8 p 40) = s5 at *
  generalize t2 (by8 p 48) = s6 at *
  generalize t2 (by8 p 56) = s7 at *
  omega
