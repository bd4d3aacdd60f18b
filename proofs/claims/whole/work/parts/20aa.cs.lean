theorem cVs_id (c : nCs) (v : Nat) : cVs c v (cV c v) = c := by
  have e : va_up (g_Cs_V c) v (g_Cs_V c v) = g_Cs_V c := by
    funext j
    by_cases hj : j = v
    · rw [hj, va_up_self]
    · rw [va_up_ne _ _ hj]
  unfold cVs cV
  rw [e]
  rfl
theorem cSs_id (c : nCs) (v : Nat) : cSs c v (cS c v) = c := by
  have e : va_up (g_Cs_sh c) v (g_Cs_sh c v) = g_Cs_sh c := by
    funext j
    by_cases hj : j = v
    · rw [hj, va_up_self]
    · rw [va_up_ne _ _ hj]
  unfold cSs cS
  rw [e]
  rfl
theorem cSs_s (c : nCs) (v : Nat) (x y : nSh) : cSs (cSs c v x) v y = cSs c v y := by
  have e : va_up (va_up (g_Cs_sh c) v x) v y = va_up (g_Cs_sh c) v y := by
    funext j
    by_cases hj : j = v
    · rw [hj, va_up_self, va_up_self]
    · rw [va_up_ne _ _ hj, va_up_ne _ _ hj, va_up_ne _ _ hj]
  unfold cSs
  show s_Cs_sh c (va_up (va_up (g_Cs_sh c) v x) v y) = _
  rw [e]
theorem cVS (c : nCs) (v j : Nat) (x : nVl) (y : nSh) : cVs (cSs c j y) v x = cSs (cVs c v x) j y := rfl
theorem i64_32 (x : Int32) : x.toInt64.toInt32 = x := by
  apply Int32.toInt_inj.1
  have h1 := Int32.le_toInt x
  have h2 := Int32.toInt_lt x
  rw [Int64.toInt_toInt32, Int32.toInt_toInt64]
  rw [Int.bmod_def]; split <;> omega
theorem i8_32 {z : Int} (h1 : 0 ≤ z) (h2 : z ≤ 59) : (iI z).toInt8.toInt32 = iI z := by
  apply Int32.toInt_inj.1
  rw [Int8.toInt_toInt32, Int32.toInt_toInt8, iI_toInt (by omega) (by omega)]
  rw [Int.bmod_def]; split <;> omega
theorem i16_32 {z : Int} (h1 : 0 ≤ z) (h2 : z ≤ 59) : (iI z).toInt16.toInt32 = iI z := by
  apply Int32.toInt_inj.1
  rw [Int16.toInt_toInt32, Int32.toInt_toInt16, iI_toInt (by omega) (by omega)]
  rw [Int.bmod_def]; split <;> omega
theorem c_putmin {y : nSh} {t : Nat} (ht : t < 24) {z : Int} (h1 : 0 ≤ z) (h2 : z ≤ 59) : f_X3_put y (iI t) (iI z).toInt64 = some (s_Sh_items y (vp_updL (g_Sh_items y) t (iI z).toInt64)) := by
  unfold f_X3_put
  simp only [i64_32, i8_32 h1 h2, i16_32 h1 h2, nn_ixN (show t < 24 from ht) (show 24 < 2147483648 by omega), iI_cN (show t < 2147483648 by omega), Option.bind_some, ite_self]
theorem ix24k {j i k : Nat} : (((24 : Int32) * iI (j : Int)) + iI (i : Int)) + iI (k : Int) = iI ((24 * j + i + k : Nat) : Int) := by
  rw [ix24, iI_add]; congr 1
theorem ixk {i k : Nat} : iI (i : Int) + iI (k : Int) = iI ((i + k : Nat) : Int) := by
  rw [iI_add]; congr 1
