theorem bc3 {p : Nat → Bool} {a : Int64} (h : nL a = MKB p 0 64) : nL (sh3 (sh2 (sh1 a))) = YK t3 p 0 8 := by
  have y0 : nL a = YK id p 0 8 := by rw [h, yk_id]
  have e1 : nL (sh1 a) = YK t1 p 0 8 := by
    unfold sh1
    rw [n_sub, n_and, n_ush a _ ush_k.1, y0, msk.1, ← st1]
    have hle : YK id p 0 8 / 2 ^ 1 &&& MK 85 8 ≤ YK id p 0 8 / 2 ^ 1 := Nat.and_le_left
    have hlt := n_lt a
    rw [y0] at hlt
    rw [show (2 : Nat) ^ 1 = 2 from rfl] at hle ⊢
    generalize YK id p 0 8 / 2 &&& MK 85 8 = q at *
    generalize YK id p 0 8 = x at *
    omega
  have b2lt := yk2_lt p
  have b2 : nL (sh2 (sh1 a)) = YK t2 p 0 8 := by
    unfold sh2
    rw [n_add, n_and, n_and, n_ush _ _ ush_k.2.1, e1, msk.2.1, show (2 : Nat) ^ 2 = 4 from rfl, st2]
    generalize YK t2 p 0 8 = x at *
    omega
  unfold sh3
  rw [n_and, n_add, n_ush _ _ ush_k.2.2.1, b2, msk.2.2, show (2 : Nat) ^ 4 = 16 from rfl, Nat.mod_eq_of_lt b2lt, st3]
theorem bc_val {p : Nat → Bool} {a : Int64} (h : nL a = MKB p 0 64) : f_J13_bitCount_95d88 a = some (iI (CB p 0 64)) := by
  rw [bc_eq]
  have b3 := bc3 h
  have c1 : CB p 0 64 = CB p 0 8 + CB p 8 56 := CB_add p 8 0 56
  have c2 : CB p 8 56 = CB p 8 8 + CB p 16 48 := CB_add p 8 8 48
  have c3 : CB p 16 48 = CB p 16 8 + CB p 24 40 := CB_add p 8 16 40
  have c4 : CB p 24 40 = CB p 24 8 + CB p 32 32 := CB_add p 8 24 32
  have c5 : CB p 32 32 = CB p 32 8 + CB p 40 24 := CB_add p 8 32 24
  have c6 : CB p 40 24 = CB p 40 8 + CB p 48 16 := CB_add p 8 40 16
  have c7 : CB p 48 16 = CB p 48 8 + CB p 56 8 := CB_add p 8 48 8
  have cc : CB p 0 64 = t3 (by8 p 0) + t3 (by8 p 8) + t3 (by8 p 16) + t3 (by8 p 24) + t3 (by8 p 32) + t3 (by8 p 40) + t3 (by8 p 48) + t3 (by8 p 56) := by
    simp only [pc8]
    omega
  have y3 : YK t3 p 0 8 = t3 (by8 p 0) + 256 * (t3 (by8 p 8) + 256 * (t3 (by8 p 16) + 256 * (t3 (by8 p 24) + 256 * (t3 (by8 p 32) + 256 * (t3 (by8 p 40) + 256 * (t3 (by8 p 48) + 256 * t3 (by8 p 56))))))) := by
    simp only [YK, Nat.zero_add, Nat.reduceAdd, Nat.mul_zero, Nat.add_zero]
  have h6 := sum4 (tf _ (by8_lt p 0)).2.2.2.2.1 (tf _ (by8_lt p 8)).2.2.2.2.1 (tf _ (by8_lt p 16)).2.2.2.2.1 (tf _ (by8_lt p 24)).2.2.2.2.1 (tf _ (by8_lt p 32)).2.2.2.2.1 (tf _ (by8_lt p 40)).2.2.2.2.1 (tf _ (by8_lt p 48)).2.2.2.2.1 (tf _ (by8_lt p 56)).2.2.2.2.1 (b3.trans y3) (x4 := nL (sh4 (sh3 (sh2 (sh1 a))))) (by unfold sh4; rw [n_add, n_ush _ _ ush_k.2.2.2.1]) (x5 := nL (sh5 (sh4 (sh3 (sh2 (sh1 a)))))) (by unfold sh5; rw [n_add, n_ush _ _ ush_k.2.2.2.2.1]) (x6 := nL (sh6 (sh5 (sh4 (sh3 (sh2 (sh1 a))))))) (by unfold sh6; rw [n_add, n_ush _ _ ush_k.2.2.2.2.2])
  rw [← cc] at h6
  clear cc y3 b3 c1 c2 c3 c4 c5 c6 c7
  generalize sh6 (sh5 (sh4 (sh3 (sh2 (sh1 a))))) = x at *
  rw [pk_and _ 7 (m := (127 : Int32)) (by decide), iI_nI, Int64.toBitVec_toInt32, BitVec.signExtend_eq_setWidth_of_le _ (by omega), BitVec.toNat_setWidth, ← h6]
  unfold nL
  rw [show x.toBitVec.toNat % 2 ^ 32 % 2 ^ 7 = x.toBitVec.toNat % 128 from by omega]
