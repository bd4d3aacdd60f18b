/-! sets of minutes as bits: those that are near to one -/
theorem bitL_and (s t : Int64) (j : Nat) : bitL (s &&& t) j ↔ bitL s j ∧ bitL t j := by
  unfold bitL
  rw [Int64.toBitVec_and, BitVec.getLsbD_and, Bool.and_eq_true]
theorem bitL_not (s : Int64) {j : Nat} (h : j < 64) : bitL (s ^^^ (-1 : Int64)) j ↔ ¬ bitL s j := by
  unfold bitL
  rw [Int64.toBitVec_xor, show (-1 : Int64).toBitVec = BitVec.allOnes 64 from by decide, BitVec.xor_allOnes, BitVec.getLsbD_not, decide_eq_true h, Bool.true_and]
  cases s.toBitVec.getLsbD j <;> decide
theorem shl_k : ∀ u : Nat, u < 64 → (((iI ((u : Nat) : Int)).toInt64 &&& 63).toBitVec.smod 64).toNat = u := by decide +kernel
theorem bitL_shl (a : Int64) {u : Nat} (hu : u < 64) (k : Nat) : bitL (a <<< ((iI u).toInt64 &&& 63)) k ↔ k < 64 ∧ u ≤ k ∧ bitL a (k - u) := by
  unfold bitL
  rw [Int64.toBitVec_shiftLeft, BitVec.shiftLeft_eq', shl_k u hu, BitVec.getLsbD_shiftLeft, Bool.and_eq_true, Bool.and_eq_true, decide_eq_true_eq, Bool.not_eq_true', decide_eq_false_iff_not, Nat.not_lt, and_assoc]
theorem bitL_ush (a : Int64) (c : UInt64) {u : Nat} (hc : (c % 64).toBitVec.toNat = u) (k : Nat) : bitL ((a.toUInt64 >>> c).toInt64) k ↔ bitL a (u + k) := by
  show ((a.toBitVec >>> (c % 64).toBitVec).getLsbD k = true) ↔ _
  rw [BitVec.ushiftRight_eq', BitVec.getLsbD_ushiftRight, hc]
  exact Iff.rfl
theorem ush_60 : ∀ u : Nat, u < 60 → ((((60 : Int32) - iI ((u : Nat) : Int)).toInt64.toUInt64 &&& Int64.toUInt64 63) % 64).toBitVec.toNat = 60 - u := by decide +kernel
theorem run_tab : ∀ G : Nat, G < 30 → ∀ k : Nat, k < 64 → (((1 : Int64) <<< ((((2 : Int32) * iI ((G + 1 : Nat) : Int)) - (1 : Int32)).toInt64 &&& 63)) - (1 : Int64)).toBitVec.getLsbD k = decide (k < 2 * G + 1) := by decide +kernel
theorem run_bit {G : Nat} (hG : G < 30) (k : Nat) : bitL (((1 : Int64) <<< ((((2 : Int32) * iI ((G + 1 : Nat) : Int)) - (1 : Int32)).toInt64 &&& 63)) - (1 : Int64)) k ↔ k < 2 * G + 1 := by
  unfold bitL
  by_cases hk : k < 64
  · rw [run_tab G hG k hk, decide_eq_true_eq]
  · rw [BitVec.getLsbD_of_ge _ _ (by omega)]
    exact ⟨fun h => absurd h (by decide), fun h => absurd h (by omega)⟩
theorem all_tab : ∀ k : Nat, k < 64 → (1152921504606846975 : Int64).toBitVec.getLsbD k = decide (k < 60) := by decide +kernel
theorem all_bit {k : Nat} (hk : k < 64) : bitL (1152921504606846975 : Int64) k ↔ k < 60 := by
  unfold bitL
  rw [all_tab k hk, decide_eq_true_eq]
theorem c_near {m g : Int} (m1 : 0 ≤ m) (m2 : m < 60) (g1 : 1 ≤ g) (g2 : g ≤ 30) : ∃ r, f_X6_minutesNear (iI m) (iI g) = some r ∧ ∀ k : Nat, k < 64 → (bitL r k ↔ (k < 60 ∧ gapI (k : Int) m < g)) := by
  obtain ⟨G, hG, rfl⟩ : ∃ G : Nat, G < 30 ∧ g = ((G + 1 : Nat) : Int) := ⟨(g - 1).toNat, by omega, by omega⟩
  obtain ⟨u, hu, eu⟩ : ∃ u : Nat, u < 60 ∧ (m - ((G + 1 : Nat) : Int) + 1) % 60 = (u : Int) := ⟨((m - ((G + 1 : Nat) : Int) + 1) % 60).toNat, by omega, by omega⟩
  have e0 : (iI m - iI ((G + 1 : Nat) : Int)) + (1 : Int32) = iI (m - ((G + 1 : Nat) : Int) + 1) := by
    rw [iI_sub, show (1 : Int32) = iI 1 from rfl, iI_add]
  unfold f_X6_minutesNear
  rw [e0, c_round (by omega) (by omega), Option.bind_some, eu]
  refine ⟨_, rfl, fun k hk => ?_⟩
  rw [bitL_and, bitL_or, bitL_shl _ (show u < 64 by omega), bitL_ush _ _ (ush_60 u hu), run_bit hG, run_bit hG, all_bit hk]
  unfold gapI
  constructor
  · rintro ⟨h1 | h1, h3⟩
    · refine ⟨h3, ?_⟩
      split <;> omega
    · refine ⟨h3, ?_⟩
      split <;> omega
  · rintro ⟨h3, h4⟩
    refine ⟨?_, h3⟩
    by_cases q : u ≤ k
    · refine Or.inl ⟨hk, q, ?_⟩
      split at h4 <;> omega
    · refine Or.inr ?_
      split at h4 <;> omega
theorem bitL_shr0 (a : Int64) {u : Nat} (hu : u < 64) : bitL (a >>> ((iI u).toInt64 &&& 63)) 0 ↔ bitL a u := by
  unfold bitL
  rw [Int64.toBitVec_shiftRight, BitVec.getLsbD_sshiftRight', shl_k u hu, Nat.add_zero, if_pos hu, decide_eq_false (show ¬ 64 ≤ 0 by omega), Bool.not_false, Bool.true_and]
theorem bitL_1 (k : Nat) : bitL 1 k ↔ k = 0 := by
  unfold bitL
  rw [show (1 : Int64).toBitVec = 1#64 from rfl, BitVec.getLsbD_one, decide_eq_true (show 0 < 64 by omega), Bool.true_and, decide_eq_true_eq]
theorem bit_test (a : Int64) {u : Nat} (hu : u < 64) : (lg_cmp ((a >>> ((iI u).toInt64 &&& 63)) &&& (1 : Int64)) (0 : Int64) = 0) ↔ ¬ bitL a u := by
  rw [lg_eq0]
  constructor
  · intro h q
    have h1 : bitL ((a >>> ((iI u).toInt64 &&& 63)) &&& (1 : Int64)) 0 := (bitL_and _ _ _).2 ⟨(bitL_shr0 a hu).2 q, (bitL_1 0).2 rfl⟩
    rw [h] at h1
    exact bitL_zero 0 h1
  · intro h
    apply Int64.toBitVec_inj.1
    apply BitVec.eq_of_getLsbD_eq
    intro k hk
    rw [show (0 : Int64).toBitVec = 0#64 from rfl, BitVec.getLsbD_zero]
    apply Bool.eq_false_iff.2
    intro q
    have q2 := (bitL_and _ _ k).1 q
    have q3 := (bitL_1 k).1 q2.2
    subst q3
    exact h ((bitL_shr0 a hu).1 q2.1)
