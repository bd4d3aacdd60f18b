/-! numbers: an int as the image of an integer -/
def iI (z : Int) : Int32 := Int32.ofInt z
def iL (z : Int) : Int64 := Int64.ofInt z
theorem iI_def (z : Int) : iI z = Int32.ofInt z := rfl
theorem iI_add (a b : Int) : iI a + iI b = iI (a + b) := (Int32.ofInt_add a b).symm
theorem iI_sub (a b : Int) : iI a - iI b = iI (a - b) := (Int32.ofInt_sub a b).symm
theorem iI_mul (a b : Int) : iI a * iI b = iI (a * b) := (Int32.ofInt_mul a b).symm
theorem iI_neg (a : Int) : -iI a = iI (-a) := (Int32.ofInt_neg a).symm
theorem iI_lit (n : Nat) : (OfNat.ofNat n : Int32) = iI (OfNat.ofNat n : Nat) := by
  show Int32.ofNat n = Int32.ofInt (n : Int)
  rw [Int32.ofInt_eq_ofNat]
theorem iI_ofNat (n : Nat) : Int32.ofNat n = iI n := by rw [iI, Int32.ofInt_eq_ofNat]
theorem iI_nI (n : Nat) : nI n = iI n := iI_ofNat n
theorem iI_of (x : Int32) : ∃ z : Int, -2147483648 ≤ z ∧ z < 2147483648 ∧ x = iI z := ⟨x.toInt, by have := Int32.le_toInt x; omega, by have := Int32.toInt_lt x; omega, (Int32.ofInt_toInt x).symm⟩
theorem iI_toInt {z : Int} (h1 : -2147483648 ≤ z) (h2 : z < 2147483648) : (iI z).toInt = z := Int32.toInt_ofInt_of_le (by omega) (by omega)
theorem iI_lt {a b : Int} (h1 : -2147483648 ≤ a) (h2 : a < 2147483648) (h3 : -2147483648 ≤ b) (h4 : b < 2147483648) : (iI a < iI b) = (a < b) := by
  rw [Int32.lt_iff_toInt_lt, iI_toInt h1 h2, iI_toInt h3 h4]
theorem iI_le {a b : Int} (h1 : -2147483648 ≤ a) (h2 : a < 2147483648) (h3 : -2147483648 ≤ b) (h4 : b < 2147483648) : (iI a ≤ iI b) = (a ≤ b) := by
  rw [Int32.le_iff_toInt_le, iI_toInt h1 h2, iI_toInt h3 h4]
theorem iI_eq {a b : Int} (h1 : -2147483648 ≤ a) (h2 : a < 2147483648) (h3 : -2147483648 ≤ b) (h4 : b < 2147483648) : (iI a = iI b) = (a = b) := by
  rw [← Int32.toInt_inj, iI_toInt h1 h2, iI_toInt h3 h4]
theorem iI_clamp {z : Int} (h1 : 0 ≤ z) (h2 : z < 2147483648) : (iI z).toNatClampNeg = z.toNat := by
  show (iI z).toInt.toNat = _
  rw [iI_toInt (by omega) h2]
theorem iI_div {a b : Int} (h1 : -2147483648 < a) (h2 : a < 2147483648) (h3 : 0 < b) (h4 : b < 2147483648) : iI a / iI b = iI (a.tdiv b) := by
  apply Int32.toInt.inj
  rw [Int32.toInt_div_of_ne_left _ _ (by intro h; have := congrArg Int32.toInt h; rw [iI_toInt (by omega) h2] at this; have h5 : Int32.minValue.toInt = -2147483648 := by decide
                                         omega), iI_toInt (by omega) h2, iI_toInt (by omega) h4, iI_toInt]
  · have h6 : a.tdiv b = if 0 ≤ a then a / b else -((-a) / b) := by
      split
      · exact Int.tdiv_eq_ediv_of_nonneg ‹_›
      · rw [← Int.tdiv_eq_ediv_of_nonneg (by omega), Int.neg_tdiv, Int.neg_neg]
    rw [h6]
    split
    · have := Int.ediv_nonneg ‹0 ≤ a› (by omega : (0:Int) ≤ b); omega
    · have h7 : (-a) / b ≤ -a := Int.ediv_le_self _ (by omega)
      omega
  · have h6 : a.tdiv b = if 0 ≤ a then a / b else -((-a) / b) := by
      split
      · exact Int.tdiv_eq_ediv_of_nonneg ‹_›
      · rw [← Int.tdiv_eq_ediv_of_nonneg (by omega), Int.neg_tdiv, Int.neg_neg]
    rw [h6]
    split
    · have h7 : a / b ≤ a := Int.ediv_le_self _ ‹0 ≤ a›
      omega
    · have := Int.ediv_nonneg (by omega : (0:Int) ≤ -a) (by omega : (0:Int) ≤ b); omega
theorem iI_divn {a b : Int} (h1 : 0 ≤ a) (h2 : a < 2147483648) (h3 : 0 < b) (h4 : b < 2147483648) : iI a / iI b = iI (a / b) := by
  rw [iI_div (by omega) h2 h3 h4, Int.tdiv_eq_ediv_of_nonneg h1]
theorem iI_rem {a b : Int} (h1 : 0 ≤ a) (h2 : a < 2147483648) (h3 : 0 < b) (h4 : b < 2147483648) : iI a - iI a / iI b * iI b = iI (a % b) := by
  rw [iI_divn h1 h2 h3 h4, iI_mul, iI_sub]
  congr 1
  have := Int.mul_ediv_add_emod a b
  rw [Int.mul_comm] at this
  omega
theorem iI_remn {a b : Int} (h0 : a ≤ 0) (h1 : -2147483648 < a) (h3 : 0 < b) (h4 : b < 2147483648) : iI a - iI a / iI b * iI b = iI (-((-a) % b)) := by
  rw [iI_div h1 (by omega) h3 h4, iI_mul, iI_sub]
  congr 1
  have h5 : a.tdiv b = -((-a) / b) := by rw [← Int.tdiv_eq_ediv_of_nonneg (by omega), Int.neg_tdiv, Int.neg_neg]
  rw [h5]
  have := Int.mul_ediv_add_emod (-a) b
  rw [Int.mul_comm] at this
  have h6 : -(-a / b) * b = -((-a / b) * b) := Int.neg_mul _ _
  rw [h6]
  omega
theorem nn_ixo {α : Type} {z : Int} {n : Nat} {x : Option α} (h1 : 0 ≤ z) (h2 : z < n) (h3 : n < 2147483648) : nn_ix (iI z) n x = x := by
  unfold nn_ix
  rw [if_neg]
  intro h
  rcases h with h | h
  · rw [show (0 : Int32) = iI 0 from rfl, iI_lt (by omega) (by omega) (by omega) (by omega)] at h; omega
  · rw [iI_clamp h1 (by omega)] at h; omega
theorem nn_nzo {α : Type} {z : Int} {x : Option α} (h1 : -2147483648 ≤ z) (h2 : z < 2147483648) (h : z ≠ 0) : nn_nz (iI z) x = x := by
  unfold nn_nz
  rw [if_neg]
  rw [show (0 : Int32) = iI 0 from rfl, iI_eq (by omega) (by omega) (by omega) (by omega)]; exact h
theorem nn_bo1 {α : Type} {x : Option α} : nn_bo (1 : Int32) x = x := by unfold nn_bo; rw [if_pos (Or.inr rfl)]
theorem nn_bo0 {α : Type} {x : Option α} : nn_bo (0 : Int32) x = x := by unfold nn_bo; rw [if_pos (Or.inl rfl)]
theorem nn_boi {α : Type} {x : Option α} {z : Int} (h : z = 0 ∨ z = 1) : nn_bo (iI z) x = x := by
  rcases h with h | h <;> subst h
  · exact nn_bo0
  · exact nn_bo1
theorem iL_add (a b : Int) : iL a + iL b = iL (a + b) := (Int64.ofInt_add a b).symm
theorem iL_mul (a b : Int) : iL a * iL b = iL (a * b) := (Int64.ofInt_mul a b).symm
theorem iL_lit (n : Nat) : (OfNat.ofNat n : Int64) = iL (OfNat.ofNat n : Nat) := by
  show Int64.ofNat n = Int64.ofInt (n : Int)
  rw [Int64.ofInt_eq_ofNat]
theorem iL_neg (a : Int) : -iL a = iL (-a) := (Int64.ofInt_neg a).symm
theorem iL_toInt {z : Int} (h1 : -9223372036854775808 ≤ z) (h2 : z < 9223372036854775808) : (iL z).toInt = z := Int64.toInt_ofInt_of_le (by omega) (by omega)
theorem iL_lt {a b : Int} (h1 : -9223372036854775808 ≤ a) (h2 : a < 9223372036854775808) (h3 : -9223372036854775808 ≤ b) (h4 : b < 9223372036854775808) : (iL a < iL b) = (a < b) := by
  rw [Int64.lt_iff_toInt_lt, iL_toInt h1 h2, iL_toInt h3 h4]
theorem iL_eq {a b : Int} (h1 : -9223372036854775808 ≤ a) (h2 : a < 9223372036854775808) (h3 : -9223372036854775808 ≤ b) (h4 : b < 9223372036854775808) : (iL a = iL b) = (a = b) := by
  rw [← Int64.toInt_inj, iL_toInt h1 h2, iL_toInt h3 h4]
theorem iI_L {z : Int} (h1 : -2147483648 ≤ z) (h2 : z < 2147483648) : (iI z).toInt64 = iL z := by
  apply Int64.toInt.inj
  rw [Int32.toInt_toInt64, iI_toInt h1 h2, iL_toInt (by omega) (by omega)]
theorem lg_lt0 {a b : Int} (h1 : -9223372036854775808 ≤ a) (h2 : a < 9223372036854775808) (h3 : -9223372036854775808 ≤ b) (h4 : b < 9223372036854775808) : (lg_cmp (iL a) (iL b) < 0) = (a < b) := by
  unfold lg_cmp
  simp (disch := omega) only [gt_iff_lt, iL_lt, iL_eq]
  by_cases h : b < a
  · rw [if_pos h]; simp only [eq_iff_iff]; constructor
    · intro h; exact absurd h (by decide)
    · intro h; omega
  · rw [if_neg h]
    by_cases h5 : a = b
    · rw [if_pos h5]; simp only [eq_iff_iff]; constructor
      · intro h; exact absurd h (by decide)
      · intro h; omega
    · rw [if_neg h5]; simp only [eq_iff_iff]; constructor
      · intro _; omega
      · intro _; decide
theorem lg_gt0 {a b : Int} (h1 : -9223372036854775808 ≤ a) (h2 : a < 9223372036854775808) (h3 : -9223372036854775808 ≤ b) (h4 : b < 9223372036854775808) : (0 < lg_cmp (iL a) (iL b)) = (b < a) := by
  unfold lg_cmp
  simp (disch := omega) only [gt_iff_lt, iL_lt, iL_eq]
  by_cases h : b < a
  · rw [if_pos h]; simp only [eq_iff_iff]; constructor
    · intro _; exact h
    · intro _; decide
  · rw [if_neg h]
    by_cases h5 : a = b
    · rw [if_pos h5]; simp only [eq_iff_iff]; constructor
      · intro h; exact absurd h (by decide)
      · intro h; omega
    · rw [if_neg h5]; simp only [eq_iff_iff]; constructor
      · intro h; exact absurd h (by decide)
      · intro h; omega
theorem lg_le0 {a b : Int} (h1 : -9223372036854775808 ≤ a) (h2 : a < 9223372036854775808) (h3 : -9223372036854775808 ≤ b) (h4 : b < 9223372036854775808) : (lg_cmp (iL a) (iL b) ≤ 0) = (a ≤ b) := by
  rw [← Int32.not_lt, lg_gt0 h1 h2 h3 h4, Int.not_lt]
theorem lg_ge0 {a b : Int} (h1 : -9223372036854775808 ≤ a) (h2 : a < 9223372036854775808) (h3 : -9223372036854775808 ≤ b) (h4 : b < 9223372036854775808) : (0 ≤ lg_cmp (iL a) (iL b)) = (b ≤ a) := by
  rw [← Int32.not_lt, lg_lt0 h1 h2 h3 h4, Int.not_lt]
theorem lg_eq0 (x y : Int64) : (lg_cmp x y = 0) = (x = y) := by
  unfold lg_cmp
  simp only [eq_iff_iff]
  by_cases h5 : x = y
  · subst h5
    simp
  · constructor
    · intro h
      exfalso
      by_cases h6 : x > y
      · rw [if_pos h6] at h; exact absurd h (by decide)
      · rw [if_neg h6, if_neg h5] at h; exact absurd h (by decide)
    · intro h; exact absurd h h5
/-- in(v, low, high) of the reference -/
theorem m_in {a b c : Int} (h1 : -2147483648 ≤ a) (h2 : a < 2147483648) (h3 : -2147483648 ≤ b) (h4 : b < 2147483648) (h5 : -2147483648 ≤ c) (h6 : c < 2147483648) : f_X7_in (iL a) (iL b) (iL c) = some (if b ≤ a ∧ a ≤ c then 1 else 0) := by
  unfold f_X7_in
  simp (disch := omega) only [lg_lt0, lg_gt0]
  by_cases hb : b ≤ a <;> by_cases hc : a ≤ c <;> simp [hb, hc, Int.not_lt.mpr, Int.not_le.mp] <;> omega
theorem c_within {a b c : Int} (h1 : -2147483648 ≤ a) (h2 : a < 2147483648) (h3 : -2147483648 ≤ b) (h4 : b < 2147483648) (h5 : -2147483648 ≤ c) (h6 : c < 2147483648) : f_X6_within (iI a) (iI b) (iI c) = some (if b ≤ a ∧ a ≤ c then 1 else 0) := by
  unfold f_X6_within
  simp (disch := omega) only [iI_lt]
  by_cases hb : b ≤ a <;> by_cases hc : a ≤ c <;> simp [hb, hc, Int.not_lt.mpr, Int.not_le.mp] <;> omega
theorem c_abs {a : Int} (h1 : -2147483648 < a) (h2 : a < 2147483648) : f_J9_abs_0f7a4 (iI a) = some (iI (if 0 ≤ a then a else -a)) := by
  unfold f_J9_abs_0f7a4
  rw [show (0 : Int32) = iI 0 from rfl]
  simp (disch := omega) only [iI_le, iI_neg]
  split <;> rfl
theorem c_min {a b : Int} (h1 : -2147483648 ≤ a) (h2 : a < 2147483648) (h3 : -2147483648 ≤ b) (h4 : b < 2147483648) : f_J9_min_7cf53 (iI a) (iI b) = some (iI (if b < a then b else a)) := by
  unfold f_J9_min_7cf53
  simp (disch := omega) only [iI_lt]
  split <;> rfl
theorem c_max {a b : Int} (h1 : -2147483648 ≤ a) (h2 : a < 2147483648) (h3 : -2147483648 ≤ b) (h4 : b < 2147483648) : f_J9_max_7cf53 (iI a) (iI b) = some (iI (if a < b then b else a)) := by
  unfold f_J9_max_7cf53
  simp (disch := omega) only [iI_lt]
  split <;> rfl
theorem xor_sign (a b : Int32) : (0 ≤ a ^^^ b) = ((a < 0) = (b < 0)) := by
  rw [← Int32.not_lt]
  have key : ∀ x : Int32, (x < 0) = (x.toBitVec.msb = true) := by
    intro x
    rw [Int32.lt_iff_toInt_lt]
    show (x.toBitVec.toInt < 0) = _
    rw [BitVec.msb_eq_toInt]; simp
  rw [key, key, key]
  show (¬ (a.toBitVec ^^^ b.toBitVec).msb = true) = _
  rw [BitVec.msb_xor]
  cases a.toBitVec.msb <;> cases b.toBitVec.msb <;> simp
theorem c_floorMod {a : Int} (h1 : -2147483648 < a) (h2 : a < 2147483648) : f_J9_floorMod_7cf53 (iI a) (60 : Int32) = some (iI (a % 60)) := by
  unfold f_J9_floorMod_7cf53
  rw [show (60 : Int32) = iI 60 from rfl, nn_nzo (by omega) (by omega) (by omega)]
  by_cases h : 0 ≤ a
  · rw [if_pos (by rw [xor_sign, show (0 : Int32) = iI 0 from rfl]; simp (disch := omega) only [iI_lt]; simp; omega)]
    simp (disch := omega) only [iI_rem]
  · rw [if_neg (by rw [xor_sign, show (0 : Int32) = iI 0 from rfl]; simp (disch := omega) only [iI_lt]; simp; omega)]
    rw [show (0 : Int32) = iI 0 from rfl]
    simp (disch := omega) only [iI_remn, iI_eq, iI_add]
    split
    · congr 2; omega
    · congr 2; omega
theorem c_round {a : Int} (h1 : -2147483648 < a) (h2 : a < 2147483648) : f_X6_roundTheHour (iI a) = some (iI (a % 60)) := by
  unfold f_X6_roundTheHour
  rw [c_floorMod h1 h2]; rfl
theorem m_round {a : Int} (h1 : -2147483648 < a) (h2 : a < 2147483000) : f_X7_round (iI a) = some (iI (a % 60)) := by
  unfold f_X7_round
  rw [show (60 : Int32) = iI 60 from rfl]
  by_cases h : 0 ≤ a
  · simp (disch := omega) only [iI_rem, iI_add]
    congr 2; omega
  · simp (disch := omega) only [iI_remn, iI_add]
    rw [iI_rem (by omega) (by omega) (by omega) (by omega)]
    congr 2; omega
/-- GAP of two minutes -/
def gapI (a b : Int) : Int := if (a - b) % 60 ≤ 30 then (a - b) % 60 else 60 - (a - b) % 60
theorem gapI_b (a b : Int) : 0 ≤ gapI a b ∧ gapI a b ≤ 30 := by unfold gapI; split <;> omega
theorem gapI_comm (a b : Int) : gapI a b = gapI b a := by unfold gapI; split <;> split <;> omega
theorem c_shorter {a b : Int} (h1 : 0 ≤ a) (h2 : a < 60) (h3 : 0 ≤ b) (h4 : b < 60) : f_X6_shorterWay (iI a) (iI b) = some (iI (gapI a b)) := by
  unfold f_X6_shorterWay gapI
  rw [show (60 : Int32) = iI 60 from rfl, show (30 : Int32) = iI 30 from rfl]
  simp (disch := omega) only [iI_le, iI_lt, iI_sub]
  split <;> split <;> split <;> first | (congr 2; omega) | omega
theorem m_between {a b : Int} (h1 : -1000000 ≤ a) (h2 : a < 1000000) (h3 : -1000000 ≤ b) (h4 : b < 1000000) : f_X7_between (iI a) (iI b) = some (iI (gapI a b)) := by
  unfold f_X7_between gapI
  rw [iI_sub, m_round (by omega) (by omega), Option.bind_some, show (60 : Int32) = iI 60 from rfl, show (30 : Int32) = iI 30 from rfl]
  simp (disch := omega) only [iI_le, iI_sub]
  split <;> rfl
