def bitL (s : Int64) (j : Nat) : Prop := s.toBitVec.getLsbD j = true
theorem bitL_or (s t : Int64) (j : Nat) : bitL (s ||| t) j ↔ bitL s j ∨ bitL t j := by
  unfold bitL
  rw [Int64.toBitVec_or, BitVec.getLsbD_or, Bool.or_eq_true]
theorem bitL_zero (j : Nat) : ¬ bitL 0 j := by
  unfold bitL
  rw [show (0 : Int64).toBitVec = 0#64 from rfl, BitVec.getLsbD_zero]; decide
theorem oneL_shl {u : Nat} (h : u < 60) : ((1 : Int64) <<< ((iI u).toInt64 &&& 63)).toBitVec = BitVec.twoPow 64 u := by
  have key : ∀ u, u < 60 → ((1 : Int64) <<< ((iI ((u : Nat) : Int)).toInt64 &&& 63)).toBitVec = BitVec.twoPow 64 u := by decide +kernel
  exact key u h
theorem bitL_one {u : Nat} (h : u < 60) (j : Nat) : bitL ((1 : Int64) <<< ((iI u).toInt64 &&& 63)) j ↔ j = u := by
  unfold bitL
  rw [oneL_shl h, BitVec.getLsbD_twoPow]
  constructor
  · intro q
    have := Bool.and_eq_true_iff.1 q
    exact (of_decide_eq_true this.2).symm
  · intro q
    subst q
    rw [decide_eq_true (show j < 64 by omega), decide_eq_true rfl]; rfl
def c01 (b : Bool) : Nat := if b = true then 1 else 0
theorem c01_le (b : Bool) : c01 b ≤ 1 := by cases b <;> decide
def MKB (p : Nat → Bool) : Nat → Nat → Nat
  | _, 0 => 0
  | j, d + 1 => c01 (p j) + 2 * MKB p (j + 1) d
theorem MKB_lt (p : Nat → Bool) : ∀ d j, MKB p j d < 2 ^ d := by
  intro d
  induction d with
  | zero => intro j; exact Nat.zero_lt_one
  | succ d ih => intro j; rw [MKB, Nat.pow_succ]; have := ih (j + 1); have := c01_le (p j); omega
theorem MKB_bit (p : Nat → Bool) : ∀ d j k, (MKB p j d).testBit k = (decide (k < d) && p (j + k)) := by
  intro d
  induction d with
  | zero => intro j k; rw [MKB, Nat.zero_testBit, decide_eq_false (by omega)]; rfl
  | succ d ih =>
    intro j k
    rw [MKB]
    cases k with
    | zero =>
      rw [Nat.testBit_zero, decide_eq_true (show 0 < d + 1 by omega), Nat.add_zero, Bool.true_and]
      cases h : p j
      · rw [show (c01 false + 2 * MKB p (j + 1) d) % 2 = 0 from by unfold c01; rw [if_neg (by decide)]; omega]; rfl
      · rw [show (c01 true + 2 * MKB p (j + 1) d) % 2 = 1 from by unfold c01; rw [if_pos rfl]; omega]; rfl
    | succ k =>
      rw [Nat.testBit_succ, show (c01 (p j) + 2 * MKB p (j + 1) d) / 2 = MKB p (j + 1) d from by have := c01_le (p j); omega, ih (j + 1) k, show j + 1 + k = j + (k + 1) from by omega]
      by_cases q : k < d
      · rw [decide_eq_true q, decide_eq_true (show k + 1 < d + 1 by omega)]
      · rw [decide_eq_false q, decide_eq_false (show ¬ k + 1 < d + 1 by omega)]
theorem mask_eq {p : Nat → Bool} {r : Int64} (h : ∀ k, k < 64 → (bitL r k ↔ (k < 60 ∧ p k = true))) : r.toBitVec = BitVec.ofNat 64 (MKB p 0 60) := by
  apply BitVec.eq_of_getLsbD_eq
  intro k hk
  rw [BitVec.getLsbD_ofNat, MKB_bit, Nat.zero_add, decide_eq_true hk, Bool.true_and, Bool.eq_iff_iff]
  rw [show (r.toBitVec.getLsbD k = true) = bitL r k from rfl, h k hk, Bool.and_eq_true, decide_eq_true_eq]
/-! counting bits -/
def sh1 (a : Int64) : Int64 := a - (((a.toUInt64 >>> ((1 : Int32).toInt64.toUInt64 &&& Int64.toUInt64 63)).toInt64) &&& (6148914691236517205 : Int64))
def sh2 (a : Int64) : Int64 := (a &&& (3689348814741910323 : Int64)) + (((a.toUInt64 >>> ((2 : Int32).toInt64.toUInt64 &&& Int64.toUInt64 63)).toInt64) &&& (3689348814741910323 : Int64))
def sh3 (a : Int64) : Int64 := (a + ((a.toUInt64 >>> ((4 : Int32).toInt64.toUInt64 &&& Int64.toUInt64 63)).toInt64)) &&& (1085102592571150095 : Int64)
def sh4 (a : Int64) : Int64 := a + ((a.toUInt64 >>> ((8 : Int32).toInt64.toUInt64 &&& Int64.toUInt64 63)).toInt64)
def sh5 (a : Int64) : Int64 := a + ((a.toUInt64 >>> ((16 : Int32).toInt64.toUInt64 &&& Int64.toUInt64 63)).toInt64)
def sh6 (a : Int64) : Int64 := a + ((a.toUInt64 >>> ((32 : Int32).toInt64.toUInt64 &&& Int64.toUInt64 63)).toInt64)
theorem bc_eq (a : Int64) : f_J13_bitCount_95d88 a = some ((sh6 (sh5 (sh4 (sh3 (sh2 (sh1 a)))))).toInt32 &&& (127 : Int32)) := rfl
def nL (a : Int64) : Nat := a.toBitVec.toNat
theorem n_ush (a : Int64) (c : UInt64) {k : Nat} (hc : (c % 64).toBitVec.toNat = k) : nL ((a.toUInt64 >>> c).toInt64) = nL a / 2 ^ k := by
  show (a.toBitVec >>> (c % 64).toBitVec).toNat = _
  rw [BitVec.ushiftRight_eq', BitVec.toNat_ushiftRight, Nat.shiftRight_eq_div_pow, hc]; rfl
theorem n_and (a b : Int64) : nL (a &&& b) = nL a &&& nL b := by unfold nL; rw [Int64.toBitVec_and, BitVec.toNat_and]
theorem n_add (a b : Int64) : nL (a + b) = (nL a + nL b) % 18446744073709551616 := by unfold nL; rw [Int64.toBitVec_add, BitVec.toNat_add]
theorem n_sub (a b : Int64) : nL (a - b) = (18446744073709551616 - nL b + nL a) % 18446744073709551616 := by unfold nL; rw [Int64.toBitVec_sub, BitVec.toNat_sub]
theorem n_lt (a : Int64) : nL a < 18446744073709551616 := a.toBitVec.isLt
theorem and_spl {t u c d : Nat} (ht : t < 256) (hc : c < 256) : (t + 256 * u) &&& (c + 256 * d) = (t &&& c) + 256 * (u &&& d) := by
  have h1 : ((t + 256 * u) &&& (c + 256 * d)) % 2 ^ 8 = ((t + 256 * u) % 2 ^ 8) &&& ((c + 256 * d) % 2 ^ 8) := Nat.and_mod_two_pow
  have h2 : ((t + 256 * u) &&& (c + 256 * d)) / 2 ^ 8 = ((t + 256 * u) / 2 ^ 8) &&& ((c + 256 * d) / 2 ^ 8) := Nat.and_div_two_pow
  rw [show (t + 256 * u) % 2 ^ 8 = t from by omega, show (c + 256 * d) % 2 ^ 8 = c from by omega] at h1
  rw [show (t + 256 * u) / 2 ^ 8 = u from by omega, show (c + 256 * d) / 2 ^ 8 = d from by omega] at h2
  rw [← h1, ← h2]; omega
def MK (c : Nat) : Nat → Nat
  | 0 => 0
  | n + 1 => c + 256 * MK c n
def by8 (p : Nat → Bool) (j : Nat) : Nat := MKB p j 8
theorem by8_lt (p : Nat → Bool) (j : Nat) : by8 p j < 256 := MKB_lt p 8 j
def YK (f : Nat → Nat) (p : Nat → Bool) : Nat → Nat → Nat
  | _, 0 => 0
  | j, n + 1 => f (by8 p j) + 256 * YK f p (j + 8) n
def t1 (b : Nat) : Nat := b - (b / 2 &&& 85)
def t2 (b : Nat) : Nat := (t1 b &&& 51) + (t1 b / 4 &&& 51)
def t3 (b : Nat) : Nat := (t2 b + t2 b / 16) &&& 15
theorem tf : ∀ b, b < 256 → (b / 2 &&& 85) ≤ b ∧ t1 b < 256 ∧ t2 b ≤ 68 ∧ t2 b % 16 ≤ 4 ∧ t3 b ≤ 8 ∧ (∀ e, e < 2 → (b / 2 + 128 * e) &&& 85 = b / 2 &&& 85) ∧ (∀ e, e < 4 → (b / 4 + 64 * e) &&& 51 = b / 4 &&& 51) := by decide +kernel
theorem st1 (p : Nat → Bool) : ∀ n j, YK id p j n - (YK id p j n / 2 &&& MK 85 n) = YK t1 p j n := by
  intro n
  induction n with
  | zero => intro j; show 0 - (0 / 2 &&& 0) = 0; decide
  | succ n ih =>
    intro j
    have hb := by8_lt p j
    have hf := tf _ hb
    have i1 := ih (j + 8)
    have hle : YK id p (j + 8) n / 2 &&& MK 85 n ≤ YK id p (j + 8) n / 2 := Nat.and_le_left
    rw [YK, YK, MK, ← i1]
    show by8 p j + 256 * YK id p (j + 8) n - ((by8 p j + 256 * YK id p (j + 8) n) / 2 &&& _) = _
    rw [show (by8 p j + 256 * YK id p (j + 8) n) / 2 = (by8 p j / 2 + 128 * (YK id p (j + 8) n % 2)) + 256 * (YK id p (j + 8) n / 2) from by omega, and_spl (by omega) (by omega), hf.2.2.2.2.2.1 _ (by omega)]
    unfold t1
    have := hf.1
    omega
theorem st2 (p : Nat → Bool) : ∀ n j, (YK t1 p j n &&& MK 51 n) + (YK t1 p j n / 4 &&& MK 51 n) = YK t2 p j n := by
  intro n
  induction n with
  | zero => intro j; show (0 &&& 0) + (0 / 4 &&& 0) = 0; decide
  | succ n ih =>
    intro j
    have hb := by8_lt p j
    have hf := tf _ hb
    have hf2 := tf _ hf.2.1
    have i1 := ih (j + 8)
    rw [YK, YK, MK, ← i1]
    rw [show (t1 (by8 p j) + 256 * YK t1 p (j + 8) n) / 4 = (t1 (by8 p j) / 4 + 64 * (YK t1 p (j + 8) n % 4)) + 256 * (YK t1 p (j + 8) n / 4) from by omega, and_spl (by omega) (by omega), and_spl (by omega) (by omega), hf2.2.2.2.2.2.2 _ (by omega)]
    unfold t2
    omega
theorem yk16 (p : Nat → Bool) (n j : Nat) : YK t2 p j n % 16 ≤ 4 := by
  cases n with
  | zero => show 0 % 16 ≤ 4; decide
  | succ n => rw [YK]; have := (tf _ (by8_lt p j)).2.2.2.1; omega
theorem st3 (p : Nat → Bool) : ∀ n j, (YK t2 p j n + YK t2 p j n / 16) &&& MK 15 n = YK t3 p j n := by
  intro n
  induction n with
  | zero => intro j; show (0 + 0 / 16) &&& 0 = 0; decide
  | succ n ih =>
    intro j
    have hb := by8_lt p j
    have hf := tf _ hb
    have i1 := ih (j + 8)
    have hy := yk16 p n (j + 8)
    have hs := hf.2.2.1
    rw [YK, YK, MK, ← i1]
    rw [show (t2 (by8 p j) + 256 * YK t2 p (j + 8) n) + (t2 (by8 p j) + 256 * YK t2 p (j + 8) n) / 16 = (t2 (by8 p j) + t2 (by8 p j) / 16 + 16 * (YK t2 p (j + 8) n % 16)) + 256 * (YK t2 p (j + 8) n + YK t2 p (j + 8) n / 16) from by omega, and_spl (by omega) (by omega)]
    unfold t3
    congr 1
    rw [show (15 : Nat) = 2 ^ 4 - 1 from rfl, Nat.and_two_pow_sub_one_eq_mod, Nat.and_two_pow_sub_one_eq_mod]
    omega
theorem yk_id (p : Nat → Bool) : ∀ n j, YK id p j n = MKB p j (8 * n) := by
  intro n
  induction n with
  | zero => intro j; rfl
  | succ n ih =>
    intro j
    rw [YK, ih, show 8 * (n + 1) = 8 * n + 1 + 1 + 1 + 1 + 1 + 1 + 1 + 1 from by omega]
    simp only [MKB, by8, id, Nat.add_assoc, Nat.reduceAdd]
    omega
def CB (p : Nat → Bool) : Nat → Nat → Nat
  | _, 0 => 0
  | j, d + 1 => c01 (p j) + CB p (j + 1) d
theorem pc8 (p : Nat → Bool) (j : Nat) : t3 (by8 p j) = CB p j 8 := by
  have key : ∀ b0 b1 b2 b3 b4 b5 b6 b7 : Bool, t3 (c01 b0 + 2 * (c01 b1 + 2 * (c01 b2 + 2 * (c01 b3 + 2 * (c01 b4 + 2 * (c01 b5 + 2 * (c01 b6 + 2 * (c01 b7 + 2 * 0)))))))) = c01 b0 + (c01 b1 + (c01 b2 + (c01 b3 + (c01 b4 + (c01 b5 + (c01 b6 + (c01 b7 + 0))))))) := by decide +kernel
  exact key _ _ _ _ _ _ _ _
theorem CB_add (p : Nat → Bool) : ∀ d j e, CB p j (d + e) = CB p j d + CB p (j + d) e := by
  intro d
  induction d with
  | zero => intro j e; rw [Nat.zero_add]; show _ = 0 + CB p j e; omega
  | succ d ih => intro j e; rw [show d + 1 + e = (d + e) + 1 from by omega, CB, CB, ih, show j + 1 + d = j + (d + 1) from by omega]; omega
