theorem bitsNat {n t h : Nat} (hn : n = 2 ^ t * (2 * h + 1)) (ht : t < 32) (hlt : n < 2 ^ 32) : (2 ^ 32 - 1 - n) &&& (n - 1) = 2 ^ t - 1 := by
  have hp : 0 < 2 ^ t := Nat.two_pow_pos t
  have e1 : n - 1 = 2 ^ t * (2 * h) + (2 ^ t - 1) := by
    rw [hn, Nat.mul_add, Nat.mul_one]; omega
  apply Nat.eq_of_testBit_eq
  intro k
  rw [Nat.testBit_and, show 2 ^ 32 - 1 - n = 2 ^ 32 - (n + 1) from by omega, Nat.testBit_two_pow_sub_succ hlt, e1, Nat.testBit_two_pow_mul_add _ (by omega), Nat.testBit_two_pow_sub_one, hn, Nat.testBit_two_pow_mul]
  by_cases k1 : k < t
  · rw [if_pos k1, decide_eq_true k1, decide_eq_true (show k < 32 by omega), decide_eq_false (show ¬ k ≥ t by omega)]; rfl
  · rw [if_neg k1, decide_eq_false k1, decide_eq_true (show k ≥ t by omega), Bool.true_and]
    obtain ⟨q, rfl⟩ : ∃ q, k = t + q := ⟨k - t, by omega⟩
    rw [Nat.add_sub_cancel_left]
    cases q with
    | zero => rw [Nat.testBit_zero, Nat.testBit_zero, show (2 * h + 1) % 2 = 1 from by omega]; simp
    | succ q =>
      rw [Nat.testBit_succ, Nat.testBit_succ, show (2 * h + 1) / 2 = h from by omega, show 2 * h / 2 = h from by omega]
      cases h.testBit q <;> simp
theorem ntz_tab : ∀ t : Nat, t < 32 → (if 0 < iI ((2 ^ t - 1 : Nat) : Int) then if iI ((2 ^ t - 1 : Nat) : Int) ≤ (65536 : Int32) then f_J6_numberOfTrailingZeros_0f7a4_J34 (iI ((2 ^ t - 1 : Nat) : Int)) (1 : Int32) else f_J6_numberOfTrailingZeros_0f7a4_J34 (((iI ((2 ^ t - 1 : Nat) : Int)).toUInt32 >>> ((16 : Int32).toUInt32 &&& Int32.toUInt32 31)).toInt32) ((1 : Int32) + (16 : Int32)) else some (iI ((2 ^ t - 1 : Nat) : Int) &&& (32 : Int32))) = some (iI (t : Int)) := by decide +kernel
theorem ntz32 {x : Int32} {t h : Nat} (ht : t < 32) (hx : x.toBitVec.toNat = 2 ^ t * (2 * h + 1)) : f_J6_numberOfTrailingZeros_0f7a4 x = some (iI (t : Int)) := by
  have hp : 0 < 2 ^ t := Nat.two_pow_pos t
  have hpos : 0 < x.toBitVec.toNat := by rw [hx]; exact Nat.mul_pos hp (by omega)
  have hlt : x.toBitVec.toNat < 2 ^ 32 := x.toBitVec.isLt
  have e : ((x ^^^ (-1 : Int32)) &&& (x - (1 : Int32))) = iI ((2 ^ t - 1 : Nat) : Int) := by
    have hb := bitsNat hx ht hlt
    apply Int32.toBitVec_inj.1
    apply BitVec.eq_of_toNat_eq
    rw [Int32.toBitVec_and, Int32.toBitVec_xor, Int32.toBitVec_sub, BitVec.toNat_and, show (-1 : Int32).toBitVec = BitVec.allOnes 32 from by decide, BitVec.xor_allOnes, BitVec.toNat_not, BitVec.toNat_sub, show (1 : Int32).toBitVec.toNat = 1 from rfl, show (2 ^ 32 - 1 + x.toBitVec.toNat) % 2 ^ 32 = x.toBitVec.toNat - 1 from by omega, hb]
    unfold iI
    rw [Int32.toBitVec_ofInt, BitVec.toNat_ofInt]
    have hle : 2 ^ t ≤ x.toBitVec.toNat := by rw [hx]; exact Nat.le_mul_of_pos_right _ (by omega)
    omega
  unfold f_J6_numberOfTrailingZeros_0f7a4
  rw [e]
  exact ntz_tab t ht
theorem ntz64 {x : Int64} {t h : Nat} (ht : t < 60) (hx : nL x = 2 ^ t * (2 * h + 1)) : f_J13_numberOfTrailingZeros_95d88 x = some (iI (t : Int)) := by
  have hlt := n_lt x
  have e32 : x.toInt32.toBitVec.toNat = nL x % 2 ^ 32 := by
    rw [Int64.toBitVec_toInt32, BitVec.signExtend_eq_setWidth_of_le _ (by omega), BitVec.toNat_setWidth]; rfl
  unfold f_J13_numberOfTrailingZeros_95d88
  by_cases k : t < 32
  · have hp : 0 < 2 ^ t := Nat.two_pow_pos t
    have e2 : nL x % 2 ^ 32 = 2 ^ t * (2 * (h % 2 ^ (31 - t)) + 1) := by
      have e3 : 2 ^ 32 = 2 ^ t * 2 * 2 ^ (31 - t) := by
        rw [← Nat.pow_succ, ← Nat.pow_add]; congr 1; omega
      have e4 := Nat.div_add_mod h (2 ^ (31 - t))
      have e5 : nL x = 2 ^ t * (2 * (h % 2 ^ (31 - t)) + 1) + 2 ^ 32 * (h / 2 ^ (31 - t)) := by
        rw [hx, e3, Nat.mul_assoc (2 ^ t * 2), Nat.mul_assoc (2 ^ t) 2, ← Nat.mul_add]
        congr 1
        omega
      have hm : h % 2 ^ (31 - t) < 2 ^ (31 - t) := Nat.mod_lt _ (Nat.two_pow_pos _)
      have hl : 2 ^ t * (2 * (h % 2 ^ (31 - t)) + 1) < 2 ^ 32 := by
        rw [e3, Nat.mul_assoc]
        exact Nat.mul_lt_mul_of_pos_left (by omega) hp
      rw [e5, Nat.add_mul_mod_self_left, Nat.mod_eq_of_lt hl]
    have hne : ¬ x.toInt32 = 0 := by
      intro q
      rw [q] at e32
      rw [e2] at e32
      have : 0 < 2 ^ t * (2 * (h % 2 ^ (31 - t)) + 1) := Nat.mul_pos hp (by omega)
      rw [← e32] at this
      exact absurd this (by decide)
    rw [if_neg hne, ntz32 k (e32.trans e2)]; rfl
  · obtain ⟨s, rfl⟩ : ∃ s, t = 32 + s := ⟨t - 32, by omega⟩
    have e2 : nL x = 2 ^ 32 * (2 ^ s * (2 * h + 1)) := by rw [hx, Nat.pow_add, Nat.mul_assoc]
    have hz : x.toInt32 = 0 := by
      apply Int32.toBitVec_inj.1
      apply BitVec.eq_of_toNat_eq
      rw [e32, e2, Nat.mul_mod_right]; rfl
    have hs : nL ((x.toUInt64 >>> ((32 : Int32).toInt64.toUInt64 &&& Int64.toUInt64 63)).toInt64) = 2 ^ s * (2 * h + 1) := by
      rw [n_ush x _ ush_k.2.2.2.2.2, e2, Nat.mul_div_cancel_left _ (by omega)]
    have hl2 : 2 ^ s * (2 * h + 1) < 2 ^ 32 := by
      have : 2 ^ 32 * (2 ^ s * (2 * h + 1)) < 2 ^ 32 * 2 ^ 32 := by rw [← e2]; exact hlt
      exact Nat.lt_of_mul_lt_mul_left this
    rw [if_pos hz, ntz32 (t := s) (h := h) (by omega) (by
      rw [Int64.toBitVec_toInt32, BitVec.signExtend_eq_setWidth_of_le _ (by omega), BitVec.toNat_setWidth]
      show nL _ % 2 ^ 32 = _
      rw [hs, Nat.mod_eq_of_lt hl2]), Option.bind_some, show (32 : Int32) = iI 32 from rfl, iI_add]
    congr 1
def CN (p : Nat → Bool) : Nat → Nat
  | 0 => 0
  | d + 1 => c01 (p d) + CN p d
theorem CN_CB (p : Nat → Bool) : ∀ d j, CN p (j + d) = CN p j + CB p j d := by
  intro d
  induction d with
  | zero => intro j; rfl
  | succ d ih => intro j; rw [show j + (d + 1) = (j + 1) + d from by omega, ih, CN, CB]; omega
theorem CN_le (p : Nat → Bool) : ∀ d, CN p d ≤ d := by
  intro d
  induction d with
  | zero => exact Nat.le_refl _
  | succ d ih => rw [CN]; have := c01_le (p d); omega
def FM (p : Nat → Bool) : Nat → Int → Int
  | 0, a => a
  | d + 1, a => FM p d (if p d = true then (d : Int) else a)
theorem FM_none (p : Nat → Bool) : ∀ d a, (∀ k, k < d → p k = false) → FM p d a = a := by
  intro d
  induction d with
  | zero => intro a _; rfl
  | succ d ih => intro a hh; rw [FM, hh d (by omega), ih _ (fun k hk => hh k (by omega))]; rfl
theorem FM_some (p : Nat → Bool) {t : Nat} (h1 : p t = true) (h2 : ∀ k, k < t → p k = false) : ∀ d a, t < d → FM p d a = t := by
  intro d
  induction d with
  | zero => intro a q; omega
  | succ d ih =>
    intro a q
    rw [FM]
    by_cases e : t = d
    · subst e; rw [if_pos h1, FM_none p t _ h2]
    · exact ih _ (by omega)
theorem MKB_low (p : Nat → Bool) : ∀ d j, (MKB p j d = 0 ∧ ∀ k, k < d → p (j + k) = false) ∨ ∃ t h, t < d ∧ MKB p j d = 2 ^ t * (2 * h + 1) ∧ p (j + t) = true ∧ ∀ k, k < t → p (j + k) = false := by
  intro d
  induction d with
  | zero => intro j; exact Or.inl ⟨rfl, fun k hk => absurd hk (by omega)⟩
  | succ d ih =>
    intro j
    cases hp : p j
    · rcases ih (j + 1) with ⟨e, hh⟩ | ⟨t, h, ht, e, q1, q2⟩
      · refine Or.inl ⟨by rw [MKB, e, hp]; rfl, fun k hk => ?_⟩
        cases k with
        | zero => exact hp
        | succ k => have := hh k (by omega); rw [show j + (k + 1) = j + 1 + k from by omega]; exact this
      · refine Or.inr ⟨t + 1, h, by omega, ?_, ?_, fun k hk => ?_⟩
        · rw [MKB, e, hp, show c01 false = 0 from rfl, Nat.zero_add, Nat.pow_succ, Nat.mul_comm (2 ^ t) 2, Nat.mul_assoc]
        · rw [show j + (t + 1) = j + 1 + t from by omega]; exact q1
        · cases k with
          | zero => exact hp
          | succ k => have := q2 k (by omega); rw [show j + (k + 1) = j + 1 + k from by omega]; exact this
    · refine Or.inr ⟨0, MKB p (j + 1) d, by omega, ?_, hp, fun k hk => absurd hk (by omega)⟩
      rw [MKB, hp, show c01 true = 1 from rfl]; omega
def FP (V : nSV) (g : Int) (t : Nat) : Bool := decide (t < 60) && al (frp V (t : Int) g) 0 (v_n V)
theorem c_freeM {x : nVl} {V : nSV} (h : rC x V) (ok : okV V) {g : Int} (hg : 1 ≤ g) (hg2 : g ≤ 30) : ∃ r, f_X5_freeMinutes x (iI g) = some r ∧ ∀ k, k < 64 → (bitL r k ↔ (k < 60 ∧ FP V g k = true)) := by
  have hn := ok.1
  have key : ∀ (d n j : Nat) (a : Int64), j + d = v_n V → d < n → ∃ r, f_X5_freeMinutes_L7 x n (iI g) a (iI j) (fun b1_5 b2_6 b4_7 => some (b2_6)) = some r ∧ ∀ k : Nat, k < 64 → (bitL r k ↔ (bitL a k ∧ (k < 60 → al (frp V (k : Int) g) j d = true))) := by
    intro d
    induction d with
    | zero =>
      intro n j a hj hd
      obtain ⟨n, rfl, -⟩ := fuel hd
      obtain rfl : j = v_n V := by omega
      refine ⟨a, by rw [f_X5_freeMinutes_L7, h.1, if_pos (by rw [iI_leN (by omega) (by omega)]; omega)], fun k _ => ⟨fun q => ⟨q, fun _ => rfl⟩, fun q => q.1⟩⟩
    | succ d ih =>
      intro n j a hj hd
      obtain ⟨n, rfl, hd2⟩ := fuel hd
      have o := ok.2.1 j (by omega)
      obtain ⟨s, es, hs⟩ := c_near (m := v_m V j) (g := g) (by omega) (by omega) hg hg2
      obtain ⟨r, er, hr⟩ := ih n (j + 1) (a &&& (s ^^^ (-1 : Int64))) (by omega) (by omega)
      refine ⟨r, ?_, fun k hk => ?_⟩
      · rw [f_X5_freeMinutes_L7, h.1, if_neg (by rw [iI_leN (by omega) (by omega)]; omega), nn_ixN (by omega) (by omega), iI_cN (by omega), (h.2.2.2 j (by omega)).2.1, es, Option.bind_some, iI_s]
        exact er
      · rw [hr k hk, bitL_and, bitL_not s hk, hs k hk, al, Bool.and_eq_true]
        have ef : (frp V (k : Int) g j = true) ↔ g ≤ gapI (k : Int) (v_m V j) := by unfold frp; rw [decide_eq_true_eq]
        rw [ef]
        constructor
        · rintro ⟨⟨z1, z2⟩, z3⟩
          exact ⟨z1, fun z4 => ⟨Int.not_lt.1 (fun z5 => z2 ⟨z4, z5⟩), z3 z4⟩⟩
        · rintro ⟨z1, z2⟩
          exact ⟨⟨z1, fun z3 => absurd (z2 z3.1).1 (Int.not_le.2 z3.2)⟩, fun z4 => (z2 z4).2⟩
  obtain ⟨r, er, hr⟩ := key (v_n V) 100000 0 (1152921504606846975 : Int64) (by omega) (by omega)
  refine ⟨r, er, fun k hk => ?_⟩
  rw [hr k hk, all_bit hk]
  constructor
  · rintro ⟨z1, z2⟩
    refine ⟨z1, ?_⟩
    unfold FP
    rw [decide_eq_true z1, Bool.true_and]
    exact z2 z1
  · rintro ⟨z1, z2⟩
    unfold FP at z2
    rw [decide_eq_true z1, Bool.true_and] at z2
    exact ⟨z1, fun _ => z2⟩
theorem m_free53 {m : nMd} {V : nSV} (h : rN m V) (ok : okV V) {g : Int} {t : Nat} (hg : 0 ≤ g) (hg2 : g ≤ 30) (ht : t < 60) (u2 : Int32) (u3 u5 u7 : Int64) (K : Int32 → Int32 → Int64 → Int64 → Int64 → Int32 → Int32 → Int32 → Option (Int64)) : ∀ (d n j : Nat) (b : Bool), j + d = v_n V → d < n → f_X7_free_L53 m n (iI g) u2 u3 u5 u7 (iI t) (if b = true then 1 else 0) (iI j) K = K (iI g) u2 u3 u5 u7 (iI t) (if (b && al (frp V (t : Int) g) j d) = true then 1 else 0) (iI (v_n V)) := by
  have hn := ok.1
  intro d
  induction d with
  | zero =>
    intro n j b hj hd
    obtain ⟨n, rfl, -⟩ := fuel hd
    obtain rfl : j = v_n V := by omega
    rw [f_X7_free_L53, m_n h, if_pos (by rw [iI_leN (by omega) (by omega)]; omega), al, Bool.and_true]
  | succ d ih =>
    intro n j b hj hd
    obtain ⟨n, rfl, hd2⟩ := fuel hd
    have hj2 : j < v_n V := by omega
    have o1 := ok.2.1 j hj2
    have gb := gapI_b (v_m V j) (t : Int)
    have z1 : ¬ iI ((v_n V : Nat) : Int) ≤ iI (j : Int) := by rw [iI_leN (by omega) (by omega)]; omega
    rw [f_X7_free_L53, m_n h, if_neg z1, al, iI_s]
    cases b
    · have := ih n (j + 1) false (by omega) (by omega)
      simp only [Bool.false_and, if_neg (show ¬ false = true by decide)] at this ⊢
      rw [if_true]; exact this
    · simp only [if_true, if_neg one0, Bool.true_and]
      rw [m_minute h ok hj2, Option.bind_some, m_between (by omega) (by omega) (by omega) (by omega), Option.bind_some]
      have e : frp V (t : Int) g j = decide (g ≤ gapI (v_m V j) (t : Int)) := by unfold frp; rw [gapI_comm]
      rw [e]
      by_cases q : g ≤ gapI (v_m V j) (t : Int)
      · have := ih n (j + 1) true (by omega) (by omega)
        simp only [if_true, Bool.true_and] at this
        rw [if_neg (by rw [iI_lt (by omega) (by omega) (by omega) (by omega)]; omega), this, decide_eq_true q, Bool.true_and]
      · have := ih n (j + 1) false (by omega) (by omega)
        simp only [Bool.false_and, if_neg (show ¬ false = true by decide)] at this
        rw [if_pos (by rw [iI_lt (by omega) (by omega) (by omega) (by omega)]; omega), this, decide_eq_false q, Bool.false_and, if_neg (show ¬ false = true by decide)]
theorem m_free42 {m : nMd} {V : nSV} (h : rN m V) (ok : okV V) {g : Int} (hg : 0 ≤ g) (hg2 : g ≤ 30) (u2 : Int32) (K : Int32 → Int32 → Int64 → Int64 → Int64 → Int32 → Option (Int64)) : ∀ (d n : Nat) (a : Int64) (x y : Int), d ≤ 60 → d < n → ∃ r, (∀ k, k < 64 → (bitL r k ↔ (bitL a k ∨ (k < d ∧ FP V g k = true)))) ∧ f_X7_free_L42 m n (iI g) u2 a (iL x) (iL y) (iI ((d : Int) - 1)) K = K (iI g) u2 r (iL (x + (CN (FP V g) d : Nat))) (iL (FM (FP V g) d y)) (iI (-1)) := by
  intro d
  induction d with
  | zero =>
    intro n a x y hd60 hd
    obtain ⟨n, rfl, -⟩ := fuel hd
    refine ⟨a, fun k _ => ⟨Or.inl, fun q => q.elim id (fun z => absurd z.1 (by omega))⟩, ?_⟩
    rw [f_X7_free_L42, if_pos (by decide), CN, FM]
    rw [show x + ((0 : Nat) : Int) = x from by omega, show ((0 : Nat) : Int) - 1 = -1 from rfl]
  | succ d ih =>
    intro n a x y hd60 hd
    obtain ⟨n, rfl, hd2⟩ := fuel hd
    have e1 : FP V g d = al (frp V (d : Int) g) 0 (v_n V) := by unfold FP; rw [decide_eq_true (show d < 60 by omega), Bool.true_and]
    have z0 : ¬ iI (((d + 1 : Nat) : Int) - 1) < 0 := by rw [show (0 : Int32) = iI 0 from rfl, iI_lt (by omega) (by omega) (by omega) (by omega)]; omega
    rw [f_X7_free_L42, if_neg z0, show ((d + 1 : Nat) : Int) - 1 = (d : Int) from by omega]
    have hk := m_free53 h ok hg hg2 (show d < 60 by omega) u2 a (iL x) (iL y) (fun b1_15 b2_16 b3_17 b5_18 b7_19 b9_20 b10_21 b11_22 => if b10_21 = 0 then f_X7_free_J111 m b1_15 b2_16 b5_18 b7_19 b9_20 b10_21 (0 : Int64) b3_17 (fun u1 u2 u3 u5 u7 u9 => f_X7_free_L42 m n u1 u2 u3 u5 u7 u9 K) K else f_X7_free_J111 m b1_15 b2_16 b5_18 b7_19 b9_20 b10_21 ((1 : Int64) <<< (b9_20.toInt64 &&& 63)) b3_17 (fun u1 u2 u3 u5 u7 u9 => f_X7_free_L42 m n u1 u2 u3 u5 u7 u9 K) K) (v_n V) 100000 0 true (by omega) (by have := ok.1; omega)
    simp only [if_true, Bool.true_and] at hk
    rw [show (iI ((0 : Nat) : Int)) = (0 : Int32) from rfl] at hk
    rw [hk, ← e1]
    have em1 : iI (d : Int) + (-1 : Int32) = iI ((d : Int) - 1) := by rw [show (-1 : Int32) = iI (-1) from rfl, iI_add]; congr 1
    unfold f_X7_free_J111 f_X7_free_J125
    by_cases q : FP V g d = true
    · simp only [if_pos q, if_neg one0]
      rw [em1, iI_L (by omega) (by omega), show (1 : Int64) = iL 1 from rfl, iL_add]
      obtain ⟨r, hr, er⟩ := ih n (a ||| (iL 1 <<< ((iL (d : Int)) &&& 63))) (x + 1) (d : Int) (by omega) (by omega)
      refine ⟨r, fun k hk => ?_, ?_⟩
      · rw [hr k hk, bitL_or]
        have b1 := bitL_one (u := d) (by omega) k
        rw [iI_L (by omega) (by omega), show (1 : Int64) = iL 1 from rfl] at b1
        rw [b1]
        constructor
        · rintro ((z | z) | z)
          · exact Or.inl z
          · subst z; exact Or.inr ⟨by omega, q⟩
          · exact Or.inr ⟨by omega, z.2⟩
        · rintro (z | z)
          · exact Or.inl (Or.inl z)
          · by_cases e : k = d
            · exact Or.inl (Or.inr e)
            · exact Or.inr ⟨by omega, z.2⟩
      · rw [er, CN, FM, if_pos q, q, show c01 true = 1 from rfl, show x + 1 + ((CN (FP V g) d : Nat) : Int) = x + ((1 + CN (FP V g) d : Nat) : Int) from by omega]
    · have qf : FP V g d = false := by cases hh : FP V g d with
        | true => exact absurd hh q
        | false => rfl
      simp only [if_neg q, if_true]
      rw [em1, show (0 : Int64) = iL 0 from rfl, iL_add, show x + 0 = x from by omega]
      have ea : a ||| iL 0 = a := by
        apply Int64.toBitVec_inj.1
        rw [Int64.toBitVec_or, show (iL 0).toBitVec = 0#64 from rfl, BitVec.or_zero]
      rw [ea]
      obtain ⟨r, hr, er⟩ := ih n a x y (by omega) (by omega)
      refine ⟨r, fun k hk => ?_, ?_⟩
      · rw [hr k hk]
        constructor
        · rintro (z | z)
          · exact Or.inl z
          · exact Or.inr ⟨by omega, z.2⟩
        · rintro (z | z)
          · exact Or.inl z
          · by_cases e : k = d
            · subst e; exact absurd z.2 q
            · exact Or.inr ⟨by omega, z.2⟩
      · rw [er, CN, FM, if_neg q, qf, show c01 false = 0 from rfl, Nat.zero_add]
theorem op_free {c : nCs} {m : nMd} (h : Rel c m) (a1 a2 : Int32) : OK1 (f_X6_free c a1 a2) (f_X7_free m a1 a2) := by
  obtain ⟨g, g_1, g_2, rfl⟩ := iI_of a1
  obtain ⟨w, w_1, w_2, rfl⟩ := iI_of a2
  obtain ⟨V, v1, v2, v3⟩ := h.1
  unfold f_X6_free f_X7_free
  rw [w_1_30 g_1 g_2, i_1_30 g_1 g_2, w_0_2 w_1 w_2, i_0_2 w_1 w_2]
  simp only [Option.bind_some]
  by_cases k1 : 1 ≤ g ∧ g ≤ 30
  rotate_left
  · simp only [if_neg k1, if_true]; exact ⟨_, rfl, rfl⟩
  by_cases k2 : 0 ≤ w ∧ w ≤ 2
  rotate_left
  · simp only [if_pos k1, if_neg one0, if_neg k2, if_true]; exact ⟨_, rfl, rfl⟩
  simp only [if_pos k1, if_neg one0, if_pos k2]
  obtain ⟨r, er, hr⟩ := c_freeM v2 v1.1 (g := g) (by omega) (by omega)
  obtain ⟨s, hs, es⟩ := m_free42 v3 v1.1 (g := g) (by omega) (by omega) (iI w) (fun b1_26 b2_27 b3_28 b5_29 b7_30 b9_31 => if b2_27 = 0 then some (b3_28) else if b2_27 = (1 : Int32) then some (b5_29) else some (b7_30)) 60 100000 0 0 (-4) (by omega) (by omega)
  rw [show iL 0 = (0 : Int64) from rfl, show iL (-4) = (-4 : Int64) from rfl, show iI (((60 : Nat) : Int) - 1) = (59 : Int32) from rfl] at es
  rw [er, Option.bind_some, es]
  have hs2 : ∀ k, k < 64 → (bitL s k ↔ (k < 60 ∧ FP V g k = true)) := fun k hk => by
    rw [hs k hk]; exact ⟨fun q => q.elim (fun z => absurd z (bitL_zero k)) id, Or.inr⟩
  have mr := mask_eq hr
  have ms := mask_eq hs2
  have ers : r = s := Int64.toBitVec_inj.1 (mr.trans ms.symm)
  subst ers
  have nr : nL r = MKB (FP V g) 0 60 := by
    unfold nL
    rw [mr, BitVec.toNat_ofNat]
    exact Nat.mod_eq_of_lt (Nat.lt_trans (MKB_lt _ 60 0) (by decide))
  have hlast : ∀ k, 60 ≤ k → FP V g k = false := fun k hk => by unfold FP; rw [decide_eq_false (by omega)]; rfl
  by_cases w0 : iI w = 0
  · rw [if_pos w0, if_pos w0]; exact ⟨_, rfl, rfl⟩
  rw [if_neg w0, if_neg w0]
  by_cases w1 : iI w = 1
  · rw [if_pos w1, if_pos w1]
    have n64 : MKB (FP V g) 0 64 = MKB (FP V g) 0 60 := by
      apply Nat.eq_of_testBit_eq
      intro k
      rw [MKB_bit, MKB_bit, Nat.zero_add]
      by_cases q : k < 60
      · rw [decide_eq_true q, decide_eq_true (show k < 64 by omega)]
      · rw [hlast k (by omega), Bool.and_false, Bool.and_false]
    have c64 : CB (FP V g) 0 64 = CN (FP V g) 60 := by
      have e1 := CN_CB (FP V g) 64 0
      have e2 := CN_CB (FP V g) 4 60
      have e3 : CB (FP V g) 60 4 = 0 := by
        simp only [CB, hlast 60 (by omega), hlast 61 (by omega), hlast 62 (by omega), hlast 63 (by omega), Nat.reduceAdd]
        rfl
      have e4 : CN (FP V g) 0 = 0 := rfl
      rw [Nat.zero_add] at e1
      rw [show (60 : Nat) + 4 = 64 from rfl] at e2
      omega
    have hle := CN_le (FP V g) 60
    rw [bc_val (nr.trans n64.symm), c64, Option.bind_some, iI_L (by omega) (by omega), show (0 : Int) + ((CN (FP V g) 60 : Nat) : Int) = ((CN (FP V g) 60 : Nat) : Int) from by omega]
    exact ⟨_, rfl, rfl⟩
  rw [if_neg w1, if_neg w1]
  rcases MKB_low (FP V g) 60 0 with ⟨e, hh⟩ | ⟨t, q, ht, e, q1, q2⟩
  · have hz : r = 0 := by
      apply Int64.toBitVec_inj.1
      rw [mr, e]; rfl
    rw [if_pos (by rw [lg_eq0]; exact hz), FM_none _ 60 _ (fun k hk => by have := hh k hk; rw [Nat.zero_add] at this; exact this)]
    exact ⟨_, rfl, rfl⟩
  · have hne : ¬ r = 0 := by
      intro z
      have : nL r = 0 := by rw [z]; rfl
      rw [nr, e] at this
      have hp : 0 < 2 ^ t * (2 * q + 1) := Nat.mul_pos (Nat.two_pow_pos t) (by omega)
      omega
    rw [Nat.zero_add] at q1
    rw [if_neg (by rw [lg_eq0]; exact hne), ntz64 ht (nr.trans e), Option.bind_some, iI_L (by omega) (by omega), FM_some _ q1 (fun k hk => by have := q2 k hk; rw [Nat.zero_add] at this; exact this) 60 _ ht]
    exact ⟨_, rfl, rfl⟩
