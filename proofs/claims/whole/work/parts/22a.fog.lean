def OK3 (c : nCs) (x : Option Int32) (y : Option (Int32 × nMd)) : Prop := ∃ (r : Int32) (m' : nMd), x = some r ∧ y = some (r, m') ∧ Rel c m'
theorem zz : iI ((0 : Nat) : Int) = (0 : Int32) := rfl
/-! Euclid -/
theorem iI_remN {a b : Nat} (h2 : a < 2147483648) (h3 : 0 < b) (h4 : b < 2147483648) : iI (a : Int) - iI (a : Int) / iI (b : Int) * iI (b : Int) = iI ((a % b : Nat) : Int) := by
  rw [iI_rem (by omega) (by omega) (by omega) (by omega), Int.natCast_emod]
theorem half {b r : Nat} (hr : 0 < r) (hb : r ≤ b) : 2 * (b % r) < b := by
  have h1 := Nat.mod_lt b hr
  have h2 := Nat.div_add_mod b r
  have h3 : 1 ≤ b / r := Nat.div_pos hb hr
  have h4 : r * 1 ≤ r * (b / r) := Nat.mul_le_mul_left r h3
  omega
theorem c_gcd : ∀ (k n t a b : Nat), a < 2147483648 → b < 2147483648 → b < 2 ^ k → t + 2 * k < 64 → 2 * k < n → f_X6_greatestDivisor_L7 n (iI a) (iI b) (iI t) (fun b2_4 b3_5 b4_6 => some (b2_4)) = some (iI (Nat.gcd b a : Nat)) := by
  intro k
  induction k with
  | zero =>
    intro n t a b ha hb hk ht hn
    obtain ⟨n, rfl, -⟩ := fuel hn
    obtain rfl : b = 0 := by have : (2 : Nat) ^ 0 = 1 := rfl; omega
    rw [f_X6_greatestDivisor_L7, if_neg (by rw [show (64 : Int32) = iI ((64 : Nat) : Int) from rfl, iI_leN (by omega) (by omega)]; omega), if_pos zz, Nat.gcd_zero_left]
  | succ k ih =>
    intro n t a b ha hb hk ht hn
    obtain ⟨n, rfl, -⟩ := fuel hn
    have z1 : ¬ (64 : Int32) ≤ iI (t : Int) := by rw [show (64 : Int32) = iI ((64 : Nat) : Int) from rfl, iI_leN (by omega) (by omega)]; omega
    rw [f_X6_greatestDivisor_L7, if_neg z1]
    by_cases b0 : b = 0
    · subst b0; rw [if_pos zz, Nat.gcd_zero_left]
    · have z2 : ¬ iI (b : Int) = 0 := by rw [show (0 : Int32) = iI ((0 : Nat) : Int) from rfl, iI_eqN (by omega) (by omega)]; exact b0
      rw [if_neg z2, nn_nzo (by omega) (by omega) (by omega), iI_remN ha (by omega) hb, iI_s]
      obtain ⟨n, rfl, -⟩ := fuel (show 0 < n by omega)
      have hr : a % b < b := Nat.mod_lt _ (by omega)
      have z3 : ¬ (64 : Int32) ≤ iI ((t + 1 : Nat) : Int) := by rw [show (64 : Int32) = iI ((64 : Nat) : Int) from rfl, iI_leN (by omega) (by omega)]; omega
      rw [f_X6_greatestDivisor_L7, if_neg z3, Nat.gcd_rec b a]
      by_cases r0 : a % b = 0
      · rw [r0, if_pos zz, Nat.gcd_zero_left]
      · have z4 : ¬ iI ((a % b : Nat) : Int) = 0 := by rw [show (0 : Int32) = iI ((0 : Nat) : Int) from rfl, iI_eqN (by omega) (by omega)]; exact r0
        rw [if_neg z4, nn_nzo (by omega) (by omega) (by omega), iI_remN hb (by omega) (by omega), iI_s]
        have hh := half (b := b) (r := a % b) (by omega) (by omega)
        rw [Nat.pow_succ] at hk
        rw [ih n (t + 1 + 1) (a % b) (b % (a % b)) (by omega) (by omega) (by omega) (by omega) (by omega), Nat.gcd_rec (a % b) b]
theorem m_gcd {m : nMd} {u2 u3 u4 : Int32} (K : nMd → Int32 → Int32 → Int32 → Int32 → Int32 → Option (Int32 × nMd)) : ∀ (k n a b : Nat), a < 2147483648 → b < 2147483648 → b < 2 ^ k → 2 * k < n → f_X7_fog_L175 n m u2 u3 u4 (iI a) (iI b) K = K m u2 u3 u4 (iI (Nat.gcd b a : Nat)) (iI ((0 : Nat) : Int)) := by
  intro k
  induction k with
  | zero =>
    intro n a b ha hb hk hn
    obtain ⟨n, rfl, -⟩ := fuel hn
    obtain rfl : b = 0 := by have : (2 : Nat) ^ 0 = 1 := rfl; omega
    rw [f_X7_fog_L175, if_pos zz, Nat.gcd_zero_left]
  | succ k ih =>
    intro n a b ha hb hk hn
    obtain ⟨n, rfl, -⟩ := fuel hn
    rw [f_X7_fog_L175]
    by_cases b0 : b = 0
    · subst b0; rw [if_pos zz, Nat.gcd_zero_left]
    · have z2 : ¬ iI (b : Int) = 0 := by rw [show (0 : Int32) = iI ((0 : Nat) : Int) from rfl, iI_eqN (by omega) (by omega)]; exact b0
      rw [if_neg z2, nn_nzo (by omega) (by omega) (by omega), iI_remN ha (by omega) hb]
      obtain ⟨n, rfl, -⟩ := fuel (show 0 < n by omega)
      have hr : a % b < b := Nat.mod_lt _ (by omega)
      rw [f_X7_fog_L175, Nat.gcd_rec b a]
      by_cases r0 : a % b = 0
      · rw [r0, if_pos zz, Nat.gcd_zero_left]
      · have z4 : ¬ iI ((a % b : Nat) : Int) = 0 := by rw [show (0 : Int32) = iI ((0 : Nat) : Int) from rfl, iI_eqN (by omega) (by omega)]; exact r0
        rw [if_neg z4, nn_nzo (by omega) (by omega) (by omega), iI_remN hb (by omega) (by omega)]
        have hh := half (b := b) (r := a % b) (by omega) (by omega)
        rw [Nat.pow_succ] at hk
        rw [ih n (a % b) (b % (a % b)) (by omega) (by omega) (by omega) (by omega), Nat.gcd_rec (a % b) b]
/-! sets of late ones -/
theorem isIn_tab : ∀ s, s < 64 → ∀ v, v < 6 → ((iI ((s : Nat) : Int) >>> (iI ((v : Nat) : Int) &&& 31)) &&& (1 : Int32)) = (if s.testBit v = true then 1 else 0) := by decide +kernel
theorem c_isIn {s v : Nat} (hs : s < 64) (hv : v < 6) : f_X6_isIn (iI s) (iI v) = some (if s.testBit v = true then 1 else 0) := by
  unfold f_X6_isIn
  rw [isIn_tab s hs v hv]
  by_cases q : s.testBit v = true
  · simp only [if_pos q, if_neg one0]
  · simp only [if_neg q, if_true]
theorem shl_tab : ∀ n, n < 7 → ((1 : Int32) <<< (iI ((n : Nat) : Int) &&& 31)) = iI ((2 ^ n : Nat) : Int) := by decide +kernel
def pf (c : Int) (s v : Nat) (a : Int) : Int := a * (if s.testBit v = true then c else 10 - c)
def PW (c : Int) (n s : Nat) : Int := fo (pf c s) 0 n 1
theorem pf_nn {c : Int} (h1 : 0 ≤ c) (h2 : c ≤ 10) (s : Nat) : ∀ d j a, 0 ≤ a → 0 ≤ fo (pf c s) j d a := by
  intro d
  induction d with
  | zero => intro j a ha; exact ha
  | succ d ih =>
    intro j a ha
    refine ih (j + 1) _ ?_
    unfold pf
    refine Int.mul_nonneg ha ?_
    split <;> omega
theorem PW_nn {c : Int} (h1 : 0 ≤ c) (h2 : c ≤ 10) (n s : Nat) : 0 ≤ PW c n s := pf_nn h1 h2 s n 0 1 (by omega)
theorem PW_sum : ∀ c : Nat, c < 11 → ∀ n, n < 7 → fo (fun s (a : Int) => a + PW (c : Int) n s) 0 (2 ^ n) 0 = 10 ^ n := by decide +kernel
noncomputable def LV (s : Nat) : Nat → nSV → nSV
  | 0, V => V
  | j + 1, V => SM (LV s j V) j ((v_m (LV s j V) j + (c01 (s.testBit j) : Nat)) % 60)
theorem LV_ok {V : nSV} (ok : okV V) (s : Nat) : ∀ j, okV (LV s j V) := by
  intro j
  induction j with
  | zero => exact ok
  | succ j ih => exact ok_SM ih (by omega) (by omega)
theorem LV_n (V : nSV) (s : Nat) : ∀ j, v_n (LV s j V) = v_n V := by
  intro j
  induction j with
  | zero => rfl
  | succ j ih => exact ih
theorem LV_m (V : nSV) (s : Nat) : ∀ j i, v_m (LV s j V) i = if i < j then (v_m V i + (c01 (s.testBit i) : Nat)) % 60 else v_m V i := by
  intro j
  induction j with
  | zero => intro i; rw [if_neg (by omega)]; rfl
  | succ j ih =>
    intro i
    show (if i = j then (v_m (LV s j V) j + (c01 (s.testBit j) : Nat)) % 60 else v_m (LV s j V) i) = _
    by_cases e : i = j
    · subst e; rw [if_pos rfl, if_pos (by omega), ih, if_neg (by omega)]
    · rw [if_neg e, ih]
      by_cases q : i < j
      · rw [if_pos q, if_pos (by omega)]
      · rw [if_neg q, if_neg (by omega)]
theorem sm_tab : ∀ k, k < 60 → (((iI ((k : Nat) : Int)).toInt64 &&& 63).toBitVec.smod 64).toNat = k := by decide +kernel
theorem bitL_test {x : Int64} {k : Nat} (hk : k < 60) : (lg_cmp ((x >>> ((iI k).toInt64 &&& 63)) &&& (1 : Int64)) (0 : Int64) = 0) ↔ ¬ bitL x k := by
  rw [lg_eq0]
  have e : ((x >>> ((iI k).toInt64 &&& 63)) &&& (1 : Int64)).toBitVec.getLsbD 0 = x.toBitVec.getLsbD k := by
    rw [Int64.toBitVec_and, BitVec.getLsbD_and, show (1 : Int64).toBitVec.getLsbD 0 = true from by decide, Bool.and_true, Int64.toBitVec_shiftRight, BitVec.sshiftRight_eq', sm_tab k hk, BitVec.getLsbD_sshiftRight]
    rw [decide_eq_false (show ¬ 64 ≤ 0 by omega), if_pos (show k + 0 < 64 by omega)]; rfl
  unfold bitL
  constructor
  · intro q
    rw [q] at e
    rw [← e]; decide
  · intro q
    apply Int64.toBitVec_inj.1
    apply BitVec.eq_of_getLsbD_eq
    intro i hi
    rw [show (0 : Int64).toBitVec = 0#64 from rfl, BitVec.getLsbD_zero]
    cases i with
    | zero => rw [e]; exact Bool.eq_false_iff.2 q
    | succ i =>
      rw [Int64.toBitVec_and, BitVec.getLsbD_and, show (1 : Int64).toBitVec = BitVec.twoPow 64 0 from by decide, BitVec.getLsbD_twoPow, decide_eq_false (show ¬ 0 = i + 1 by omega), Bool.and_false, Bool.and_false]
theorem c_apart {x : nVl} {V : nSV} (h : rC x V) (ok : okV V) {s : Nat} (hs : s < 64) : f_X5_isApartWith x (iI s) = some (if RS (LV s (v_n V) V) = 0 then 1 else 0) := by
  have hn := ok.1
  have okL := LV_ok ok s (v_n V)
  have hz := RS_zero (V := LV s (v_n V) V) (by rw [LV_n]; exact hn)
  rw [LV_n] at hz
  have hm : ∀ i, i < v_n V → v_m (LV s (v_n V) V) i = (v_m V i + (c01 (s.testBit i) : Nat)) % 60 := fun i hi => by rw [LV_m, if_pos hi]
  have key : ∀ (d n j : Nat) (tk : Int64), j + d = v_n V → d < n → (∀ k, k < 60 → (bitL tk k ↔ ∃ u, u < j ∧ v_m (LV s (v_n V) V) u = (k : Int))) → (∀ i u, i < j → u < j → i ≠ u → v_m (LV s (v_n V) V) i ≠ v_m (LV s (v_n V) V) u) → f_X5_isApartWith_L5 x n (iI s) tk (iI j) (fun b1_10 b2_11 b4_12 => some ((1 : Int32))) = some (if RS (LV s (v_n V) V) = 0 then 1 else 0) := by
    intro d
    induction d with
    | zero =>
      intro n j tk hj hd ht hd2
      obtain ⟨n, rfl, -⟩ := fuel hd
      rw [f_X5_isApartWith_L5, h.1, if_pos (by rw [iI_leN (by omega) (by omega)]; omega), if_pos]
      rw [hz]
      exact fun i u hi hu => hd2 i u (by omega) (by omega)
    | succ d ih =>
      intro n j tk hj hd ht hdist
      obtain ⟨n, rfl, hd2⟩ := fuel hd
      have hj2 : j < v_n V := by omega
      have o1 := ok.2.1 j hj2
      have z1 : ¬ iI ((v_n V : Nat) : Int) ≤ iI (j : Int) := by rw [iI_leN (by omega) (by omega)]; omega
      have emu := hm j hj2
      have rest : f_X5_isApartWith_J45 x (iI s) tk (iI j) (iI (v_m (LV s (v_n V) V) j)) (fun u1 u2 u4 => f_X5_isApartWith_L5 x n u1 u2 u4 (fun b1_10 b2_11 b4_12 => some ((1 : Int32)))) (fun b1_10 b2_11 b4_12 => some ((1 : Int32))) = some (if RS (LV s (v_n V) V) = 0 then 1 else 0) := by
        obtain ⟨k, ek⟩ : ∃ k : Nat, v_m (LV s (v_n V) V) j = (k : Int) := ⟨(v_m (LV s (v_n V) V) j).toNat, by omega⟩
        have hk : k < 60 := by omega
        unfold f_X5_isApartWith_J45
        rw [ek]
        by_cases q : bitL tk k
        · rw [if_neg (fun z => (bitL_test hk).1 z q)]
          obtain ⟨u, hu, eu⟩ := (ht k hk).1 q
          rw [if_neg (fun z => (hz.1 z) j u hj2 (by omega) (by omega) (by rw [ek, eu]))]
        · rw [if_pos ((bitL_test hk).2 q), iI_s]
          refine ih n (j + 1) _ (by omega) (by omega) (fun k' hk' => ?_) (fun i u hi hu hne => ?_)
          · rw [bitL_or, bitL_one hk, ht k' hk']
            constructor
            · rintro (⟨u, hu, e⟩ | e)
              · exact ⟨u, by omega, e⟩
              · subst e; exact ⟨j, by omega, ek⟩
            · rintro ⟨u, hu, e⟩
              by_cases w : u = j
              · subst w; right; omega
              · left; exact ⟨u, by omega, e⟩
          · by_cases w1 : i = j
            · subst w1
              intro e
              exact q ((ht k hk).2 ⟨u, by omega, by rw [← e, ek]⟩)
            · by_cases w2 : u = j
              · subst w2
                intro e
                exact q ((ht k hk).2 ⟨i, by omega, by rw [e, ek]⟩)
              · exact hdist i u (by omega) (by omega) hne
      rw [f_X5_isApartWith_L5, h.1, if_neg z1, c_isIn hs (by omega), Option.bind_some]
      by_cases q : s.testBit j = true
      · simp only [if_pos q, if_neg one0]
        rw [nn_ixN (by omega) (by omega), iI_cN (by omega), (h.2.2.2 j hj2).2.1, show (1 : Int32) = iI 1 from rfl, iI_add, c_round (by omega) (by omega), Option.bind_some]
        rw [show (v_m V j + 1) % 60 = v_m (LV s (v_n V) V) j from by rw [emu, q]; rfl]
        exact rest
      · simp only [if_neg q, if_true]
        rw [nn_ixN (by omega) (by omega), iI_cN (by omega), (h.2.2.2 j hj2).2.1]
        rw [show v_m V j = v_m (LV s (v_n V) V) j from by rw [emu, show s.testBit j = false from Bool.eq_false_iff.2 q, show ((c01 false : Nat) : Int) = 0 from rfl]; omega]
        exact rest
  exact key (v_n V) 100000 0 0 (by omega) (by omega) (fun k hk => ⟨fun q => absurd q (bitL_zero k), fun ⟨u, hu, _⟩ => absurd hu (by omega)⟩) (fun i u hi => absurd hi (by omega))
