/-! sets of villages -/
def bit (s : Int32) (j : Nat) : Prop := s.toBitVec.getLsbD j = true
theorem bit_ext {s t : Int32} (h : ∀ j, j < 32 → (bit s j ↔ bit t j)) : s = t := by
  apply Int32.toBitVec.inj
  apply BitVec.eq_of_getLsbD_eq
  intro j hj
  have := h j hj
  unfold bit at this
  cases h1 : s.toBitVec.getLsbD j <;> cases h2 : t.toBitVec.getLsbD j <;> simp_all
theorem bit_or (s t : Int32) (j : Nat) : bit (s ||| t) j ↔ bit s j ∨ bit t j := by
  unfold bit
  show (s.toBitVec ||| t.toBitVec).getLsbD j = true ↔ _
  rw [BitVec.getLsbD_or, Bool.or_eq_true]
theorem bit_zero (j : Nat) : ¬ bit 0 j := by
  unfold bit
  show ¬ (0#32).getLsbD j = true
  simp
theorem one_shl {u : Nat} (h : u < 32) : ((1 : Int32) <<< (iI u &&& 31)).toBitVec = BitVec.twoPow 32 u := by
  have key : ∀ u, u < 32 → ((1 : Int32) <<< (iI ((u : Nat) : Int) &&& 31)).toBitVec = BitVec.twoPow 32 u := by decide +kernel
  exact key u h
theorem bit_one {u : Nat} (h : u < 32) (j : Nat) : bit ((1 : Int32) <<< (iI u &&& 31)) j ↔ j = u := by
  unfold bit
  rw [one_shl h, BitVec.getLsbD_twoPow]
  simp; omega
theorem or_zero (s : Int32) : s ||| (0 : Int32) = s := bit_ext fun j _ => by rw [bit_or]; exact ⟨fun q => q.elim id (fun z => absurd z (bit_zero j)), Or.inl⟩
theorem bit_rwf {V : nSV} {i : Nat} : ∀ (d k : Nat) (a : Int32) (j : Nat), k + d ≤ 32 → (bit (fo (rwf V i) k d a) j ↔ bit a j ∨ (k ≤ j ∧ j < k + d ∧ j ≠ i ∧ v_m V j = v_m V i)) := by
  intro d
  induction d with
  | zero => intro k a j _; exact ⟨Or.inl, fun q => q.elim id (fun z => absurd z.2.1 (by omega))⟩
  | succ d ih =>
    intro k a j hk
    rw [show fo (rwf V i) k (d + 1) a = fo (rwf V i) (k + 1) d (rwf V i k a) from rfl, ih (k + 1) _ j (by omega)]
    unfold rwf
    by_cases hc : k ≠ i ∧ v_m V k = v_m V i
    · rw [if_pos hc, bit_or, bit_one (by omega)]
      constructor
      · rintro ((q | q) | q)
        · exact Or.inl q
        · subst q; exact Or.inr ⟨by omega, by omega, hc.1, hc.2⟩
        · exact Or.inr ⟨by omega, by omega, q.2.2.1, q.2.2.2⟩
      · rintro (q | q)
        · exact Or.inl (Or.inl q)
        · by_cases hj : j = k
          · exact Or.inl (Or.inr hj)
          · exact Or.inr ⟨by omega, by omega, q.2.2.1, q.2.2.2⟩
    · rw [if_neg hc]
      constructor
      · rintro (q | q)
        · exact Or.inl q
        · exact Or.inr ⟨by omega, by omega, q.2.2.1, q.2.2.2⟩
      · rintro (q | q)
        · exact Or.inl q
        · by_cases hj : j = k
          · subst hj; exact absurd ⟨q.2.2.1, q.2.2.2⟩ hc
          · exact Or.inr ⟨by omega, by omega, q.2.2.1, q.2.2.2⟩
theorem bit_RW {V : nSV} (hn : v_n V ≤ 6) (i j : Nat) : bit (RW V i) j ↔ j < v_n V ∧ j ≠ i ∧ v_m V j = v_m V i := by
  unfold RW
  rw [bit_rwf (v_n V) 0 0 j (by omega)]
  constructor
  · rintro (q | q)
    · exact absurd q (bit_zero j)
    · exact ⟨by omega, q.2.2.1, q.2.2.2⟩
  · intro q; exact Or.inr ⟨by omega, by omega, q.2.1, q.2.2⟩
theorem RW_ne {V : nSV} (hn : v_n V ≤ 6) (i : Nat) : RW V i ≠ 0 ↔ ∃ u, u < v_n V ∧ u ≠ i ∧ v_m V u = v_m V i := by
  constructor
  · intro h
    apply Classical.byContradiction
    intro hc
    apply h
    apply bit_ext
    intro j _
    rw [bit_RW hn]
    exact ⟨fun q => absurd ⟨j, q⟩ hc, fun q => absurd q (bit_zero j)⟩
  · rintro ⟨u, hu⟩ h
    have := (bit_RW hn i u).mpr hu
    rw [h] at this
    exact bit_zero u this
theorem bit_orf {f : Nat → Int32} : ∀ (d k : Nat) (a : Int32) (j : Nat), bit (fo (fun u s => s ||| f u) k d a) j ↔ bit a j ∨ ∃ u, k ≤ u ∧ u < k + d ∧ bit (f u) j := by
  intro d
  induction d with
  | zero => intro k a j; exact ⟨Or.inl, fun q => q.elim id (fun ⟨u, z⟩ => absurd z.2.1 (by omega))⟩
  | succ d ih =>
    intro k a j
    rw [show fo (fun u s => s ||| f u) k (d + 1) a = fo (fun u s => s ||| f u) (k + 1) d (a ||| f k) from rfl, ih (k + 1) _ j, bit_or]
    constructor
    · rintro ((q | q) | ⟨u, q⟩)
      · exact Or.inl q
      · exact Or.inr ⟨k, by omega, by omega, q⟩
      · exact Or.inr ⟨u, by omega, by omega, q.2.2⟩
    · rintro (q | ⟨u, q⟩)
      · exact Or.inl (Or.inl q)
      · by_cases hu : u = k
        · subst hu; exact Or.inl (Or.inr q.2.2)
        · exact Or.inr ⟨u, by omega, by omega, q.2.2⟩
theorem bit_RS {V : nSV} (hn : v_n V ≤ 6) (j : Nat) : bit (RS V) j ↔ j < v_n V ∧ ∃ u, u < v_n V ∧ u ≠ j ∧ v_m V u = v_m V j := by
  unfold RS
  rw [bit_orf (v_n V) 0 0 j]
  constructor
  · rintro (q | ⟨u, q⟩)
    · exact absurd q (bit_zero j)
    · have := (bit_RW hn u j).mp q.2.2
      exact ⟨this.1, u, by omega, fun z => this.2.1 z.symm, this.2.2.symm⟩
  · rintro ⟨hj, u, hu, hne, he⟩
    exact Or.inr ⟨u, by omega, by omega, (bit_RW hn u j).mpr ⟨hj, fun z => hne z.symm, he.symm⟩⟩
theorem RS_zero {V : nSV} (hn : v_n V ≤ 6) : RS V = 0 ↔ ∀ i j, i < v_n V → j < v_n V → i ≠ j → v_m V i ≠ v_m V j := by
  constructor
  · intro h i j hi hj hne he
    have := (bit_RS hn i).mpr ⟨hi, j, hj, fun z => hne z.symm, he.symm⟩
    rw [h] at this
    exact bit_zero i this
  · intro h
    apply bit_ext
    intro j _
    rw [bit_RS hn]
    exact ⟨fun ⟨hj, u, hu, hne, he⟩ => absurd he (h u j hu hj hne), fun q => absurd q (bit_zero j)⟩
def aaf (V : nSV) (u : Nat) (s : Int32) : Int32 := if RW V u = 0 then s else s ||| ((1 : Int32) <<< (iI u &&& 31))
theorem bit_aaf {V : nSV} : ∀ (d k : Nat) (a : Int32) (j : Nat), k + d ≤ 32 → (bit (fo (aaf V) k d a) j ↔ bit a j ∨ (k ≤ j ∧ j < k + d ∧ RW V j ≠ 0)) := by
  intro d
  induction d with
  | zero => intro k a j _; exact ⟨Or.inl, fun q => q.elim id (fun z => absurd z.2.1 (by omega))⟩
  | succ d ih =>
    intro k a j hk
    rw [show fo (aaf V) k (d + 1) a = fo (aaf V) (k + 1) d (aaf V k a) from rfl, ih (k + 1) _ j (by omega)]
    unfold aaf
    by_cases hc : RW V k = 0
    · rw [if_pos hc]
      constructor
      · rintro (q | q)
        · exact Or.inl q
        · exact Or.inr ⟨by omega, by omega, q.2.2⟩
      · rintro (q | q)
        · exact Or.inl q
        · by_cases hj : j = k
          · subst hj; exact absurd hc q.2.2
          · exact Or.inr ⟨by omega, by omega, q.2.2⟩
    · rw [if_neg hc, bit_or, bit_one (by omega)]
      constructor
      · rintro ((q | q) | q)
        · exact Or.inl q
        · subst q; exact Or.inr ⟨by omega, by omega, hc⟩
        · exact Or.inr ⟨by omega, by omega, q.2.2⟩
      · rintro (q | q)
        · exact Or.inl (Or.inl q)
        · by_cases hj : j = k
          · exact Or.inl (Or.inr hj)
          · exact Or.inr ⟨by omega, by omega, q.2.2⟩
theorem AA_RS {V : nSV} (hn : v_n V ≤ 6) : fo (aaf V) 0 (v_n V) 0 = RS V := by
  apply bit_ext
  intro j _
  rw [bit_RS hn, bit_aaf (v_n V) 0 0 j (by omega), RW_ne hn]
  constructor
  · rintro (q | q)
    · exact absurd q (bit_zero j)
    · exact ⟨by omega, q.2.2⟩
  · intro q; exact Or.inr ⟨by omega, by omega, q.2⟩
theorem m_alike {m : nMd} {V : nSV} (h : rN m V) (ok : okV V) {i : Nat} (hi : i < v_n V) : f_X7_alike m (iI i) = some (RW V i) := by
  have hn := ok.1
  have o1 := ok.2.1 i hi
  have key : ∀ (K : Int32 → Int32 → Int32 → Option Int32) (d n j : Nat) (a : Int32), j + d = v_n V → d < n → f_X7_alike_L4 m n (iI i) a (iI j) K = K (iI i) (fo (rwf V i) j d a) (iI (v_n V)) := by
    intro K d
    induction d with
    | zero =>
      intro n j a hj hd
      obtain ⟨n, rfl, -⟩ := fuel hd
      rw [f_X7_alike_L4, m_n h, if_pos (by rw [iI_leN (by omega) (by omega)]; omega)]
      obtain rfl : j = v_n V := by omega
      rfl
    | succ d ih =>
      intro n j a hj hd
      obtain ⟨n, rfl, hd2⟩ := fuel hd
      have hj2 : j < v_n V := by omega
      have o2 := ok.2.1 j hj2
      rw [f_X7_alike_L4, m_n h, if_neg (by rw [iI_leN (by omega) (by omega)]; omega), iI_s, or_zero]
      have e := ih n (j + 1) (rwf V i j a) (by omega) (by omega)
      rw [show fo (rwf V i) j (d + 1) a = fo (rwf V i) (j + 1) d (rwf V i j a) from rfl, ← e]
      by_cases h3 : j = i
      · rw [if_pos (by rw [h3]), rwf, if_neg (by omega)]
      · rw [if_neg (by rw [iI_eqN (by omega) (by omega)]; exact h3), m_minute h ok hj2, m_minute h ok hi, Option.bind_some, Option.bind_some]
        by_cases h4 : v_m V j = v_m V i
        · rw [if_pos (by rw [h4]), rwf, if_pos ⟨h3, h4⟩]
        · rw [if_neg (by rw [iI_eq (by omega) (by omega) (by omega) (by omega)]; exact h4), rwf, if_neg (fun q => h4 q.2)]
  unfold f_X7_alike
  exact key (fun b1_8 b2_9 b3_10 => some (b2_9)) (v_n V) 100000 0 0 (by omega) (by omega)
theorem m_allAlike {m : nMd} {V : nSV} (h : rN m V) (ok : okV V) : f_X7_allAlike m = some (RS V) := by
  have hn := ok.1
  have key : ∀ (K : Int32 → Int32 → Option Int32) (d n j : Nat) (a : Int32), j + d = v_n V → d < n → f_X7_allAlike_L4 m n a (iI j) K = K (fo (aaf V) j d a) (iI (v_n V)) := by
    intro K d
    induction d with
    | zero =>
      intro n j a hj hd
      obtain ⟨n, rfl, -⟩ := fuel hd
      rw [f_X7_allAlike_L4, m_n h, if_pos (by rw [iI_leN (by omega) (by omega)]; omega)]
      obtain rfl : j = v_n V := by omega
      rfl
    | succ d ih =>
      intro n j a hj hd
      obtain ⟨n, rfl, hd2⟩ := fuel hd
      rw [f_X7_allAlike_L4, m_n h, if_neg (by rw [iI_leN (by omega) (by omega)]; omega), m_alike h ok (by omega), Option.bind_some, iI_s, or_zero]
      have e := ih n (j + 1) (aaf V j a) (by omega) (by omega)
      rw [show fo (aaf V) j (d + 1) a = fo (aaf V) (j + 1) d (aaf V j a) from rfl, ← e]
      unfold aaf
      by_cases h4 : RW V j = 0
      · rw [if_pos h4, if_pos h4]
      · rw [if_neg h4, if_neg h4]
  unfold f_X7_allAlike
  rw [← AA_RS hn]
  exact key (fun b1_5 b2_6 => some (b1_5)) (v_n V) 100000 0 0 (by omega) (by omega)
theorem m_sumOf {m : nMd} {V : nSV} (h : rN m V) (ok : okV V) {k : Nat} (hk : k < 4) {g : Nat → Int} (hg : ∀ i, i < v_n V → g_Md_now m (3 + 4 * i + k) = iI (g i)) : f_X7_sumOf m (iI k) = some (iI (fo (smf g) 0 (v_n V) 0)) := by
  have hn := ok.1
  have key : ∀ (K : Int32 → Int32 → Int32 → Option Int32) (d n j : Nat) (a : Int), j + d = v_n V → d < n → f_X7_sumOf_L4 m n (iI k) (iI a) (iI j) K = K (iI k) (iI (fo (smf g) j d a)) (iI (v_n V)) := by
    intro K d
    induction d with
    | zero =>
      intro n j a hj hd
      obtain ⟨n, rfl, -⟩ := fuel hd
      rw [f_X7_sumOf_L4, m_n h, if_pos (by rw [iI_leN (by omega) (by omega)]; omega)]
      obtain rfl : j = v_n V := by omega
      rfl
    | succ d ih =>
      intro n j a hj hd
      obtain ⟨n, rfl, hd2⟩ := fuel hd
      rw [f_X7_sumOf_L4, m_n h, if_neg (by rw [iI_leN (by omega) (by omega)]; omega), m_told (by omega) hk, Option.bind_some, hg j (by omega), iI_s, iI_add]
      exact ih n (j + 1) _ (by omega) (by omega)
  unfold f_X7_sumOf
  exact key (fun b1_4 b2_5 b3_6 => some (b2_5)) (v_n V) 100000 0 0 (by omega) (by omega)
theorem m_leastGap {m : nMd} {V : nSV} (h : rN m V) (ok : okV V) : f_X7_leastGap m = some (iI (LG V)) := by
  have hn := ok.1
  have key1 : ∀ (i : Nat), i < v_n V → ∀ (K : Int32 → Int32 → Int32 → Option Int32) (d n j : Nat) (a : Int), j + d = i → d < n → 0 ≤ a → a ≤ 30 → f_X7_leastGap_L17 m n (iI a) (iI i) (iI j) K = K (iI (fo (lgf V i) j d a)) (iI i) (iI i) := by
    intro i hi K d
    induction d with
    | zero =>
      intro n j a hj hd h1 h2
      obtain ⟨n, rfl, -⟩ := fuel hd
      rw [f_X7_leastGap_L17, if_pos (by rw [iI_leN (by omega) (by omega)]; omega)]
      obtain rfl : j = i := by omega
      rfl
    | succ d ih =>
      intro n j a hj hd h1 h2
      obtain ⟨n, rfl, hd2⟩ := fuel hd
      have o1 := ok.2.1 i hi
      have o2 := ok.2.1 j (by omega)
      have hb := gapI_b (v_m V i) (v_m V j)
      have e := ih n (j + 1) (lgf V i j a) (by omega) (by omega) (lgf_b V i j h1 h2).1 (lgf_b V i j h1 h2).2
      rw [show fo (lgf V i) j (d + 1) a = fo (lgf V i) (j + 1) d (lgf V i j a) from rfl, ← e]
      rw [f_X7_leastGap_L17, if_neg (by rw [iI_leN (by omega) (by omega)]; omega), m_minute h ok hi, m_minute h ok (by omega), Option.bind_some, Option.bind_some, m_between (by omega) (by omega) (by omega) (by omega), Option.bind_some, iI_s]
      unfold lgf
      by_cases h5 : gapI (v_m V i) (v_m V j) < a
      · rw [if_neg (by rw [iI_le (by omega) (by omega) (by omega) (by omega)]; omega), if_pos h5]
      · rw [if_pos (by rw [iI_le (by omega) (by omega) (by omega) (by omega)]; omega), if_neg h5]
  have key : ∀ (K : Int32 → Int32 → Option Int32) (d n j : Nat) (a : Int), j + d = v_n V → d < n → 0 ≤ a → a ≤ 30 → f_X7_leastGap_L5 m n (iI a) (iI j) K = K (iI (fo (lgo V) j d a)) (iI (v_n V)) := by
    intro K d
    induction d with
    | zero =>
      intro n j a hj hd h1 h2
      obtain ⟨n, rfl, -⟩ := fuel hd
      rw [f_X7_leastGap_L5, m_n h, if_pos (by rw [iI_leN (by omega) (by omega)]; omega)]
      obtain rfl : j = v_n V := by omega
      rfl
    | succ d ih =>
      intro n j a hj hd h1 h2
      obtain ⟨n, rfl, hd2⟩ := fuel hd
      rw [f_X7_leastGap_L5, m_n h, if_neg (by rw [iI_leN (by omega) (by omega)]; omega)]
      rw [show (0 : Int32) = iI ((0 : Nat) : Int) from rfl, key1 j (by omega) _ j 100000 0 a (by omega) (by omega) h1 h2, iI_s]
      exact ih n (j + 1) _ (by omega) (by omega) (lgo_b V j h1 h2).1 (lgo_b V j h1 h2).2
  unfold f_X7_leastGap
  exact key (fun b1_13 b2_14 => some (b1_13)) (v_n V) 100000 0 30 (by omega) (by omega) (by omega) (by omega)
